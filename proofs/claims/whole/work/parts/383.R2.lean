section
variable {pr : Nat → Bool} {cl : Nat → Nat → Bool}
def swp (a b v : Nat) : Nat := if v = a then b else if v = b then a else v
theorem swp_i {a b v w : Nat} (h : swp a b v = swp a b w) : v = w := by
  unfold swp at h
  split at h <;> split at h <;> (try split at h) <;> (try split at h) <;> omega
theorem sw_val {m u v : Nat} {c r : Nat → Nat} (hu : u < m) (hv : v < m) (h : Val pr cl m 0 6 c r) : Val pr cl m 0 6 c (fun x => swp (u + 1) (v + 1) (r x)) := by
  refine ⟨fun x hx => by omega, fun x h1 h2 => ⟨fun e => ?_, fun e => ?_⟩⟩
  · show swp (u + 1) (v + 1) (r x) = 0
    rw [(h.2 x h1 h2).1 e]
    unfold swp
    rw [if_neg (by omega), if_neg (by omega)]
  · obtain ⟨t, a1, a2, a3⟩ := (h.2 x h1 h2).2 e
    refine ⟨swp (u + 1) (v + 1) (t + 1) - 1, ?_, ?_, ?_⟩
    · unfold swp; split
      · omega
      · split <;> omega
    · show swp (u + 1) (v + 1) (r x) = _
      rw [a2]
      unfold swp; split
      · omega
      · split <;> omega
    · rw [← a3]
      unfold frT
      congr 1
      refine congrArg (anyN x) (funext fun y => ?_)
      congr 1
      rw [decide_eq_decide]
      have e1 : swp (u + 1) (v + 1) (t + 1) - 1 + 1 = swp (u + 1) (v + 1) (t + 1) := by
        unfold swp; split
        · omega
        · split <;> omega
      rw [e1]
      exact ⟨fun e => swp_i e, fun e => by dsimp only; rw [e]⟩
theorem least_RG {m k : Nat} {c0 r : Nat → Nat} (hk : k ≤ 6) (hv : Val pr cl m 0 6 c0 r) (hl : ∀ r', Val pr cl m 0 6 c0 r' → Lex 0 6 r r') : ∀ f p many c, p + f = k → many ≤ m → (∀ y, y < p → r y ≤ many ∧ r y = c y) → ∃ cnt, cnt ≤ m ∧ RG pr cl f p many c r cnt
  | 0, p, many, c, hp, hm, hc => ⟨many, hm, fun x hx => (hc x hx).2, rfl⟩
  | f + 1, p, many, c, hp, hm, hc => by
    by_cases e : pr p = true
    · obtain ⟨t, a1, a2, a3⟩ := (hv.2 p (by omega) (by omega)).2 e
      have a4 : frT cl p t c = true := by rw [← frT_ext (fun y hy => (hc y hy).2)]; exact a3
      rcases Nat.lt_or_ge many t with ht | ht
      · exfalso
        have h1 := hl _ (sw_val (u := t) (v := many) a1 (by omega) hv)
        have hb : ∀ y, y < p → swp (t + 1) (many + 1) (r y) = r y := fun y hy => by
          have := (hc y hy).1
          unfold swp
          rw [if_neg (by omega), if_neg (by omega)]
        have hpv : swp (t + 1) (many + 1) (r p) = many + 1 := by unfold swp; rw [if_pos a2]
        rcases h1 with h1 | ⟨x, b1, b2, b3, b4⟩
        · have := h1 p (by omega) (by omega)
          dsimp only at this
          omega
        · dsimp only at b3 b4
          rcases Nat.lt_trichotomy x p with l | l | l
          · rw [hb x l] at b4; omega
          · subst l; omega
          · have := b3 p (by omega) l; omega
      · obtain ⟨cnt, h1, h2⟩ := least_RG hk hv hl f (p + 1) (if t = many then many + 1 else many) (upC c p (t + 1)) (by omega) (by split <;> omega) (fun y hy => by
          by_cases ey : y = p
          · subst ey; rw [up_eq, a2]; exact ⟨by split <;> omega, rfl⟩
          · have := hc y (by omega)
            rw [up_lt (by omega)]; exact ⟨by split <;> omega, this.2⟩)
        exact ⟨cnt, h1, Or.inr ⟨e, t, ht, a4, h2⟩⟩
    · have e' : pr p = false := by cases e2 : pr p; rfl; exact absurd e2 e
      have a2 := (hv.2 p (by omega) (by omega)).1 e'
      obtain ⟨cnt, h1, h2⟩ := least_RG hk hv hl f (p + 1) many (upC c p 0) (by omega) hm (fun y hy => by
        by_cases ey : y = p
        · subst ey; rw [up_eq, a2]; exact ⟨by omega, rfl⟩
        · rw [up_lt (by omega)]; exact hc y (by omega))
      exact ⟨cnt, h1, Or.inl ⟨e', h2⟩⟩
theorem rg_val : ∀ f p many c r cnt, RG pr cl f p many c r cnt → ∀ x, p ≤ x → x < p + f → (pr x = false → r x = 0) ∧ (pr x = true → ∃ t, t < cnt ∧ r x = t + 1 ∧ frT cl x t r = true)
  | 0, p, many, c, r, cnt, h, x, h1, h2 => by omega
  | f + 1, p, many, c, r, cnt, h, x, h1, h2 => by
    rcases h with ⟨e, h⟩ | ⟨e, t, ht, hf, h⟩
    · by_cases ex : x = p
      · subst ex
        exact ⟨fun _ => ((rg_c _ _ _ _ _ _ h).1 x (by omega)).trans up_eq, fun e2 => by rw [e] at e2; cases e2⟩
      · exact rg_val f _ _ _ _ _ h x (by omega) (by omega)
    · by_cases ex : x = p
      · subst ex
        have hc := rg_c _ _ _ _ _ _ h
        refine ⟨fun e2 => (by rw [e] at e2; cases e2), fun _ => ⟨t, ?_, (hc.1 x (by omega)).trans up_eq, ?_⟩⟩
        · have := hc.2; split at this <;> omega
        · rw [frT_ext (fun y hy => (hc.1 y (by omega)).trans (up_lt hy))]; exact hf
      · exact rg_val f _ _ _ _ _ h x (by omega) (by omega)
theorem rota_eq {k m : Nat} {r b : Nat → Nat} (hk : k ≤ 6) (hpr : ∀ x, k ≤ x → pr x = false) {x0 : Nat} (hx0 : pr x0 = true) (hm : m ≤ 6) (hr : gvT pr cl m 6 0 (fun _ => 0) = some r) (hmin : ∀ m', 1 ≤ m' → m' < m → gvT pr cl m' 6 0 (fun _ => 0) = none) : (rtT pr cl k 0 0 (fun _ => 0) (7, b)).1 = m ∧ ∀ x, x < k → (rtT pr cl k 0 0 (fun _ => 0) (7, b)).2 x = r x := by
  obtain ⟨v1, v2⟩ := (gv_A 6 0 (fun _ => 0)).1 r hr
  obtain ⟨cnt, c1, c2⟩ := least_RG hk v1 v2 k 0 0 (fun _ => 0) (by omega) (by omega) (fun y hy => by omega)
  obtain ⟨l1, l2, l3⟩ := rt_B (pr := pr) (cl := cl) k 0 0 (fun _ => 0) (7, b)
  have l4 := l2 r cnt c2
  generalize rtT pr cl k 0 0 (fun _ => 0) (7, b) = w at l1 l2 l3 l4
  have hx0k : x0 < k := by
    rcases Nat.lt_or_ge x0 k with h | h
    · exact h
    · rw [hpr x0 h] at hx0; cases hx0
  rcases l3 with e | ⟨k1, k2, k3⟩
  · rw [e] at l4; dsimp only at l4; omega
  · have hv := rg_val _ _ _ _ _ _ k2
    have w1 : 1 ≤ w.1 := by
      obtain ⟨t, h1, -⟩ := (hv x0 (by omega) (by omega)).2 hx0
      omega
    have vb : Val pr cl w.1 0 6 (fun _ => 0) (fun x => if x < k then w.2 x else 0) := by
      refine ⟨fun x hx => by omega, fun x h1 h2 => ?_⟩
      rcases Nat.lt_or_ge x k with h | h
      · obtain ⟨a1, a2⟩ := hv x (by omega) (by omega)
        refine ⟨fun e => by dsimp only; rw [if_pos h]; exact a1 e, fun e => ?_⟩
        obtain ⟨t, b1, b2, b3⟩ := a2 e
        exact ⟨t, b1, by dsimp only; rw [if_pos h]; exact b2, by rw [← b3]; exact frT_ext (fun y hy => if_pos (by omega))⟩
      · exact ⟨fun _ => by dsimp only; rw [if_neg (by omega)], fun e => by rw [hpr x h] at e; cases e⟩
    have em : w.1 = m := by
      rcases Nat.lt_or_ge w.1 m with h | h
      · exact absurd vb ((gv_A 6 0 (fun _ => 0)).2 (hmin w.1 w1 h) _)
      · omega
    refine ⟨em, fun x hx => ?_⟩
    rw [em] at vb
    have e1 := v2 _ vb
    have ec : cnt = w.1 := by omega
    rw [ec] at c2
    have e2 := k3 r c2
    have e3 : Lex 0 k r w.2 := by
      rcases e1 with e1 | ⟨y, b1, b2, b3, b4⟩
      · exact Or.inl (fun y h1 h2 => (e1 y h1 (by omega)).trans (if_pos (by omega)))
      · dsimp only at b3 b4
        by_cases hy : y < k
        · rw [if_pos hy] at b4
          exact Or.inr ⟨y, b1, by omega, fun z h1 h2 => (b3 z h1 h2).trans (if_pos (by omega)), b4⟩
        · rw [if_neg hy] at b4; omega
    exact (lex_anti e3 e2 x (by omega) (by omega)).symm
theorem gv_6 : gvT pr cl 6 6 0 (fun _ => 0) ≠ none := by
  intro h
  refine (gv_A 6 0 (fun _ => 0)).2 h (fun x => if pr x = true then x + 1 else 0) ⟨fun x hx => by omega, fun x h1 h2 => ⟨fun e => by dsimp only; rw [e]; rfl, fun e => ⟨x, by omega, by dsimp only; rw [if_pos e], ?_⟩⟩⟩
  unfold frT
  cases e2 : anyN x (fun y => decide ((if pr y = true then y + 1 else 0) = x + 1) && cl x y) with
  | false => rfl
  | true =>
    obtain ⟨y, hy, e3⟩ := (anyN_iff x _).mp e2
    simp only [Bool.and_eq_true, decide_eq_true_eq] at e3
    have := e3.1
    split at this <;> omega
def tuG (pr : Nat → Bool) (cl : Nat → Nat → Bool) : Nat → Nat → Nat × (Nat → Nat)
  | _, 0 => (0, fun _ => 0)
  | j, k + 1 => match gvT pr cl j 6 0 (fun _ => 0) with
    | some r => (j, r)
    | none => tuG pr cl (j + 1) k
def tuT (pr : Nat → Bool) (cl : Nat → Nat → Bool) : Nat × (Nat → Nat) := if anyN 6 pr = true then tuG pr cl 1 6 else (0, fun _ => 0)
theorem tu_I : ∀ k j, 1 ≤ j → j + k = 7 → (∀ m', 1 ≤ m' → m' < j → gvT pr cl m' 6 0 (fun _ => 0) = none) → ∃ m r, tuG pr cl j k = (m, r) ∧ 1 ≤ m ∧ m ≤ 6 ∧ gvT pr cl m 6 0 (fun _ => 0) = some r ∧ ∀ m', 1 ≤ m' → m' < m → gvT pr cl m' 6 0 (fun _ => 0) = none
  | 0, j, h1, h2, h3 => absurd (h3 6 (by omega) (by omega)) gv_6
  | k + 1, j, h1, h2, h3 => by
    unfold tuG
    split
    · rename_i r e
      exact ⟨j, r, rfl, h1, by omega, e, h3⟩
    · rename_i e
      exact tu_I k (j + 1) (by omega) (by omega) (fun m' a b => by by_cases em : m' = j; rw [em]; exact e; exact h3 m' a (by omega))
theorem tu_rt {k : Nat} {b : Nat → Nat} (hk : k ≤ 6) (hpr : ∀ x, k ≤ x → pr x = false) : (rtT pr cl k 0 0 (fun _ => 0) (7, b)).1 = (tuT pr cl).1 ∧ ∀ x, x < k → (rtT pr cl k 0 0 (fun _ => 0) (7, b)).2 x = (tuT pr cl).2 x := by
  unfold tuT
  by_cases e : anyN 6 pr = true
  · rw [if_pos e]
    obtain ⟨x0, -, e0⟩ := (anyN_iff 6 pr).mp e
    obtain ⟨m, r, e1, h1, h2, h3, h4⟩ := tu_I (pr := pr) (cl := cl) 6 1 (by omega) (by omega) (fun m' a b => by omega)
    rw [e1]
    exact rota_eq hk hpr e0 h2 h3 h4
  · rw [if_neg e]
    have hn : ∀ x, x < 6 → pr x = false := fun x hx => anyN_f (by cases e2 : anyN 6 pr; rfl; exact absurd e2 e) hx
    obtain ⟨l1, l2, l3⟩ := rt_B (pr := pr) (cl := cl) k 0 0 (fun _ => 0) (7, b)
    have key : ∀ f p, p + f ≤ 6 → ∀ c, (∀ x, c x = 0) → RG pr cl f p 0 c (fun _ => 0) 0 := by
      intro f
      induction f with
      | zero => exact fun p _ c hc => ⟨fun x _ => (hc x).symm, rfl⟩
      | succ f ih => exact fun p hp c hc => Or.inl ⟨hn p (by omega), ih (p + 1) (by omega) _ (fun x => by unfold upC; split; rfl; exact hc x)⟩
    have l4 := l2 _ _ (key k 0 (by omega) _ (fun _ => rfl))
    generalize rtT pr cl k 0 0 (fun _ => 0) (7, b) = w at l1 l2 l3 l4
    rcases l3 with e | ⟨k1, k2, k3⟩
    · rw [e] at l4; dsimp only at l4; omega
    · exact ⟨by dsimp only; omega, fun x hx => (rg_val _ _ _ _ _ _ k2 x (by omega) (by omega)).1 (hn x (by omega))⟩
end
