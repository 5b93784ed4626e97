/-! turns: 0 is nobody's, t + 1 is turn t -/
def upC (c : Nat → Nat) (p v : Nat) : Nat → Nat := fun x => if x = p then v else c x
def frT (cl : Nat → Nat → Bool) (x t : Nat) (c : Nat → Nat) : Bool := !anyN x (fun y => decide (c y = t + 1) && cl x y)
def fsT (g : Nat → Option (Nat → Nat)) : Nat → Nat → Option (Nat → Nat)
  | _, 0 => none
  | j, k + 1 => match g j with
    | some r => some r
    | none => fsT g (j + 1) k
def gvT (pr : Nat → Bool) (cl : Nat → Nat → Bool) (m : Nat) : Nat → Nat → (Nat → Nat) → Option (Nat → Nat)
  | 0, _, c => some c
  | f + 1, p, c => if pr p = true then fsT (fun t => if frT cl p t c = true then gvT pr cl m f (p + 1) (upC c p (t + 1)) else none) 0 m else gvT pr cl m f (p + 1) (upC c p 0)
def rtT (pr : Nat → Bool) (cl : Nat → Nat → Bool) : Nat → Nat → Nat → (Nat → Nat) → Nat × (Nat → Nat) → Nat × (Nat → Nat)
  | 0, _, many, c, s => if s.1 ≤ many then s else (many, c)
  | f + 1, p, many, c, s => if s.1 ≤ many then s else if pr p = true then lp (fun t s => if frT cl p t c = true then rtT pr cl f (p + 1) (if t = many then many + 1 else many) (upC c p (t + 1)) s else s) (many + 1) s else rtT pr cl f (p + 1) many (upC c p 0) s
section
variable {pr : Nat → Bool} {cl : Nat → Nat → Bool}
theorem frT_ext {x t : Nat} {c c' : Nat → Nat} (h : ∀ y, y < x → c y = c' y) : frT cl x t c = frT cl x t c' := by
  unfold frT
  congr 1
  rw [Bool.eq_iff_iff, anyN_iff, anyN_iff]
  constructor
  · rintro ⟨y, hy, e⟩; exact ⟨y, hy, by rw [← h y hy]; exact e⟩
  · rintro ⟨y, hy, e⟩; exact ⟨y, hy, by rw [h y hy]; exact e⟩
def Val (pr : Nat → Bool) (cl : Nat → Nat → Bool) (m p f : Nat) (c r : Nat → Nat) : Prop := (∀ x, x < p → r x = c x) ∧ ∀ x, p ≤ x → x < p + f → (pr x = false → r x = 0) ∧ (pr x = true → ∃ t, t < m ∧ r x = t + 1 ∧ frT cl x t r = true)
def Lex (p f : Nat) (r r' : Nat → Nat) : Prop := (∀ x, p ≤ x → x < p + f → r x = r' x) ∨ ∃ x, p ≤ x ∧ x < p + f ∧ (∀ y, p ≤ y → y < x → r y = r' y) ∧ r x < r' x
theorem lex_cons {p f : Nat} {r r' : Nat → Nat} (h : r p = r' p) (l : Lex (p + 1) f r r') : Lex p (f + 1) r r' := by
  rcases l with l | ⟨x, h1, h2, h3, h4⟩
  · exact Or.inl (fun x hx hx2 => by by_cases e : x = p; rw [e]; exact h; exact l x (by omega) (by omega))
  · exact Or.inr ⟨x, by omega, by omega, fun y hy hy2 => by by_cases e : y = p; rw [e]; exact h; exact h3 y (by omega) hy2, h4⟩
theorem lex_anti {p f : Nat} {r r' : Nat → Nat} (h1 : Lex p f r r') (h2 : Lex p f r' r) : ∀ x, p ≤ x → x < p + f → r x = r' x := by
  rcases h1 with h1 | ⟨x, a1, a2, a3, a4⟩
  · exact h1
  · rcases h2 with h2 | ⟨y, b1, b2, b3, b4⟩
    · exact fun z hz hz2 => (h2 z hz hz2).symm
    · exfalso
      rcases Nat.lt_trichotomy x y with h | h | h
      · have := b3 x a1 h; omega
      · subst h; omega
      · have := a3 y b1 h; omega
theorem fs_some {g : Nat → Option (Nat → Nat)} : ∀ k j r, fsT g j k = some r → ∃ t, j ≤ t ∧ t < j + k ∧ g t = some r ∧ ∀ u, j ≤ u → u < t → g u = none
  | 0, _, _, h => by cases h
  | k + 1, j, r, h => by
    unfold fsT at h
    split at h
    · rename_i r' e
      cases h
      exact ⟨j, Nat.le_refl _, by omega, e, fun u h1 h2 => by omega⟩
    · rename_i e
      obtain ⟨t, h1, h2, h3, h4⟩ := fs_some k (j + 1) r h
      exact ⟨t, by omega, by omega, h3, fun u hu hu2 => by by_cases eu : u = j; rw [eu]; exact e; exact h4 u (by omega) hu2⟩
theorem fs_none {g : Nat → Option (Nat → Nat)} : ∀ k j, fsT g j k = none → ∀ t, j ≤ t → t < j + k → g t = none
  | 0, _, _, t, h1, h2 => by omega
  | k + 1, j, h, t, h1, h2 => by
    unfold fsT at h
    split at h
    · cases h
    · rename_i e
      by_cases et : t = j
      · rw [et]; exact e
      · exact fs_none k (j + 1) h t (by omega) (by omega)
theorem up_lt {c : Nat → Nat} {p v x : Nat} (h : x < p) : upC c p v x = c x := by unfold upC; rw [if_neg (by omega)]
theorem up_eq {c : Nat → Nat} {p v : Nat} : upC c p v p = v := by unfold upC; rw [if_pos rfl]
theorem val_up {m p f : Nat} {c r : Nat → Nat} (h : Val pr cl m p (f + 1) c r) : Val pr cl m (p + 1) f (upC c p (r p)) r := by
  refine ⟨fun x hx => ?_, fun x hx hx2 => h.2 x (by omega) (by omega)⟩
  by_cases e : x = p
  · rw [e, up_eq]
  · rw [up_lt (by omega)]; exact h.1 x (by omega)
theorem val_dn {m p f v : Nat} {c r : Nat → Nat} (h : Val pr cl m (p + 1) f (upC c p v) r) (h0 : pr p = false → v = 0) (h1 : pr p = true → ∃ t, t < m ∧ v = t + 1 ∧ frT cl p t c = true) : Val pr cl m p (f + 1) c r := by
  have ev : r p = v := (h.1 p (by omega)).trans up_eq
  have eb : ∀ x, x < p → r x = c x := fun x hx => (h.1 x (by omega)).trans (up_lt hx)
  refine ⟨eb, fun x hx hx2 => ?_⟩
  by_cases e : x = p
  · subst e
    refine ⟨fun e0 => ev.trans (h0 e0), fun e1 => ?_⟩
    obtain ⟨t, a1, a2, a3⟩ := h1 e1
    exact ⟨t, a1, ev.trans a2, by rw [frT_ext eb]; exact a3⟩
  · exact h.2 x (by omega) (by omega)
theorem gv_A {m : Nat} : ∀ f p c, (∀ r, gvT pr cl m f p c = some r → Val pr cl m p f c r ∧ ∀ r', Val pr cl m p f c r' → Lex p f r r') ∧ (gvT pr cl m f p c = none → ∀ r', ¬ Val pr cl m p f c r')
  | 0, p, c => ⟨fun r h => by
      cases h
      exact ⟨⟨fun _ _ => rfl, fun x h1 h2 => by omega⟩, fun r' _ => Or.inl (fun x h1 h2 => by omega)⟩, fun h => by cases h⟩
  | f + 1, p, c => by
    have hs : gvT pr cl m (f + 1) p c = if pr p = true then fsT (fun t => if frT cl p t c = true then gvT pr cl m f (p + 1) (upC c p (t + 1)) else none) 0 m else gvT pr cl m f (p + 1) (upC c p 0) := rfl
    rw [hs]
    by_cases hp : pr p = true
    · rw [if_pos hp]
      constructor
      · intro r h
        obtain ⟨t, -, h2, h3, h4⟩ := fs_some _ _ _ h
        have h3' : (if frT cl p t c = true then gvT pr cl m f (p + 1) (upC c p (t + 1)) else none) = some r := h3
        split at h3'
        · rename_i ef
          obtain ⟨a1, a2⟩ := (gv_A f (p + 1) (upC c p (t + 1))).1 r h3'
          have ev : r p = t + 1 := (a1.1 p (by omega)).trans up_eq
          refine ⟨val_dn a1 (fun e => by rw [hp] at e; cases e) (fun _ => ⟨t, by omega, rfl, ef⟩), fun r' h' => ?_⟩
          obtain ⟨t', b1, b2, b3⟩ := (h'.2 p (Nat.le_refl _) (by omega)).2 hp
          have b4 := val_up h'
          rw [b2] at b4
          have b5 : frT cl p t' c = true := by rw [← frT_ext h'.1]; exact b3
          rcases Nat.lt_trichotomy t t' with l | l | l
          · exact Or.inr ⟨p, Nat.le_refl _, by omega, fun y h1 h2 => by omega, by omega⟩
          · subst l
            exact lex_cons (by rw [ev, b2]) (a2 r' b4)
          · have := h4 t' (by omega) l
            have this : (if frT cl p t' c = true then gvT pr cl m f (p + 1) (upC c p (t' + 1)) else none) = none := this
            rw [if_pos b5] at this
            exact absurd b4 ((gv_A f (p + 1) (upC c p (t' + 1))).2 this r')
        · cases h3'
      · intro h r' h'
        obtain ⟨t', b1, b2, b3⟩ := (h'.2 p (Nat.le_refl _) (by omega)).2 hp
        have b4 := val_up h'
        rw [b2] at b4
        have b5 : frT cl p t' c = true := by rw [← frT_ext h'.1]; exact b3
        have this : (if frT cl p t' c = true then gvT pr cl m f (p + 1) (upC c p (t' + 1)) else none) = none := fs_none _ _ h t' (by omega) (by omega)
        rw [if_pos b5] at this
        exact (gv_A f (p + 1) (upC c p (t' + 1))).2 this r' b4
    · rw [if_neg hp]
      have hp' : pr p = false := by cases e : pr p; rfl; exact absurd e hp
      constructor
      · intro r h
        obtain ⟨a1, a2⟩ := (gv_A f (p + 1) (upC c p 0)).1 r h
        have ev : r p = 0 := (a1.1 p (by omega)).trans up_eq
        refine ⟨val_dn a1 (fun _ => rfl) (fun e => absurd e hp), fun r' h' => ?_⟩
        have e0 := (h'.2 p (Nat.le_refl _) (by omega)).1 hp'
        have b4 := val_up h'
        rw [e0] at b4
        exact lex_cons (by rw [ev, e0]) (a2 r' b4)
      · intro h r' h'
        have e0 := (h'.2 p (Nat.le_refl _) (by omega)).1 hp'
        have b4 := val_up h'
        rw [e0] at b4
        exact (gv_A f (p + 1) (upC c p 0)).2 h r' b4
/-- turns that are taken in the order of the people -/
def RG (pr : Nat → Bool) (cl : Nat → Nat → Bool) : Nat → Nat → Nat → (Nat → Nat) → (Nat → Nat) → Nat → Prop
  | 0, p, many, c, r, cnt => (∀ x, x < p → r x = c x) ∧ cnt = many
  | f + 1, p, many, c, r, cnt => (pr p = false ∧ RG pr cl f (p + 1) many (upC c p 0) r cnt) ∨ (pr p = true ∧ ∃ t, t ≤ many ∧ frT cl p t c = true ∧ RG pr cl f (p + 1) (if t = many then many + 1 else many) (upC c p (t + 1)) r cnt)
theorem rg_c : ∀ f p many c r cnt, RG pr cl f p many c r cnt → (∀ x, x < p → r x = c x) ∧ many ≤ cnt
  | 0, p, many, c, r, cnt, h => ⟨h.1, by rw [h.2]; exact Nat.le_refl _⟩
  | f + 1, p, many, c, r, cnt, h => by
    rcases h with ⟨-, h⟩ | ⟨-, t, -, -, h⟩
    · obtain ⟨h1, h2⟩ := rg_c f _ _ _ _ _ h
      exact ⟨fun x hx => (h1 x (by omega)).trans (up_lt hx), h2⟩
    · obtain ⟨h1, h2⟩ := rg_c f _ _ _ _ _ h
      exact ⟨fun x hx => (h1 x (by omega)).trans (up_lt hx), by split at h2 <;> omega⟩
/-- what a search leaves -/
def Lft (P : (Nat → Nat) → Nat → Prop) (p f : Nat) (s s' : Nat × (Nat → Nat)) : Prop := s'.1 ≤ s.1 ∧ (∀ r cnt, P r cnt → s'.1 ≤ cnt) ∧ (s' = s ∨ (s'.1 < s.1 ∧ P s'.2 s'.1 ∧ ∀ r, P r s'.1 → Lex p f s'.2 r))
theorem rt_B : ∀ f p many c s, Lft (RG pr cl f p many c) p f s (rtT pr cl f p many c s)
  | 0, p, many, c, s => by
    show Lft _ p 0 s (if s.1 ≤ many then s else (many, c))
    split
    · exact ⟨Nat.le_refl _, fun r cnt h => by have := h.2; omega, Or.inl rfl⟩
    · exact ⟨by dsimp only; omega, fun r cnt h => by have := h.2; dsimp only; omega, Or.inr ⟨by dsimp only; omega, ⟨fun _ _ => rfl, rfl⟩, fun r _ => Or.inl (fun x h1 h2 => by omega)⟩⟩
  | f + 1, p, many, c, s => by
    have hs : rtT pr cl (f + 1) p many c s = if s.1 ≤ many then s else if pr p = true then lp (fun t s => if frT cl p t c = true then rtT pr cl f (p + 1) (if t = many then many + 1 else many) (upC c p (t + 1)) s else s) (many + 1) s else rtT pr cl f (p + 1) many (upC c p 0) s := rfl
    rw [hs]
    by_cases hm : s.1 ≤ many
    · rw [if_pos hm]
      exact ⟨Nat.le_refl _, fun r cnt h => Nat.le_trans hm (rg_c _ _ _ _ _ _ h).2, Or.inl rfl⟩
    · rw [if_neg hm]
      by_cases hp : pr p = true
      · rw [if_pos hp]
        have key : ∀ n, n ≤ many + 1 → Lft (fun r cnt => ∃ t, t < n ∧ frT cl p t c = true ∧ RG pr cl f (p + 1) (if t = many then many + 1 else many) (upC c p (t + 1)) r cnt) p (f + 1) s (lp (fun t s => if frT cl p t c = true then rtT pr cl f (p + 1) (if t = many then many + 1 else many) (upC c p (t + 1)) s else s) n s) := by
          intro n
          induction n with
          | zero => exact fun _ => ⟨Nat.le_refl _, fun r cnt ⟨t, h, _⟩ => by omega, Or.inl rfl⟩
          | succ n ih =>
            intro hn
            obtain ⟨i1, i2, i3⟩ := ih (by omega)
            show Lft _ p (f + 1) s (if frT cl p n c = true then rtT pr cl f (p + 1) (if n = many then many + 1 else many) (upC c p (n + 1)) (lp _ n s) else lp _ n s)
            generalize lp (fun t s => if frT cl p t c = true then rtT pr cl f (p + 1) (if t = many then many + 1 else many) (upC c p (t + 1)) s else s) n s = u at i1 i2 i3
            by_cases hf : frT cl p n c = true
            · rw [if_pos hf]
              obtain ⟨j1, j2, j3⟩ := rt_B f (p + 1) (if n = many then many + 1 else many) (upC c p (n + 1)) u
              generalize rtT pr cl f (p + 1) (if n = many then many + 1 else many) (upC c p (n + 1)) u = w at j1 j2 j3
              refine ⟨Nat.le_trans j1 i1, fun r cnt ⟨t, h1, h2, h3⟩ => ?_, ?_⟩
              · by_cases e : t = n
                · subst e; exact j2 r cnt h3
                · exact Nat.le_trans j1 (i2 r cnt ⟨t, by omega, h2, h3⟩)
              · rcases j3 with e | ⟨k1, k2, k3⟩
                · rw [e]
                  rw [e] at j2
                  rcases i3 with e2 | ⟨l1, ⟨t0, m1, m2, m3⟩, l3⟩
                  · exact Or.inl e2
                  · refine Or.inr ⟨l1, ⟨t0, by omega, m2, m3⟩, fun r ⟨t, h1, h2, h3⟩ => ?_⟩
                    by_cases e3 : t = n
                    · subst e3
                      have v1 : u.2 p = t0 + 1 := ((rg_c _ _ _ _ _ _ m3).1 p (by omega)).trans up_eq
                      have v2 : r p = t + 1 := ((rg_c _ _ _ _ _ _ h3).1 p (by omega)).trans up_eq
                      exact Or.inr ⟨p, Nat.le_refl _, by omega, fun y a b => by omega, by omega⟩
                    · exact l3 r ⟨t, by omega, h2, h3⟩
                · refine Or.inr ⟨by omega, ⟨n, by omega, hf, k2⟩, fun r ⟨t, h1, h2, h3⟩ => ?_⟩
                  by_cases e3 : t = n
                  · subst e3
                    have v1 : w.2 p = t + 1 := ((rg_c _ _ _ _ _ _ k2).1 p (by omega)).trans up_eq
                    have v2 : r p = t + 1 := ((rg_c _ _ _ _ _ _ h3).1 p (by omega)).trans up_eq
                    exact lex_cons (by rw [v1, v2]) (k3 r h3)
                  · have := i2 r w.1 ⟨t, by omega, h2, h3⟩
                    omega
            · rw [if_neg hf]
              refine ⟨i1, fun r cnt ⟨t, h1, h2, h3⟩ => i2 r cnt ⟨t, by by_cases e : t = n; subst e; exact absurd h2 hf; omega, h2, h3⟩, ?_⟩
              rcases i3 with e2 | ⟨l1, ⟨t0, m1, m2, m3⟩, l3⟩
              · exact Or.inl e2
              · exact Or.inr ⟨l1, ⟨t0, by omega, m2, m3⟩, fun r ⟨t, h1, h2, h3⟩ => l3 r ⟨t, by by_cases e : t = n; subst e; exact absurd h2 hf; omega, h2, h3⟩⟩
        obtain ⟨k1, k2, k3⟩ := key (many + 1) (Nat.le_refl _)
        have tr : ∀ {r cnt}, RG pr cl (f + 1) p many c r cnt → ∃ t, t < many + 1 ∧ frT cl p t c = true ∧ RG pr cl f (p + 1) (if t = many then many + 1 else many) (upC c p (t + 1)) r cnt := by
          intro r cnt h
          rcases h with ⟨h, -⟩ | ⟨-, t, h1, h2, h3⟩
          · rw [hp] at h; cases h
          · exact ⟨t, by omega, h2, h3⟩
        refine ⟨k1, fun r cnt h => k2 r cnt (tr h), ?_⟩
        rcases k3 with e | ⟨l1, ⟨t, m1, m2, m3⟩, l3⟩
        · exact Or.inl e
        · exact Or.inr ⟨l1, Or.inr ⟨hp, t, by omega, m2, m3⟩, fun r h => l3 r (tr h)⟩
      · rw [if_neg hp]
        have hp' : pr p = false := by cases e : pr p; rfl; exact absurd e hp
        obtain ⟨k1, k2, k3⟩ := rt_B f (p + 1) many (upC c p 0) s
        have tr : ∀ {r cnt}, RG pr cl (f + 1) p many c r cnt → RG pr cl f (p + 1) many (upC c p 0) r cnt := by
          intro r cnt h
          rcases h with ⟨-, h⟩ | ⟨h, -⟩
          · exact h
          · exact absurd h hp
        refine ⟨k1, fun r cnt h => k2 r cnt (tr h), ?_⟩
        rcases k3 with e | ⟨l1, l2, l3⟩
        · exact Or.inl e
        · refine Or.inr ⟨l1, Or.inl ⟨hp', l2⟩, fun r h => ?_⟩
          have v1 := ((rg_c _ _ _ _ _ _ l2).1 p (by omega)).trans up_eq
          have v2 := ((rg_c _ _ _ _ _ _ (tr h)).1 p (by omega)).trans up_eq
          exact lex_cons (by rw [v1, v2]) (l3 r (tr h))
end
