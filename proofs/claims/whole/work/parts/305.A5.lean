/-! frames: all is as it was but in the cells of X -/
def ov (X : Nat → Bool) (g h : AH) : AH := (fun b => bif X b then g.1 b else h.1 b, fun b => bif X b then g.2.1 b else h.2.1 b, fun b => bif X b then g.2.2 b else h.2.2 b)
def Fr (X : Nat → Bool) (h h' : AH) : Prop := ∃ g, h' = ov X g h
theorem Fr.refl (X : Nat → Bool) (h : AH) : Fr X h h := by
  refine ⟨h, ?_⟩
  unfold ov
  obtain ⟨h1, h2, h3⟩ := h
  refine Prod.ext (funext fun b => ?_) (Prod.ext (funext fun b => ?_) (funext fun b => ?_)) <;> (dsimp only; cases X b <;> rfl)
theorem Fr.trans {X : Nat → Bool} {h h' h'' : AH} (f : Fr X h h') (g : Fr X h' h'') : Fr X h h'' := by
  obtain ⟨u, rfl⟩ := f
  obtain ⟨v, rfl⟩ := g
  refine ⟨v, ?_⟩
  unfold ov
  refine Prod.ext (funext fun b => ?_) (Prod.ext (funext fun b => ?_) (funext fun b => ?_)) <;> (dsimp only; cases X b <;> rfl)
theorem Fr.mono {X Y : Nat → Bool} {h h' : AH} (hXY : ∀ b, X b = true → Y b = true) (f : Fr X h h') : Fr Y h h' := by
  obtain ⟨u, rfl⟩ := f
  refine ⟨ov X u h, ?_⟩
  unfold ov
  refine Prod.ext (funext fun b => ?_) (Prod.ext (funext fun b => ?_) (funext fun b => ?_)) <;>
    (dsimp only; have := hXY b; cases hx : X b <;> cases hy : Y b <;> simp_all)
theorem Fr.wI {X : Nat → Bool} {h h' : AH} {a k : Nat} {v : Int32} (f : Fr X h h') (hX : X a = true) : Fr X h (wI h' a k v) := by
  refine f.trans ⟨Pilot.CSnapWedLaw_law_r6034_35ee8a.wI h' a k v, ?_⟩
  unfold ov Pilot.CSnapWedLaw_law_r6034_35ee8a.wI up2
  refine Prod.ext (funext fun b => ?_) (Prod.ext (funext fun b => ?_) (funext fun b => ?_))
  · dsimp only
    by_cases e : b = a
    · subst e; rw [hX]; simp
    · simp only [if_neg e]; cases X b <;> rfl
  · dsimp only; cases X b <;> rfl
  · dsimp only; cases X b <;> rfl
theorem Fr.wJ {X : Nat → Bool} {h h' : AH} {a k : Nat} {v : Int64} (f : Fr X h h') (hX : X a = true) : Fr X h (wJ h' a k v) := by
  refine f.trans ⟨Pilot.CSnapWedLaw_law_r6034_35ee8a.wJ h' a k v, ?_⟩
  unfold ov Pilot.CSnapWedLaw_law_r6034_35ee8a.wJ up2
  refine Prod.ext (funext fun b => ?_) (Prod.ext (funext fun b => ?_) (funext fun b => ?_))
  · dsimp only; cases X b <;> rfl
  · dsimp only
    by_cases e : b = a
    · subst e; rw [hX]; simp
    · simp only [if_neg e]; cases X b <;> rfl
  · dsimp only; cases X b <;> rfl
theorem Fr.wR {X : Nat → Bool} {h h' : AH} {a k : Nat} {v : Option Nat} (f : Fr X h h') (hX : X a = true) : Fr X h (wR h' a k v) := by
  refine f.trans ⟨Pilot.CSnapWedLaw_law_r6034_35ee8a.wR h' a k v, ?_⟩
  unfold ov Pilot.CSnapWedLaw_law_r6034_35ee8a.wR up2
  refine Prod.ext (funext fun b => ?_) (Prod.ext (funext fun b => ?_) (funext fun b => ?_))
  · dsimp only; cases X b <;> rfl
  · dsimp only; cases X b <;> rfl
  · dsimp only
    by_cases e : b = a
    · subst e; rw [hX]; simp
    · simp only [if_neg e]; cases X b <;> rfl
theorem Fr.cp {X : Nat → Bool} {h h' : AH} {a sp dd dp n : Nat} (f : Fr X h h') (hX : X dd = true) : Fr X h (cpI h' a sp dd dp n) := by
  refine f.trans ⟨cpI h' a sp dd dp n, ?_⟩
  unfold ov cpI
  refine Prod.ext (funext fun b => ?_) (Prod.ext (funext fun b => ?_) (funext fun b => ?_))
  · dsimp only
    by_cases e : b = dd
    · subst e; rw [hX]; simp
    · simp only [if_neg e]; cases X b <;> rfl
  · dsimp only; cases X b <;> rfl
  · dsimp only; cases X b <;> rfl
/-- what lies outside stays -/
theorem Fr.I {X : Nat → Bool} {h h' : AH} (f : Fr X h h') {b : Nat} (hX : X b = false) : hI h' b = hI h b := by
  obtain ⟨u, rfl⟩ := f
  show (bif X b then _ else _) = _
  rw [hX]; rfl
theorem Fr.J {X : Nat → Bool} {h h' : AH} (f : Fr X h h') {b : Nat} (hX : X b = false) : hJ h' b = hJ h b := by
  obtain ⟨u, rfl⟩ := f
  show (bif X b then _ else _) = _
  rw [hX]; rfl
theorem Fr.R {X : Nat → Bool} {h h' : AH} (f : Fr X h h') {b : Nat} (hX : X b = false) : hR h' b = hR h b := by
  obtain ⟨u, rfl⟩ := f
  show (bif X b then _ else _) = _
  rw [hX]; rfl
theorem wI_at (h : AH) (a k : Nat) (v : Int32) (j : Nat) : hI (wI h a k v) a j = if j = k then v else hI h a j := by
  show up2 h.1 a k v a j = _
  unfold up2
  rw [if_pos rfl]
theorem wI_ne (h : AH) {a b : Nat} (k : Nat) (v : Int32) (hb : b ≠ a) : hI (wI h a k v) b = hI h b := by
  show up2 h.1 a k v b = _
  unfold up2
  rw [if_neg hb]
/-- loops with an invariant -/
theorem w_inv {α : Type} {W : Nat → α → Prop} (N : Nat) (I : Nat → α → Prop) {s0 : α} (h0 : I 0 s0) (hs : ∀ j s, j < N → I j s → (∀ s', I (j + 1) s' → W (j + 1) s') → W j s) (he : ∀ s, I N s → W N s) : W 0 s0 := by
  have key : ∀ k, k ≤ N → ∀ s, I (N - k) s → W (N - k) s := by
    intro k
    induction k with
    | zero => exact fun _ => he
    | succ k ih =>
      intro hk s hi
      refine hs _ s (by omega) hi ?_
      rw [show N - (k + 1) + 1 = N - k by omega]
      exact ih (by omega)
  have := key N (Nat.le_refl _) s0
  rw [Nat.sub_self] at this
  exact this h0
/-! piles -/
def Pile (r : Nat → Int32) : List Int32 → Prop
  | [] => True
  | a :: l => r l.length = a ∧ Pile r l
theorem Pile.up {r r' : Nat → Int32} : ∀ {l : List Int32}, Pile r l → (∀ k, k < l.length → r' k = r k) → Pile r' l
  | [], _, _ => trivial
  | a :: l, h, e => ⟨by rw [e _ (by simp)]; exact h.1, Pile.up h.2 (fun k hk => e k (by simp; omega))⟩
theorem xst_push {x y z s : Int32} {l : List Int32} (h : -3 ≤ s) : xst x y z s l = xva s x y z :: l := by unfold xst; rw [if_pos h]
theorem xst_not {x y z a : Int32} {l : List Int32} : xst x y z (-4) (a :: l) = (if a = 0 then 1 else 0) :: l := by unfold xst; rw [if_neg (by decide), if_pos rfl]
theorem xst_jo {x y z s a b : Int32} {l : List Int32} (h : ¬ -3 ≤ s) (h2 : ¬ s = -4) : xst x y z s (b :: a :: l) = xjo s a b :: l := by unfold xst; rw [if_neg h, if_neg h2]
/-- the steps that are left, the pile, and what comes of it -/
def XI (x y z : Int32) (c : List Int32) (j : Nat) (l : List Int32) : Prop := (c.drop j).foldl (fun l s => xst x y z s l) l = xev x y z c ∧ xds (c.drop j) l.length = some 1
theorem XI.start {x y z : Int32} {c : List Int32} (h : LawOK c) : XI x y z c 0 [] := ⟨rfl, h.2.1⟩
theorem XI.next {x y z : Int32} {c : List Int32} {j : Nat} {l : List Int32} (h : XI x y z c j l) (hj : j < c.length) : (-3 ≤ c[j] ∧ l.length < 24 ∧ XI x y z c (j + 1) (xva c[j] x y z :: l)) ∨ (¬ -3 ≤ c[j] ∧ c[j] = -4 ∧ ∃ a l', l = a :: l' ∧ XI x y z c (j + 1) ((if a = 0 then 1 else 0) :: l')) ∨ (¬ -3 ≤ c[j] ∧ ¬ c[j] = -4 ∧ ∃ a b l', l = b :: a :: l' ∧ XI x y z c (j + 1) (xjo c[j] a b :: l')) := by
  unfold XI at h
  rw [List.drop_eq_getElem_cons hj] at h
  obtain ⟨h1, h2⟩ := h
  simp only [List.foldl_cons] at h1
  simp only [xds, xd] at h2
  by_cases c1 : -3 ≤ c[j]
  · rw [if_pos c1] at h2
    by_cases c2 : l.length < 24
    · rw [if_pos c2] at h2
      rw [xst_push c1] at h1
      exact Or.inl ⟨c1, c2, h1, h2⟩
    · rw [if_neg c2] at h2; cases h2
  · rw [if_neg c1] at h2
    by_cases c2 : c[j] = -4
    · rw [if_pos c2] at h2
      match l, h1, h2 with
      | [], h1, h2 => simp at h2
      | a :: l', h1, h2 =>
        rw [if_pos (by simp)] at h2
        rw [c2, xst_not] at h1
        exact Or.inr (Or.inl ⟨c1, c2, a, l', rfl, h1, h2⟩)
    · rw [if_neg c2] at h2
      match l, h1, h2 with
      | [], h1, h2 => simp at h2
      | [a], h1, h2 => simp at h2
      | b :: a :: l', h1, h2 =>
        rw [if_pos (by simp)] at h2
        rw [xst_jo c1 c2] at h1
        exact Or.inr (Or.inr ⟨c1, c2, a, b, l', rfl, h1, h2⟩)
theorem XI.fin {x y z : Int32} {c : List Int32} {l : List Int32} (h : XI x y z c c.length l) : ∃ v, l = [v] ∧ v = xw c x y z := by
  unfold XI at h
  rw [List.drop_length] at h
  obtain ⟨h1, h2⟩ := h
  simp only [xds, Option.some.injEq] at h2
  match l, h1, h2 with
  | [v], h1, _ =>
    refine ⟨v, rfl, ?_⟩
    unfold xw
    rw [← h1]; rfl
