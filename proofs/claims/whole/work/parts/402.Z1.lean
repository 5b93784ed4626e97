/-! the constructors are run: the heap as rows of what was written -/
abbrev GH : Type := List (Nat × Nat × Int32) × List (Nat × Nat × Int64) × List (Nat × Nat × Option Nat)
noncomputable def lkp {α : Type} (d : α) (l : List (Nat × Nat × α)) (a k : Nat) : α := List.rec (motive := fun _ => α) d (fun q _ ih => bif Nat.beq a q.1 && Nat.beq k q.2.1 then q.2.2 else ih) l
noncomputable def den (B : AH) (g : GH) : AH := (fun a k => lkp (B.1 a k) g.1 a k, fun a k => lkp (B.2.1 a k) g.2.1 a k, fun a k => lkp (B.2.2 a k) g.2.2 a k)
def BZ (B : AH) : Prop := ∀ a, a < 1000 → ∀ k, B.1 a k = 0 ∧ B.2.1 a k = 0 ∧ B.2.2 a k = none
theorem beq_f {a b : Nat} (h : ¬ a = b) : Nat.beq a b = false := by
  cases e : Nat.beq a b with
  | false => rfl
  | true => exact absurd (Nat.eq_of_beq_eq_true e) h
theorem lkp_cons {α : Type} (d : α) (b j : Nat) (v : α) (l : List (Nat × Nat × α)) (a k : Nat) : lkp d ((b, j, v) :: l) a k = if a = b ∧ k = j then v else lkp d l a k := by
  show (bif Nat.beq a b && Nat.beq k j then v else lkp d l a k) = _
  by_cases h1 : a = b
  · by_cases h2 : k = j
    · rw [if_pos ⟨h1, h2⟩, h1, h2, Nat.beq_refl, Nat.beq_refl]
      rfl
    · rw [if_neg (fun q => h2 q.2), beq_f h2, Bool.and_false]
      rfl
  · rw [if_neg (fun q => h1 q.1), beq_f h1, Bool.false_and]
    rfl
theorem lkp_free {α : Type} (d : α) (a k : Nat) : ∀ (l : List (Nat × Nat × α)), l.all (fun q => !Nat.beq q.1 a) = true → lkp d l a k = d
  | [], _ => rfl
  | (b, j, v) :: l, h => by
    rw [List.all_cons, Bool.and_eq_true] at h
    rw [lkp_cons, if_neg (fun q => ?_), lkp_free d a k l h.2]
    have h1 := h.1
    dsimp only at h1
    rw [q.1, Nat.beq_refl] at h1
    cases h1
theorem den_wI (B : AH) (g : GH) (a k : Nat) (z : Int32) : wI (den B g) a k z = den B ((a, k, z) :: g.1, g.2) := by
  refine Prod.ext (funext fun b => funext fun j => ?_) rfl
  show up2 (fun a k => lkp (B.1 a k) g.1 a k) a k z b j = lkp (B.1 b j) ((a, k, z) :: g.1) b j
  rw [lkp_cons]
  unfold up2
  by_cases h1 : b = a
  · rw [if_pos h1]
    by_cases h2 : j = k
    · rw [if_pos h2, if_pos ⟨h1, h2⟩]
    · rw [if_neg h2, if_neg (fun q => h2 q.2)]
  · rw [if_neg h1, if_neg (fun q => h1 q.1)]
theorem den_wJ (B : AH) (g : GH) (a k : Nat) (z : Int64) : wJ (den B g) a k z = den B (g.1, (a, k, z) :: g.2.1, g.2.2) := by
  refine Prod.ext rfl (Prod.ext (funext fun b => funext fun j => ?_) rfl)
  show up2 (fun a k => lkp (B.2.1 a k) g.2.1 a k) a k z b j = lkp (B.2.1 b j) ((a, k, z) :: g.2.1) b j
  rw [lkp_cons]
  unfold up2
  by_cases h1 : b = a
  · rw [if_pos h1]
    by_cases h2 : j = k
    · rw [if_pos h2, if_pos ⟨h1, h2⟩]
    · rw [if_neg h2, if_neg (fun q => h2 q.2)]
  · rw [if_neg h1, if_neg (fun q => h1 q.1)]
theorem den_wR (B : AH) (g : GH) (a k : Nat) (z : Option Nat) : wR (den B g) a k z = den B (g.1, g.2.1, (a, k, z) :: g.2.2) := by
  refine Prod.ext rfl (Prod.ext rfl (funext fun b => funext fun j => ?_))
  show up2 (fun a k => lkp (B.2.2 a k) g.2.2 a k) a k z b j = lkp (B.2.2 b j) ((a, k, z) :: g.2.2) b j
  rw [lkp_cons]
  unfold up2
  by_cases h1 : b = a
  · rw [if_pos h1]
    by_cases h2 : j = k
    · rw [if_pos h2, if_pos ⟨h1, h2⟩]
    · rw [if_neg h2, if_neg (fun q => h2 q.2)]
  · rw [if_neg h1, if_neg (fun q => h1 q.1)]
def fre (g : GH) (a : Nat) : Bool := g.1.all (fun q => !Nat.beq q.1 a) && g.2.1.all (fun q => !Nat.beq q.1 a) && g.2.2.all (fun q => !Nat.beq q.1 a)
theorem fre_at {B : AH} (hB : BZ B) {g : GH} {a : Nat} (h : fre g a = true) (ha : a < 1000) : (den B g).1 a = (fun _ => 0) ∧ (den B g).2.1 a = (fun _ => 0) ∧ (den B g).2.2 a = (fun _ => none) := by
  unfold fre at h
  rw [Bool.and_eq_true, Bool.and_eq_true] at h
  refine ⟨funext fun k => ?_, funext fun k => ?_, funext fun k => ?_⟩
  · exact (lkp_free _ a k g.1 h.1.1).trans (hB a ha k).1
  · exact (lkp_free _ a k g.2.1 h.1.2).trans (hB a ha k).2.1
  · exact (lkp_free _ a k g.2.2 h.2).trans (hB a ha k).2.2
theorem den_zH {B : AH} (hB : BZ B) {g : GH} {a : Nat} (h : fre g a = true) (ha : a < 1000) : zH (den B g) a = den B g := by
  obtain ⟨h1, h2, h3⟩ := fre_at hB h ha
  refine Prod.ext (funext fun b => ?_) (Prod.ext (funext fun b => ?_) (funext fun b => ?_))
  · show (if b = a then (fun _ => 0) else (den B g).1 b) = _
    by_cases e : b = a
    · rw [if_pos e, e, h1]
    · rw [if_neg e]
  · show (if b = a then (fun _ => 0) else (den B g).2.1 b) = _
    by_cases e : b = a
    · rw [if_pos e, e, h2]
    · rw [if_neg e]
  · show (if b = a then (fun _ => none) else (den B g).2.2 b) = _
    by_cases e : b = a
    · rw [if_pos e, e, h3]
    · rw [if_neg e]
/-- six rows at once -/
def six (g : GH) (n : Nat) : GH := (g.1, g.2.1, (n, 0, some (n + 1 + 0)) :: (n, 1, some (n + 1 + 1)) :: (n, 2, some (n + 1 + 2)) :: (n, 3, some (n + 1 + 3)) :: (n, 4, some (n + 1 + 4)) :: (n, 5, some (n + 1 + 5)) :: g.2.2)
theorem den_six {B : AH} (hB : BZ B) {g : GH} {n : Nat} (h : (fre g n && fre g (n + 1) && fre g (n + 2) && fre g (n + 3) && fre g (n + 4) && fre g (n + 5) && fre g (n + 6)) = true) (hn : n + 6 < 1000) :
    ((fun b => if n < b ∧ b ≤ n + 6 then (fun _ => 0) else (den B g).1 b, (den B g).2.1, fun b => if b = n then (fun j => if j < 6 then some (n + 1 + j) else none) else if n < b ∧ b ≤ n + 6 then (fun _ => none) else (den B g).2.2 b) : AH) = den B (six g n) := by
  simp only [Bool.and_eq_true] at h
  obtain ⟨⟨⟨⟨⟨⟨h0, h1⟩, h2⟩, h3⟩, h4⟩, h5⟩, h6⟩ := h
  have key : ∀ b, n < b ∧ b ≤ n + 6 → fre g b = true := by
    intro b hb
    rcases (show b = n + 1 ∨ b = n + 2 ∨ b = n + 3 ∨ b = n + 4 ∨ b = n + 5 ∨ b = n + 6 by omega) with rfl | rfl | rfl | rfl | rfl | rfl <;> assumption
  refine Prod.ext (funext fun b => ?_) (Prod.ext rfl (funext fun b => funext fun j => ?_))
  · show (if n < b ∧ b ≤ n + 6 then (fun _ => 0) else (den B g).1 b) = (den B g).1 b
    by_cases e : n < b ∧ b ≤ n + 6
    · rw [if_pos e, (fre_at hB (key b e) (by omega)).1]
    · rw [if_neg e]
  · show (if b = n then (fun j => if j < 6 then some (n + 1 + j) else none) else if n < b ∧ b ≤ n + 6 then (fun _ => none) else (den B g).2.2 b) j = lkp (B.2.2 b j) (six g n).2.2 b j
    unfold six
    simp only [lkp_cons]
    by_cases e : b = n
    · subst e
      rw [if_pos rfl]
      have hz : lkp (B.2.2 b j) g.2.2 b j = none := congrFun (fre_at hB h0 (by omega)).2.2 j
      rw [hz]
      rcases j with _ | _ | _ | _ | _ | _ | j <;> simp
    · simp only [e, false_and, if_false]
      by_cases e2 : n < b ∧ b ≤ n + 6
      · rw [if_pos e2]
        exact (congrFun (fre_at hB (key b e2) (by omega)).2.2 j).symm
      · rw [if_neg e2]
        rfl
theorem den_cp {B : AH} (hB : BZ B) {g : GH} {a d sp dp m : Nat} (h : (g.1.all (fun q => !Nat.beq q.1 a) && g.1.all (fun q => !Nat.beq q.1 d)) = true) (ha : a < 1000) (hd : d < 1000) : cpI (den B g) a sp d dp m = den B g := by
  rw [Bool.and_eq_true] at h
  have h1 : (den B g).1 a = fun _ => 0 := funext fun k => (lkp_free _ a k g.1 h.1).trans (hB a ha k).1
  have h2 : (den B g).1 d = fun _ => 0 := funext fun k => (lkp_free _ d k g.1 h.2).trans (hB d hd k).1
  refine Prod.ext (funext fun b => ?_) rfl
  show (if b = d then va_cpy ((den B g).1 a) ((den B g).1 d) sp dp m else (den B g).1 b) = _
  by_cases e : b = d
  · rw [if_pos e, e, h1, h2]
    funext k
    unfold va_cpy
    by_cases e2 : dp ≤ k ∧ k < dp + m
    · rw [if_pos e2]
    · rw [if_neg e2]
  · rw [if_neg e]
theorem den_I {B : AH} (hB : BZ B) {g : GH} {a k : Nat} (ha : a < 1000) : hI (den B g) a k = lkp 0 g.1 a k := by
  show lkp (B.1 a k) g.1 a k = _
  rw [(hB a ha k).1]
theorem den_J {B : AH} (hB : BZ B) {g : GH} {a k : Nat} (ha : a < 1000) : hJ (den B g) a k = lkp 0 g.2.1 a k := by
  show lkp (B.2.1 a k) g.2.1 a k = _
  rw [(hB a ha k).2.1]
theorem den_R {B : AH} (hB : BZ B) {g : GH} {a k : Nat} (ha : a < 1000) : hR (den B g) a k = lkp none g.2.2 a k := by
  show lkp (B.2.2 a k) g.2.2 a k = _
  rw [(hB a ha k).2.2]
/-! forced numbers -/
noncomputable def fN {β : Type} (n : Nat) (k : Nat → β) : β := Nat.rec (motive := fun _ => β) (k 0) (fun m _ => k (m + 1)) n
theorem fN_eq {β : Type} (n : Nat) (k : Nat → β) : fN n k = k n := by cases n <;> rfl
noncomputable def fI {β : Type} (z : Int32) (k : Int32 → β) : β := fN z.toBitVec.toNat (fun n => k (Int32.ofBitVec (BitVec.ofNat 32 n)))
theorem fI_eq {β : Type} (z : Int32) (k : Int32 → β) : fI z k = k z := by
  unfold fI
  rw [fN_eq, BitVec.ofNat_toNat]
  simp
/-! a step without the heap -/
def hz : AH := (fun _ _ => 0, fun _ _ => 0, fun _ _ => none)
def rwh (h : AH) (τ : AS) : AS := (τ.1, τ.2.1, τ.2.2.1, τ.2.2.2.1, τ.2.2.2.2.1, h)
def noH : Instr → Bool
  | .getfield _ => false
  | .putfield _ => false
  | .arraylength => false
  | _ => true
theorem q_lget_map {β γ : Type} (f : β → γ) : ∀ (l : AL) (i : Nat) (k : Value → Option β), (q_lget l i k).map f = q_lget l i (fun w => (k w).map f)
  | [], _, _ => rfl
  | none :: _, 0, _ => rfl
  | some _ :: _, 0, _ => rfl
  | none :: l, i + 1, k => q_lget_map f l i k
  | some _ :: l, i + 1, k => q_lget_map f l i k
theorem q_clr_map {β γ : Type} (f : β → γ) (a : Option Value) (k : Option Value → Option β) : (q_clr a k).map f = q_clr a (fun w => (k w).map f) := by
  unfold q_clr
  split <;> rfl
theorem map_bif {β γ : Type} (f : β → γ) (b : Bool) (x y : Option β) : Option.map f (bif b then x else y) = bif b then Option.map f x else Option.map f y := by cases b <;> rfl
theorem q_put1_map {β γ : Type} (f : β → γ) : ∀ (l : AL) (i : Nat) (v : Value) (k : AL → Option β), Option.map f (q_put1 l i v k) = q_put1 l i v (fun w => Option.map f (k w))
  | [], _, _, _ => rfl
  | _ :: l, 0, v, k => rfl
  | a :: l, 1, v, k => by
    show Option.map f (q_clr a (fun a' => q_put1 l 0 v (fun l' => k (a' :: l')))) = q_clr a (fun a' => q_put1 l 0 v (fun l' => Option.map f (k (a' :: l'))))
    rw [q_clr_map]
    congr 1
    funext a'
    exact q_put1_map f l 0 v _
  | a :: l, i + 2, v, k => q_put1_map f l (i + 1) v _
theorem q_put2_map {β γ : Type} (f : β → γ) : ∀ (l : AL) (i : Nat) (v : Value) (k : AL → Option β), Option.map f (q_put2 l i v k) = q_put2 l i v (fun w => Option.map f (k w))
  | [], _, _, _ => rfl
  | [_], 0, _, _ => rfl
  | _ :: _ :: l, 0, v, k => rfl
  | [a], 1, v, k => by
    show Option.map f (q_clr a (fun a' => none)) = q_clr a (fun a' => none)
    rw [q_clr_map]
    rfl
  | a :: b :: l, 1, v, k => by
    show Option.map f (q_clr a (fun a' => q_put2 (b :: l) 0 v (fun l' => k (a' :: l')))) = q_clr a (fun a' => q_put2 (b :: l) 0 v (fun l' => Option.map f (k (a' :: l'))))
    rw [q_clr_map]
    congr 1
    funext a'
    exact q_put2_map f (b :: l) 0 v _
  | [a], i + 2, v, k => rfl
  | a :: b :: l, i + 2, v, k => q_put2_map f (b :: l) (i + 1) v _
set_option maxHeartbeats 4000000 in
theorem s1i_h (ρ : AR) (μ : Nat) (lv : AL) (st : List Value) (n : Nat) (h : AH) (i : Instr) (nx x y : Nat) (v : Value) (hi : noH i = true) : s1i ρ μ lv st n h i nx x y v = (s1i ρ μ lv st n hz i nx x y v).map (rwh h) := by
  cases i
  all_goals first
    | rfl
    | (cases hi; done)
    | (simp only [s1i]; rw [q_lget_map]; congr 1; funext w; cases w <;> rfl)
    | (simp only [s1i]; split <;> first | rfl | (rw [q_put1_map]; rfl) | (rw [q_put2_map]; rfl))
    | (simp only [s1i]; repeat' split
       all_goals first | rfl | simp_all)
    | (simp only [s1i]; split <;> first | rfl | (simp only [map_bif]; rfl))
    | (simp only [s1i]; split <;> first | rfl | (rw [q_lget_map]; congr 1; funext w; cases w <;> first | rfl | (dsimp only; rw [q_put1_map]; rfl)))
