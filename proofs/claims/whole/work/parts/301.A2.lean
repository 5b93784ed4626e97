/-! bits -/
theorem b_pow : ∀ k, k < 31 → ∀ i, i < 32 → bt (nI (2 ^ k)) i = decide (i = k) := by decide +kernel
theorem pb_and {x : Int32} {k : Nat} (hk : k < 31) : (x &&& nI (2 ^ k)) = 0 ↔ bt x k = false := by
  constructor
  · intro h
    have := b_and x (nI (2 ^ k)) k
    rw [h, b_0, b_pow k hk k (by omega)] at this
    simp at this
    exact this
  · intro h
    apply b_ext
    intro i hi
    rw [b_and, b_0, b_pow k hk i hi]
    by_cases e : i = k
    · subst e; simp [h]
    · simp [e]
theorem pb_or {x : Int32} {k i : Nat} (hk : k < 31) (hi : i < 32) : bt (x ||| nI (2 ^ k)) i = (bt x i || decide (i = k)) := by rw [b_or, b_pow k hk i hi]
theorem b_1 : ∀ i, i < 32 → bt 1 i = decide (i = 0) := by decide +kernel
theorem sh_and {x : Int32} {k : Nat} (hk : k < 32) : (x >>> (nI k &&& 31)) &&& 1 = if bt x k = true then 1 else 0 := by
  apply b_ext
  intro i hi
  rw [b_and, b_1 i hi, b_sshr k hk x hi]
  rcases Nat.eq_zero_or_pos i with rfl | h
  · rw [if_pos (by omega)]
    by_cases e : bt x (k + 0) = true
    · simp at e; simp [e, b_1 0 (by omega)]
    · simp at e; simp [e, b_0]
  · rw [decide_eq_false (by omega), Bool.and_false]
    by_cases e : bt x k = true
    · rw [if_pos e, b_1 i hi, decide_eq_false (by omega)]
    · rw [if_neg e, b_0]
theorem one_shl : ∀ k, k < 31 → (1 : Int32) <<< (nI k &&& 31) = nI (2 ^ k) := by decide +kernel
theorem b_not (x : Int32) (i : Nat) (hi : i < 32) : bt (x ^^^ (-1)) i = !bt x i := by rw [b_xor, b_m1 i hi, Bool.xor_true]
/-- the number of a pair -/
def pr (p q : Nat) : Nat := if p < q then p * (11 - p) / 2 + q - p - 1 else q * (11 - q) / 2 + p - q - 1
theorem pr_lt : ∀ p, p < 6 → ∀ q, q < 6 → p ≠ q → pr p q < 15 := by decide +kernel
theorem pr_sym : ∀ p, p < 6 → ∀ q, q < 6 → pr p q = pr q p := by decide +kernel
/-! folds -/
def anyN (n : Nat) (c : Nat → Bool) : Bool := lp (fun j b => b || c j) n false
theorem anyN_iff (n : Nat) (c : Nat → Bool) : anyN n c = true ↔ ∃ j, j < n ∧ c j = true := by
  unfold anyN
  induction n with
  | zero => simp [lp]
  | succ n ih =>
    simp only [lp, Bool.or_eq_true, ih]
    constructor
    · rintro (⟨j, hj, e⟩ | e)
      · exact ⟨j, by omega, e⟩
      · exact ⟨n, by omega, e⟩
    · rintro ⟨j, hj, e⟩
      rcases Nat.lt_or_ge j n with h | h
      · exact Or.inl ⟨j, h, e⟩
      · have : j = n := by omega
        subst this; exact Or.inr e
theorem anyN_f {n : Nat} {c : Nat → Bool} (h : anyN n c = false) {j : Nat} (hj : j < n) : c j = false := by
  cases e : c j with
  | false => rfl
  | true => rw [(anyN_iff n c).mpr ⟨j, hj, e⟩] at h; cases h
/-- an upward loop that is left as soon as something is found -/
theorem w_any {W : Nat → Prop} {A : Prop} (N : Nat) (c : Nat → Bool) (h1 : anyN N c = true → A) (h2 : anyN N c = false → W N) (hs : ∀ j, j < N → (c j = true → A) → (c j = false → W (j + 1)) → W j) : W 0 := by
  cases e : anyN N c with
  | false =>
    have key : ∀ k, k ≤ N → W (N - k) := by
      intro k
      induction k with
      | zero => exact fun _ => h2 e
      | succ k ih =>
        intro hk
        refine hs (N - (k + 1)) (by omega) (fun e2 => ?_) (fun _ => ?_)
        · rw [anyN_f e (by omega)] at e2; cases e2
        · rw [show N - (k + 1) + 1 = N - k by omega]; exact ih (by omega)
    have := key N (Nat.le_refl _)
    rwa [Nat.sub_self] at this
  | true =>
    have a := h1 e
    have key : ∀ k, k ≤ N → (∃ j, N - k ≤ j ∧ j < N ∧ c j = true) → W (N - k) := by
      intro k
      induction k with
      | zero => rintro _ ⟨j, h1, h2, _⟩; omega
      | succ k ih =>
        rintro hk ⟨j, h1, h2, h3⟩
        refine hs _ (by omega) (fun _ => a) (fun ec => ?_)
        rw [show N - (k + 1) + 1 = N - k by omega]
        refine ih (by omega) ⟨j, ?_, h2, h3⟩
        rcases Nat.eq_or_lt_of_le h1 with h4 | h4
        · subst h4; rw [ec] at h3; cases h3
        · omega
    obtain ⟨j, hj, ec⟩ := (anyN_iff N c).mp e
    have := key N (Nat.le_refl _) ⟨j, by omega, hj, ec⟩
    rwa [Nat.sub_self] at this
theorem lp_ext {α : Type} {f g : Nat → α → α} {s : α} : ∀ n, (∀ j t, j < n → f j t = g j t) → lp f n s = lp g n s
  | 0, _ => rfl
  | n + 1, h => by
    show f n (lp f n s) = g n (lp g n s)
    rw [lp_ext n (fun j t hj => h j t (by omega)), h n _ (by omega)]
/-- a set as bits -/
def setN (n : Nat) (c : Nat → Bool) : Int32 := lp (fun j s => if c j = true then s ||| nI (2 ^ j) else s) n 0
theorem setN_ext {n : Nat} {c c' : Nat → Bool} (h : ∀ j, j < n → c j = c' j) : setN n c = setN n c' := lp_ext n (fun j t hj => by rw [h j hj])
theorem setN_up {c : Nat → Bool} {n : Nat} : ∀ m, n ≤ m → (∀ j, n ≤ j → j < m → c j = false) → setN m c = setN n c := by
  intro m hm
  obtain ⟨k, rfl⟩ := Nat.le.dest hm
  clear hm
  intro h
  induction k with
  | zero => rfl
  | succ k ih =>
    show (if c (n + k) = true then _ else _) = _
    rw [h (n + k) (by omega) (by omega)]
    exact ih (fun j h1 h2 => h j h1 (by omega))
theorem setN_bt {c : Nat → Bool} : ∀ n, n ≤ 31 → ∀ i, i < 32 → bt (setN n c) i = (decide (i < n) && c i)
  | 0, _, i, _ => by show bt 0 i = _; rw [b_0]; simp
  | n + 1, hn, i, hi => by
    show bt (if c n = true then setN n c ||| nI (2 ^ n) else setN n c) i = _
    have ih := setN_bt (c := c) n (by omega) i hi
    by_cases e : i = n
    · subst e
      cases ec : c i with
      | true => rw [if_pos rfl, pb_or (by omega) hi]; simp
      | false => rw [if_neg (by simp), ih]; simp
    · have e2 : decide (i < n + 1) = decide (i < n) := by
        apply decide_eq_decide.mpr; omega
      rw [e2, ← ih]
      cases ec : c n with
      | true => rw [if_pos rfl, pb_or (by omega) hi]; simp [e]
      | false => rw [if_neg (by simp)]
/-- a number of things -/
def cntN (n : Nat) (c : Nat → Bool) : Nat := lp (fun j s => if c j = true then s + 1 else s) n 0
theorem cntN_le (c : Nat → Bool) : ∀ n, cntN n c ≤ n
  | 0 => Nat.le_refl _
  | n + 1 => by
    have := cntN_le c n
    show (if c n = true then cntN n c + 1 else cntN n c) ≤ n + 1
    split <;> omega
theorem cntN_ext {n : Nat} {c c' : Nat → Bool} (h : ∀ j, j < n → c j = c' j) : cntN n c = cntN n c' := lp_ext n (fun j t hj => by rw [h j hj])
theorem cntN_up {c : Nat → Bool} {n : Nat} : ∀ m, n ≤ m → (∀ j, n ≤ j → j < m → c j = false) → cntN m c = cntN n c := by
  intro m hm
  obtain ⟨k, rfl⟩ := Nat.le.dest hm
  clear hm
  intro h
  induction k with
  | zero => rfl
  | succ k ih =>
    show (if c (n + k) = true then _ else _) = _
    rw [h (n + k) (by omega) (by omega)]
    exact ih (fun j h1 h2 => h j h1 (by omega))
def sumN (n : Nat) (f : Nat → Nat) : Nat := lp (fun j s => s + f j) n 0
theorem sumN_le {f : Nat → Nat} {b : Nat} : ∀ n, (∀ j, j < n → f j ≤ b) → sumN n f ≤ n * b
  | 0, _ => by show 0 ≤ _; omega
  | n + 1, h => by
    have := sumN_le n (fun j hj => h j (by omega))
    have := h n (by omega)
    show sumN n f + f n ≤ _
    rw [Nat.succ_mul]; omega
theorem sumN_ext {n : Nat} {f g : Nat → Nat} (h : ∀ j, j < n → f j = g j) : sumN n f = sumN n g := lp_ext n (fun j t hj => by rw [h j hj])
/-! truth as a number -/
def b2i (b : Bool) : Int32 := if b = true then 1 else 0
/-- a number in a range -/
def inN (x : Int32) (n : Nat) : Bool := decide (0 ≤ x) && decide (x < nI n)
theorem inN_of {x : Int32} {n : Nat} (hn : n < 2 ^ 31) (h : inN x n = true) : ∃ k, k < n ∧ x = nI k := by
  simp only [inN, Bool.and_eq_true, decide_eq_true_eq] at h
  obtain ⟨j, hj, rfl⟩ := nI_of (x := x) (by intro h2; exact Int32.lt_irrefl (Int32.lt_of_le_of_lt h.1 h2))
  exact ⟨j, (nI_ltI hj hn).mp h.2, rfl⟩
theorem inN_nI {k n : Nat} (hk : k < 2 ^ 31) (hn : n < 2 ^ 31) : inN (nI k) n = decide (k < n) := by
  simp only [inN, decide_eq_true (nI_pos' hk), Bool.true_and, nI_ltI hk hn]
