/-! texts, cut -/
theorem w_meas {α : Type} {W : α → Prop} (I : α → Prop) (μ : α → Nat) {s0 : α} (h0 : I s0) (hs : ∀ s, I s → (∀ s', I s' → μ s' < μ s → W s') → W s) : W s0 := by
  have key : ∀ n s, μ s < n → I s → W s := by
    intro n
    induction n with
    | zero => exact fun s h => absurd h (by omega)
    | succ n ih => exact fun s h hi => hs s hi (fun s' hi' hm => ih s' (by omega) hi')
  exact key _ s0 (Nat.lt_succ_self _) h0
/-- a token: which, where it begins, its number, its letters -/
abbrev TK : Type := Nat × Nat × Nat × List Nat
abbrev TKs : Type := Nat × (Nat → TK)
def psh (K : TKs) (x : TK) : TKs := (K.1 + 1, fun i => if i = K.1 then x else K.2 i)
def isL (c : Nat) : Bool := decide (97 ≤ c) && decide (c ≤ 122)
def isD (c : Nat) : Bool := decide (48 ≤ c) && decide (c ≤ 57)
def runE (P : Nat → Bool) : Nat → Nat → Nat
  | 0, p => p
  | f + 1, p => if P p = true then runE P f (p + 1) else p
def rnE (T : ST') (g : Nat → Bool) (p : Nat) : Nat := runE (fun i => g (T.2 i)) (T.1 - p) p
def lts (T : ST') (p e : Nat) : List Nat := (List.range (e - p)).map (fun i => T.2 (p + i))
def nuN (l : List Nat) : Nat := l.foldl (fun v c => 10 * v + (c - 48)) 0
def TKv : List Nat := [0, 0, 0, 0, 40, 41, 59, 2003792484, 482854658917, 123581014175598, 24948, 7563385, 1935767923, 465625113971, 1801810036, 109330362692723, 482671228019, 7561593, 1752527720, 2002873451, 1885434484, 1801807216, 120325344161396, 482854660462, 1684365670, 32497584118261106, 1701013615, 7237492, 6385252, 28530, 60, 61, 43, 45, 42, 119200029437543, 1650549611, 512870475123]
theorem TKN_L : ∀ j, j < 38 → TKL.getD j 0 = lN64 (TKv.getD j 0) ∧ TKv.getD j 0 < 2 ^ 63 := by decide +kernel
def fsK (v o : Nat) : Nat → Nat → Nat
  | _, 0 => o
  | j, k + 1 => if TKv.getD j 0 = v then j else fsK v o (j + 1) k
def tokW (l : List Nat) : Nat := fsK (pkC l) 3 0 38
def tokS (c : Nat) : Nat := fsK c 1 0 38
def tokA (T : ST') (p : Nat) : TK × Nat :=
  if isL (T.2 p) = true then (if 8 < rnE T isL p - p then (1, p, 0, []) else (tokW (lts T p (rnE T isL p)), p, 0, lts T p (rnE T isL p)), rnE T isL p)
  else if isD (T.2 p) = true then (if 4 < rnE T isD p - p then (1, p, 0, []) else (2, p, nuN (lts T p (rnE T isD p)), []), rnE T isD p)
  else ((tokS (T.2 p), p, 0, []), p + 1)
def blk (c : Nat) : Bool := decide (c = 32) || decide (c = 10)
def cutA (T : ST') : Nat → Nat → TKs → TKs
  | 0, _, K => K
  | f + 1, p, K => if p < T.1 then (if blk (T.2 p) = true then cutA T f (p + 1) K else cutA T f (tokA T p).2 (psh K (tokA T p).1)) else K
def K0 : TKs := (0, fun _ => (0, 0, 0, []))
def allT (T : ST') : TKs := psh (cutA T T.1 0 K0) (0, T.1, 0, [])
/-! lemmas of these -/
theorem runE_le {P : Nat → Bool} : ∀ f p, p ≤ runE P f p ∧ runE P f p ≤ p + f
  | 0, p => ⟨Nat.le_refl _, Nat.le_refl _⟩
  | f + 1, p => by
    show p ≤ (if _ then _ else _) ∧ (if _ then _ else _) ≤ _
    split
    · have := runE_le (P := P) f (p + 1); omega
    · omega
theorem runE_in {P : Nat → Bool} : ∀ f p i, p ≤ i → i < runE P f p → P i = true
  | 0, p, i, h1, h2 => by have : i < p := h2; omega
  | f + 1, p, i, h1, h2 => by
    have h2 : i < (if P p = true then runE P f (p + 1) else p) := h2
    split at h2
    · rename_i e
      by_cases ei : i = p
      · rw [ei]; exact e
      · exact runE_in f (p + 1) i (by omega) h2
    · omega
theorem rn_le {T : ST'} {g : Nat → Bool} {p : Nat} (hp : p ≤ T.1) : p ≤ rnE T g p ∧ rnE T g p ≤ T.1 := by
  have := runE_le (P := fun i => g (T.2 i)) (T.1 - p) p
  unfold rnE; omega
theorem rn_t {T : ST'} {g : Nat → Bool} {p : Nat} (hp : p < T.1) (h : g (T.2 p) = true) : rnE T g p = rnE T g (p + 1) := by
  unfold rnE
  rw [show T.1 - p = T.1 - (p + 1) + 1 by omega]
  show (if _ then _ else _) = _
  rw [if_pos h]
theorem rn_f {T : ST'} {g : Nat → Bool} {p : Nat} (h : ¬ p < T.1 ∨ g (T.2 p) = false) : rnE T g p = p := by
  unfold rnE
  rcases h with h | h
  · rw [show T.1 - p = 0 by omega]; rfl
  · rcases Nat.eq_zero_or_pos (T.1 - p) with e | e
    · rw [e]; rfl
    · rw [show T.1 - p = T.1 - p - 1 + 1 by omega]
      show (if _ then _ else _) = _
      rw [if_neg (by show ¬ g (T.2 p) = true; rw [h]; decide)]
theorem lts_s {T : ST'} {p e : Nat} (h : p ≤ e) : lts T p (e + 1) = lts T p e ++ [T.2 e] := by
  unfold lts
  rw [show e + 1 - p = (e - p) + 1 by omega, List.range_succ, List.map_append]
  show _ ++ [T.2 (p + (e - p))] = _
  rw [show p + (e - p) = e by omega]
theorem tokA_gt {T : ST'} {p : Nat} (hp : p < T.1) : p < (tokA T p).2 ∧ (tokA T p).2 ≤ T.1 := by
  unfold tokA
  split
  · rename_i e
    have := rn_le (T := T) (g := isL) (p := p + 1) hp
    dsimp only
    rw [rn_t hp e]; omega
  · split
    · rename_i e
      have := rn_le (T := T) (g := isD) (p := p + 1) hp
      dsimp only
      rw [rn_t hp e]; omega
    · dsimp only; omega
theorem cutA_f {T : ST'} : ∀ f f' p K, T.1 - p ≤ f → T.1 - p ≤ f' → cutA T f p K = cutA T f' p K
  | 0, 0, _, _, _, _ => rfl
  | 0, f' + 1, p, K, h, _ => by
    show K = (if _ then _ else _)
    rw [if_neg (by omega)]
  | f + 1, 0, p, K, _, h => by
    show (if _ then _ else _) = K
    rw [if_neg (by omega)]
  | f + 1, f' + 1, p, K, h1, h2 => by
    show (if _ then _ else _) = (if _ then _ else _)
    by_cases hp : p < T.1
    · rw [if_pos hp, if_pos hp]
      have := tokA_gt hp
      rw [cutA_f f f' (p + 1) K (by omega) (by omega), cutA_f f f' (tokA T p).2 _ (by omega) (by omega)]
    · rw [if_neg hp, if_neg hp]
theorem cut_b {T : ST'} {p : Nat} {K : TKs} (hp : p < T.1) (h : blk (T.2 p) = true) : cutA T (T.1 - p) p K = cutA T (T.1 - (p + 1)) (p + 1) K := by
  rw [show T.1 - p = T.1 - (p + 1) + 1 by omega]
  show (if _ then _ else _) = _
  rw [if_pos hp, if_pos h]
theorem cut_t {T : ST'} {p : Nat} {K : TKs} (hp : p < T.1) (h : blk (T.2 p) = false) : cutA T (T.1 - p) p K = cutA T (T.1 - (tokA T p).2) (tokA T p).2 (psh K (tokA T p).1) := by
  have := tokA_gt hp
  rw [show T.1 - p = T.1 - (p + 1) + 1 by omega]
  show (if _ then _ else _) = _
  rw [if_pos hp, if_neg (by rw [h]; decide)]
  exact cutA_f _ _ _ _ (by omega) (by omega)
theorem cut_e {T : ST'} {p : Nat} {K : TKs} (hp : ¬ p < T.1) : cutA T (T.1 - p) p K = K := by
  rw [show T.1 - p = 0 by omega]; rfl
theorem pkC_s (l : List Nat) (c : Nat) : pkC (l ++ [c]) = 256 * pkC l + c := by unfold pkC; rw [List.foldl_append]; rfl
theorem pkM_s (l : List Nat) (c : Nat) : pkM (l ++ [c]) = 37 * pkM l + (c - 96) := by unfold pkM; rw [List.foldl_append]; rfl
theorem nuN_s (l : List Nat) (c : Nat) : nuN (l ++ [c]) = 10 * nuN l + (c - 48) := by unfold nuN; rw [List.foldl_append]; rfl
theorem lts_0 {T : ST'} {p : Nat} : lts T p p = [] := by unfold lts; rw [Nat.sub_self]; rfl
theorem lts_len {T : ST'} {p e : Nat} : (lts T p e).length = e - p := by unfold lts; rw [List.length_map, List.length_range]
/-- a word's letters -/
def LtO (l : List Nat) : Prop := l ≠ [] ∧ l.length ≤ 8 ∧ ∀ c, c ∈ l → 97 ≤ c ∧ c ≤ 122
theorem lts_O {T : ST'} {p : Nat} (hp : p < T.1) (h : isL (T.2 p) = true) (h8 : ¬ 8 < rnE T isL p - p) : LtO (lts T p (rnE T isL p)) := by
  have e := rn_t hp h
  have := rn_le (T := T) (g := isL) (p := p + 1) hp
  refine ⟨fun e2 => ?_, by rw [lts_len]; omega, fun c hc => ?_⟩
  · have := lts_len (T := T) (p := p) (e := rnE T isL p)
    rw [e2] at this
    simp at this
    omega
  · unfold lts at hc
    rw [List.mem_map] at hc
    obtain ⟨i, hi, rfl⟩ := hc
    rw [List.mem_range] at hi
    have := runE_in (P := fun i => isL (T.2 i)) (T.1 - p) p (p + i) (by omega) (by show _ < rnE T isL p; omega)
    simp only [isL, Bool.and_eq_true, decide_eq_true_eq] at this
    exact this
