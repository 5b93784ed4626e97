theorem fairQ_s (P n k met : Nat) : fairQ P (n + 1) k met = bif Nat.beq ((P >>> k) % 2) 1 then (bif Nat.beq (met &&& twP k) 0 then fairQ P n (k + 1) (met ||| twP k) else false) else fairQ P n (k + 1) met := rfl
theorem fair_Q {P : Nat} : ∀ n k, (lp (fai P) (k + n) (true, 0)).1 = ((lp (fai P) k (true, 0)).1 && fairQ P n k (lp (fai P) k (true, 0)).2)
  | 0, k => by rw [Nat.add_zero]; show _ = (_ && true); rw [Bool.and_true]
  | n + 1, k => by
    rw [show k + (n + 1) = k + 1 + n by omega, fair_Q n (k + 1)]
    show ((fai P k (lp (fai P) k (true, 0))).1 && fairQ P n (k + 1) (fai P k (lp (fai P) k (true, 0))).2) = ((lp (fai P) k (true, 0)).1 && fairQ P (n + 1) k (lp (fai P) k (true, 0)).2)
    generalize lp (fai P) k (true, 0) = t
    rw [fairQ_s]
    unfold fai
    rw [show Nat.beq ((P >>> k) % 2) 1 = P.testBit k from by rw [Nat.testBit_eq_decide_div_mod_eq, Nat.shiftRight_eq_div_pow]; cases h : Nat.beq (P / 2 ^ k % 2) 1; symm; rw [decide_eq_false_iff_not]; intro e; rw [e] at h; cases h; symm; rw [decide_eq_true_iff]; exact Nat.eq_of_beq_eq_true h]
    cases P.testBit k
    · rfl
    · cases hb : Nat.beq (t.2 &&& twP k) 0
      · simp [hb]
      · simp [hb]
theorem fairN_Q (P : Nat) : fairN P = fairQ P 15 0 0 := by
  have := fair_Q (P := P) 15 0
  rw [Nat.zero_add] at this
  exact this
theorem fair_mem {P : Nat} (h : P < 32768) (hf : fairN P = true) : ∃ i, i < 76 ∧ PRS.getD i 0 = P := by
  have := fair_all (P / 256) (by omega) (P % 256) (by omega)
  rw [Nat.div_add_mod, ← fairN_Q, hf, Bool.not_true, Bool.false_or, List.any_eq_true] at this
  obtain ⟨x, hx, e⟩ := this
  have e := Nat.eq_of_beq_eq_true e
  obtain ⟨i, hi, e2⟩ := List.getElem_of_mem hx
  refine ⟨i, by rw [← PRS_76]; exact hi, ?_⟩
  rw [List.getD_eq_getElem?_getD, List.getElem?_eq_getElem hi, e2]
  exact e
theorem PRS_f : ∀ i, i < 76 → fairN (PRS.getD i 0) = true ∧ PRS.getD i 0 < 32768 := by decide +kernel
def andn (a b : Nat) : Nat := a ^^^ (a &&& b)
theorem andn_t (a b i : Nat) : (andn a b).testBit i = (a.testBit i && !b.testBit i) := by
  unfold andn
  rw [Nat.testBit_xor, Nat.testBit_and]
  cases a.testBit i <;> cases b.testBit i <;> rfl
theorem andn_lt {a b : Nat} (ha : a < 32768) : andn a b < 32768 := by
  unfold andn
  exact Nat.xor_lt_two_pow (n := 15) ha (Nat.lt_of_le_of_lt Nat.and_le_left ha)
theorem nI_andn {a b : Nat} : nI a &&& (nI b ^^^ (-1)) = nI (andn a b) := by
  apply b_ext
  intro i hi
  rw [b_and, b_not _ _ hi, bt_nI, bt_nI, bt_nI, andn_t, decide_eq_true hi, Bool.true_and, Bool.true_and, Bool.true_and]
theorem andn_0 {a b : Nat} : andn a b = 0 ↔ ∀ i, a.testBit i = true → b.testBit i = true := by
  constructor
  · intro e i hi
    have := andn_t a b i
    rw [e, hi, Nat.zero_testBit] at this
    cases hb : b.testBit i
    · rw [hb] at this; cases this
    · rfl
  · intro e
    apply Nat.eq_of_testBit_eq
    intro i
    rw [andn_t, Nat.zero_testBit]
    cases ha : a.testBit i
    · rfl
    · rw [e i ha]; rfl
theorem andn_2 {w s : Nat} (h : andn s w = 0) : andn w (andn w s) = s := by
  rw [andn_0] at h
  apply Nat.eq_of_testBit_eq
  intro i
  rw [andn_t, andn_t]
  have := h i
  cases hs : s.testBit i
  · cases w.testBit i <;> rfl
  · rw [this hs]; rfl
theorem andn_s (w s : Nat) : andn (andn w s) w = 0 := by
  rw [andn_0]
  intro i hi
  rw [andn_t, Bool.and_eq_true] at hi
  exact hi.1
/-! the least -/
def cosN (cs : Nat → Nat) (P : Nat) : Nat := sumN 15 (fun k => if P.testBit k = true then cs k else 0)
abbrev kLt (cs : Nat → Nat) (a b : Nat) : Prop := cosN cs a < cosN cs b ∨ (cosN cs a = cosN cs b ∧ (pop (nI a) < pop (nI b) ∨ (pop (nI a) = pop (nI b) ∧ a < b)))
def cand (w s : Nat) : Prop := andn s w = 0 ∧ fairN (andn w s) = true
def mdF (cs : Nat → Nat) (w i b : Nat) : Nat := if andn (PRS.getD i 0) w = 0 ∧ kLt cs (andn w (PRS.getD i 0)) b then andn w (PRS.getD i 0) else b
def mdB (cs : Nat → Nat) (w : Nat) : Nat := lp (mdF cs w) 76 w
theorem kLt_tr {cs : Nat → Nat} {a b c : Nat} (h1 : kLt cs a b) (h2 : kLt cs b c) : kLt cs a c := by unfold kLt at *; omega
theorem kLt_eq {cs : Nat → Nat} {a b : Nat} (h1 : ¬ kLt cs a b) (h2 : ¬ kLt cs b a) : a = b := by unfold kLt at *; omega
theorem cand_w (w : Nat) : cand w w := by
  refine ⟨andn_0.mpr (fun i h => h), ?_⟩
  rw [show andn w w = 0 from andn_0.mpr (fun i h => h)]
  decide +kernel
theorem md_I {cs : Nat → Nat} {w : Nat} : ∀ i, i ≤ 76 → cand w (lp (mdF cs w) i w) ∧ ∀ j, j < i → andn (PRS.getD j 0) w = 0 → ¬ kLt cs (andn w (PRS.getD j 0)) (lp (mdF cs w) i w)
  | 0, _ => ⟨cand_w w, fun j hj => absurd hj (by omega)⟩
  | i + 1, hi => by
    obtain ⟨h1, h2⟩ := md_I (cs := cs) (w := w) i (by omega)
    show cand w (mdF cs w i (lp (mdF cs w) i w)) ∧ ∀ j, j < i + 1 → _ → ¬ kLt cs _ (mdF cs w i (lp (mdF cs w) i w))
    generalize lp (mdF cs w) i w = b at h1 h2
    unfold mdF
    split
    · rename_i e
      refine ⟨⟨andn_s _ _, by rw [andn_2 e.1]; exact (PRS_f i (by omega)).1⟩, fun j hj ej hl => ?_⟩
      rcases Nat.lt_or_ge j i with h | h
      · exact h2 j h ej (kLt_tr hl e.2)
      · have : j = i := by omega
        subst this
        unfold kLt at hl; omega
    · rename_i e
      refine ⟨h1, fun j hj ej hl => ?_⟩
      rcases Nat.lt_or_ge j i with h | h
      · exact h2 j h ej hl
      · have : j = i := by omega
        subst this
        exact e ⟨ej, hl⟩
theorem md_min {cs : Nat → Nat} {w s : Nat} (hw : w < 32768) (hs : cand w s) : ¬ kLt cs s (mdB cs w) := by
  obtain ⟨i, hi, e⟩ := fair_mem (andn_lt hw) hs.2
  have := (md_I (cs := cs) (w := w) 76 (Nat.le_refl _)).2 i hi (by rw [e]; exact andn_s _ _)
  rw [e, andn_2 hs.1] at this
  exact this
theorem md_uni {cs : Nat → Nat} {w r : Nat} (hw : w < 32768) (h1 : cand w r) (h2 : ∀ s, s < 32768 → cand w s → ¬ kLt cs s r) : r = mdB cs w := by
  have hB : cand w (mdB cs w) := (md_I 76 (Nat.le_refl _)).1
  have hl : mdB cs w < 32768 := by rw [← andn_2 hB.1]; exact andn_lt hw
  exact kLt_eq (md_min hw h1) (h2 _ hl hB)
