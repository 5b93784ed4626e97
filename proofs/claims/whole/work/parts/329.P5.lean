def srt (t : Nat) : Nat := if t = 0 then 0 else if t = 1 then 4 else if t = 2 then 2 else if (decide (4 ≤ t) && decide (t ≤ 6)) || (decide (30 ≤ t) && decide (t ≤ 34)) then 3 else 1
def sgn (c : Nat) : Bool := decide (c = 40) || (decide (c = 41) || (decide (c = 59) || (decide (c = 61) || (decide (c = 60) || (decide (c = 43) || (decide (c = 45) || decide (c = 42)))))))
theorem tokS_s : ∀ c, c < 128 → (isL c || isD c || decide (c = 0)) = false → srt (tokS c) = (if sgn c = true then 3 else 4) ∧ (sgn c = true → TKv.getD (tokS c) 0 = c) := by decide +kernel
theorem TKv_s : ∀ t, t < 38 → (srt t = 3 → TKv.getD t 0 < 97) ∧ (t ≤ 2 → TKv.getD t 0 = 0) := by decide +kernel
theorem srt_1 : ∀ t, t < 38 → srt t ≠ 3 → ¬ t ≤ 2 → srt t = 1 := by decide +kernel
theorem pk_97 {l : List Nat} (h : LtO l) : 97 ≤ pkC l := by
  obtain ⟨h1, -, h3⟩ := h
  rcases List.eq_nil_or_concat l with e | ⟨l', c, e⟩
  · exact absurd e h1
  · rw [e, List.concat_eq_append, pkC_s]
    have := h3 c (by rw [e, List.concat_eq_append]; simp)
    omega
theorem tokW_s {l : List Nat} (h : LtO l) : srt (tokW l) = 1 ∧ tokW l < 38 := by
  have hl : tokW l < 38 := fsK_lt (by omega) 38 0 (by omega)
  refine ⟨?_, hl⟩
  have hp := pk_97 h
  unfold tokW at *
  rcases fsK_is (v := pkC l) (o := 3) 38 0 with e1 | ⟨e1, -, -⟩
  · rw [e1]; rfl
  · refine srt_1 _ hl (fun e => ?_) (fun e => ?_)
    · have := (TKv_s _ hl).1 e; omega
    · have := (TKv_s _ hl).2 e; omega
def TkY (h : AH) (i : Nat) (x : TK) : Prop := hI h 237 i = nI (srt x.1) ∧ hI h 238 i = nI x.2.1 ∧ (x.1 = 2 → hJ h 239 i = lN64 x.2.2.1) ∧ (x.2.2.2 ≠ [] → hJ h 239 i = lN64 (pkM x.2.2.2)) ∧ (srt x.1 = 3 → hJ h 239 i = lN64 (TKv.getD x.1 0))
def TkM (h : AH) (K : TKs) : Prop := ∀ i, i < K.1 → TkY h i (K.2 i)
/-- words have letters, and only they -/
def TkW (K : TKs) : Prop := ∀ i, i < K.1 → (srt (K.2 i).1 = 1 → LtO (K.2 i).2.2.2 ∧ (K.2 i).1 = tokW (K.2 i).2.2.2) ∧ (srt (K.2 i).1 ≠ 1 → (K.2 i).2.2.2 = [])
def ytk (q : Nat) : Bool := Nat.beq q 235 || (Nat.ble 237 q && Nat.ble q 239)
section
variable {d : Nat} {h h' : AH} {T : ST'} {K : TKs} {Q : Option Value → AH → Prop}
theorem m_isLetter {c : Nat} (hc : c < 256) (h1 : isL c = true → Q (some (.int 1)) h) (h0 : isL c = false → Q (some (.int 0)) h) : Rc (d + 1) m_X13_isLetter [.int (nI c)] h Q := by
  unfold isL at h1 h0
  refine R_in rfl rfl ?_
  refine R_gs 3 rfl ?_
  refine W_b rfl (fun hc3 => ?_) (fun hc3 => ?_)
  ·
    rw [show (nI c < 97 ↔ c < 97) from nI_ltI (b := 97) (by omega) (by omega)] at hc3
    refine R_gs 17 rfl ?_
    refine W_f rfl (by first | rfl | exact ⟨rfl, by first | decide | assumption | exact Or.inl rfl | exact Or.inr rfl | exact b2i_01 _⟩) ?_
    exact h0 (by rw [decide_eq_false (by omega)]; rfl)
  ·
    rw [show (nI c < 97 ↔ c < 97) from nI_ltI (b := 97) (by omega) (by omega)] at hc3
    refine R_gs 9 rfl ?_
    refine W_b rfl (fun hc9 => ?_) (fun hc9 => ?_)
    ·
      rw [show ((122 : Int32) < nI c ↔ 122 < c) from nI_ltI (a := 122) (by omega) (by omega)] at hc9
      refine R_gs 17 rfl ?_
      refine W_f rfl (by first | rfl | exact ⟨rfl, by first | decide | assumption | exact Or.inl rfl | exact Or.inr rfl | exact b2i_01 _⟩) ?_
      exact h0 (by rw [decide_eq_false (by omega : ¬ c ≤ 122), Bool.and_false])
    ·
      rw [show ((122 : Int32) < nI c ↔ 122 < c) from nI_ltI (a := 122) (by omega) (by omega)] at hc9
      refine R_gs 17 rfl ?_
      refine W_f rfl (by first | rfl | exact ⟨rfl, by first | decide | assumption | exact Or.inl rfl | exact Or.inr rfl | exact b2i_01 _⟩) ?_
      exact h1 (by rw [decide_eq_true (by omega : 97 ≤ c), decide_eq_true (by omega : c ≤ 122)]; rfl)
theorem m_isDigit {c : Nat} (hc : c < 256) (h1 : isD c = true → Q (some (.int 1)) h) (h0 : isD c = false → Q (some (.int 0)) h) : Rc (d + 1) m_X13_isDigit [.int (nI c)] h Q := by
  unfold isD at h1 h0
  refine R_in rfl rfl ?_
  refine R_gs 3 rfl ?_
  refine W_b rfl (fun hc3 => ?_) (fun hc3 => ?_)
  ·
    rw [show (nI c < 48 ↔ c < 48) from nI_ltI (b := 48) (by omega) (by omega)] at hc3
    refine R_gs 17 rfl ?_
    refine W_f rfl (by first | rfl | exact ⟨rfl, by first | decide | assumption | exact Or.inl rfl | exact Or.inr rfl | exact b2i_01 _⟩) ?_
    exact h0 (by rw [decide_eq_false (by omega)]; rfl)
  ·
    rw [show (nI c < 48 ↔ c < 48) from nI_ltI (b := 48) (by omega) (by omega)] at hc3
    refine R_gs 9 rfl ?_
    refine W_b rfl (fun hc9 => ?_) (fun hc9 => ?_)
    ·
      rw [show ((57 : Int32) < nI c ↔ 57 < c) from nI_ltI (a := 57) (by omega) (by omega)] at hc9
      refine R_gs 17 rfl ?_
      refine W_f rfl (by first | rfl | exact ⟨rfl, by first | decide | assumption | exact Or.inl rfl | exact Or.inr rfl | exact b2i_01 _⟩) ?_
      exact h0 (by rw [decide_eq_false (by omega : ¬ c ≤ 57), Bool.and_false])
    ·
      rw [show ((57 : Int32) < nI c ↔ 57 < c) from nI_ltI (a := 57) (by omega) (by omega)] at hc9
      refine R_gs 17 rfl ?_
      refine W_f rfl (by first | rfl | exact ⟨rfl, by first | decide | assumption | exact Or.inl rfl | exact Or.inr rfl | exact b2i_01 _⟩) ?_
      exact h1 (by rw [decide_eq_true (by omega : 48 ≤ c), decide_eq_true (by omega : c ≤ 57)]; rfl)
theorem m_rank {c : Nat} (hc : isL c = true) (h1 : Q (some (.int (nI (c - 96)))) h) : Rc (d + 2) m_X13_rank [.int (nI c)] h Q := by
  have hc2 := hc
  simp only [isL, Bool.and_eq_true, decide_eq_true_eq] at hc2
  refine R_in rfl rfl ?_
  refine R_gs 1 rfl ?_
  refine R_k rfl rfl (m_isLetter (by omega) (fun hx1 => ?_) (fun hx1 => ?_))
  ·
    refine W_bf rfl (by decide) ?_
    refine R_gs 18 rfl ?_
    refine W_f rfl (by first | rfl | exact ⟨rfl, by first | decide | assumption | exact Or.inl rfl | exact Or.inr rfl | exact b2i_01 _⟩) ?_
    rw [show nI c - 96 = nI (c - 96) from nI_sub (b := 96) (by omega)]; exact h1
  ·
    refine W_bt rfl (by decide) ?_
    refine R_gs 18 rfl ?_
    refine W_f rfl (by first | rfl | exact ⟨rfl, by first | decide | assumption | exact Or.inl rfl | exact Or.inr rfl | exact b2i_01 _⟩) ?_
    rw [hc] at hx1; cases hx1
theorem m_isSignOf {c : Nat} (hc : c < 256) (h1 : sgn c = true → Q (some (.int 1)) h) (h0 : sgn c = false → Q (some (.int 0)) h) : Rc (d + 1) m_X13_isSignOf [.int (nI c)] h Q := by
  unfold sgn at h1 h0
  refine R_in rfl rfl ?_
  refine R_gs 3 rfl ?_
  refine W_b rfl (fun hc3 => ?_) (fun hc3 => ?_)
  ·
    rw [show (nI c = 40 ↔ c = 40) from nI_eq (b := 40) (by omega) (by omega)] at hc3
    refine R_gs 53 rfl ?_
    refine W_f rfl (by first | rfl | exact ⟨rfl, by first | decide | assumption | exact Or.inl rfl | exact Or.inr rfl | exact b2i_01 _⟩) ?_
    exact h1 (by simp [hc3])
  ·
    rw [show (nI c = 40 ↔ c = 40) from nI_eq (b := 40) (by omega) (by omega)] at hc3
    refine R_gs 9 rfl ?_
    refine W_b rfl (fun hc9 => ?_) (fun hc9 => ?_)
    ·
      rw [show (nI c = 41 ↔ c = 41) from nI_eq (b := 41) (by omega) (by omega)] at hc9
      refine R_gs 53 rfl ?_
      refine W_f rfl (by first | rfl | exact ⟨rfl, by first | decide | assumption | exact Or.inl rfl | exact Or.inr rfl | exact b2i_01 _⟩) ?_
      exact h1 (by simp [hc9])
    ·
      rw [show (nI c = 41 ↔ c = 41) from nI_eq (b := 41) (by omega) (by omega)] at hc9
      refine R_gs 15 rfl ?_
      refine W_b rfl (fun hc15 => ?_) (fun hc15 => ?_)
      ·
        rw [show (nI c = 59 ↔ c = 59) from nI_eq (b := 59) (by omega) (by omega)] at hc15
        refine R_gs 53 rfl ?_
        refine W_f rfl (by first | rfl | exact ⟨rfl, by first | decide | assumption | exact Or.inl rfl | exact Or.inr rfl | exact b2i_01 _⟩) ?_
        exact h1 (by simp [hc15])
      ·
        rw [show (nI c = 59 ↔ c = 59) from nI_eq (b := 59) (by omega) (by omega)] at hc15
        refine R_gs 21 rfl ?_
        refine W_b rfl (fun hc21 => ?_) (fun hc21 => ?_)
        ·
          rw [show (nI c = 61 ↔ c = 61) from nI_eq (b := 61) (by omega) (by omega)] at hc21
          refine R_gs 53 rfl ?_
          refine W_f rfl (by first | rfl | exact ⟨rfl, by first | decide | assumption | exact Or.inl rfl | exact Or.inr rfl | exact b2i_01 _⟩) ?_
          exact h1 (by simp [hc21])
        ·
          rw [show (nI c = 61 ↔ c = 61) from nI_eq (b := 61) (by omega) (by omega)] at hc21
          refine R_gs 27 rfl ?_
          refine W_b rfl (fun hc27 => ?_) (fun hc27 => ?_)
          ·
            rw [show (nI c = 60 ↔ c = 60) from nI_eq (b := 60) (by omega) (by omega)] at hc27
            refine R_gs 53 rfl ?_
            refine W_f rfl (by first | rfl | exact ⟨rfl, by first | decide | assumption | exact Or.inl rfl | exact Or.inr rfl | exact b2i_01 _⟩) ?_
            exact h1 (by simp [hc27])
          ·
            rw [show (nI c = 60 ↔ c = 60) from nI_eq (b := 60) (by omega) (by omega)] at hc27
            refine R_gs 33 rfl ?_
            refine W_b rfl (fun hc33 => ?_) (fun hc33 => ?_)
            ·
              rw [show (nI c = 43 ↔ c = 43) from nI_eq (b := 43) (by omega) (by omega)] at hc33
              refine R_gs 53 rfl ?_
              refine W_f rfl (by first | rfl | exact ⟨rfl, by first | decide | assumption | exact Or.inl rfl | exact Or.inr rfl | exact b2i_01 _⟩) ?_
              exact h1 (by simp [hc33])
            ·
              rw [show (nI c = 43 ↔ c = 43) from nI_eq (b := 43) (by omega) (by omega)] at hc33
              refine R_gs 39 rfl ?_
              refine W_b rfl (fun hc39 => ?_) (fun hc39 => ?_)
              ·
                rw [show (nI c = 45 ↔ c = 45) from nI_eq (b := 45) (by omega) (by omega)] at hc39
                refine R_gs 53 rfl ?_
                refine W_f rfl (by first | rfl | exact ⟨rfl, by first | decide | assumption | exact Or.inl rfl | exact Or.inr rfl | exact b2i_01 _⟩) ?_
                exact h1 (by simp [hc39])
              ·
                rw [show (nI c = 45 ↔ c = 45) from nI_eq (b := 45) (by omega) (by omega)] at hc39
                refine R_gs 45 rfl ?_
                refine W_b rfl (fun hc45 => ?_) (fun hc45 => ?_)
                ·
                  rw [show (nI c = 42 ↔ c = 42) from nI_eq (b := 42) (by omega) (by omega)] at hc45
                  refine R_gs 53 rfl ?_
                  refine W_f rfl (by first | rfl | exact ⟨rfl, by first | decide | assumption | exact Or.inl rfl | exact Or.inr rfl | exact b2i_01 _⟩) ?_
                  exact h1 (by simp [hc45])
                ·
                  rw [show (nI c = 42 ↔ c = 42) from nI_eq (b := 42) (by omega) (by omega)] at hc45
                  refine R_gs 53 rfl ?_
                  refine W_f rfl (by first | rfl | exact ⟨rfl, by first | decide | assumption | exact Or.inl rfl | exact Or.inr rfl | exact b2i_01 _⟩) ?_
                  exact h0 (by simp [*])
end
