theorem sw_eq {s : Int32} {k : Int} (c : Int32) (h : s.toInt = k) (hc : c.toInt = k) : s = c := Int32.toInt_inj.mp (h.trans hc.symm)
theorem XI.n1 {x y z : Int32} {c : List Int32} {j : Nat} {l : List Int32} (h : XI x y z c j l) (hj : j < c.length) (h3 : ¬ c[j] < -3) : l.length < 24 ∧ XI x y z c (j + 1) (xva c[j] x y z :: l) := by
  rcases h.next hj with ⟨_, h1, h2⟩ | ⟨h1, _⟩ | ⟨h1, _⟩
  · exact ⟨h1, h2⟩
  · exact absurd (Int32.not_lt.mp h3) h1
  · exact absurd (Int32.not_lt.mp h3) h1
theorem XI.n2 {x y z : Int32} {c : List Int32} {j : Nat} {l : List Int32} (h : XI x y z c j l) (hj : j < c.length) (h3 : c[j] < -3) (h4 : c[j] = -4) : ∃ a l', l = a :: l' ∧ XI x y z c (j + 1) ((if a = 0 then 1 else 0) :: l') := by
  rcases h.next hj with ⟨h1, _⟩ | ⟨_, _, h1⟩ | ⟨_, h1, _⟩
  · exact absurd h1 (Int32.not_le.mpr h3)
  · exact h1
  · exact absurd h4 h1
theorem XI.n3 {x y z : Int32} {c : List Int32} {j : Nat} {l : List Int32} (h : XI x y z c j l) (hj : j < c.length) (h3 : c[j] < -3) (h4 : ¬ c[j] = -4) : ∃ a b l', l = b :: a :: l' ∧ XI x y z c (j + 1) (xjo c[j] a b :: l') := by
  rcases h.next hj with ⟨h1, _⟩ | ⟨_, h1, _⟩ | ⟨_, _, h1⟩
  · exact absurd h1 (Int32.not_le.mpr h3)
  · exact absurd h1 h4
  · exact h1
theorem nI_dec (n : Nat) : nI (n + 1) + (-1) = nI n := by
  have : nI (n + 1) + (-1) = nI (n + 1) - 1 := by rw [Int32.sub_eq_add_neg]
  rw [this, nI_pred]
theorem Pile.push {h : AH} {a : Nat} {l : List Int32} {v : Int32} (hp : Pile (hI h a) l) : Pile (hI (wI h a l.length v) a) (v :: l) := ⟨by rw [wI_at, if_pos rfl], hp.up (fun k hk => by rw [wI_at, if_neg (by omega)])⟩
section
variable {d b : Nat} {h : AH} {Q : Option Value → AH → Prop}
theorem c_valueOf {s x y z : Int32} (hs : ¬ s < -3) (h1 : Q (some (.int (xva s x y z))) h) : Rc (d + 1) m_X3_valueOf [.int s, .int x, .int y, .int z] h Q := by
  refine R_in rfl rfl ?_
  refine R_gs 1 rfl ?_
  refine W_w rfl (fun jj tt ht hz => ?_) (fun hz => ?_)
  ·
    have hjj : jj < 3 := by rcases Nat.lt_or_ge jj 3 with hq | hq; exact hq; rw [List.getElem?_eq_none (by simpa using hq)] at ht; cases ht
    by_cases e0 : jj = 0
    ·
      subst e0; cases ht
      refine R_gs 33 rfl ?_
      refine W_f rfl (by first | rfl | exact ⟨rfl, by first | decide | assumption | exact Or.inl rfl | exact Or.inr rfl | exact b2i_01 _⟩) ?_
      have e := sw_eq (-3) hz (by decide); subst e; exact h1
    by_cases e1 : jj = 1
    ·
      subst e1; cases ht
      refine R_gs 31 rfl ?_
      refine W_f rfl (by first | rfl | exact ⟨rfl, by first | decide | assumption | exact Or.inl rfl | exact Or.inr rfl | exact b2i_01 _⟩) ?_
      have e := sw_eq (-2) hz (by decide); subst e; exact h1
    by_cases e2 : jj = 2
    ·
      subst e2; cases ht
      refine R_gs 29 rfl ?_
      refine W_f rfl (by first | rfl | exact ⟨rfl, by first | decide | assumption | exact Or.inl rfl | exact Or.inr rfl | exact b2i_01 _⟩) ?_
      have e := sw_eq (-1) hz (by decide); subst e; exact h1
    exact absurd hjj (by omega)
  ·
    refine R_gs 35 rfl ?_
    refine W_f rfl (by first | rfl | exact ⟨rfl, by first | decide | assumption | exact Or.inl rfl | exact Or.inr rfl | exact b2i_01 _⟩) ?_
    unfold xva at h1; rw [if_neg (by rintro rfl; revert hz; decide), if_neg (by rintro rfl; revert hz; decide), if_neg (by rintro rfl; revert hz; decide)] at h1; exact h1
theorem c_joined {s x y : Int32} (h1 : Q (some (.int (xjo s x y))) h) : Rc (d + 1) m_X3_joined [.int s, .int x, .int y] h Q := by
  refine R_in rfl rfl ?_
  refine R_gs 1 rfl ?_
  refine W_w rfl (fun jj tt ht hz => ?_) (fun hz => ?_)
  ·
    have hjj : jj < 6 := by rcases Nat.lt_or_ge jj 6 with hq | hq; exact hq; rw [List.getElem?_eq_none (by simpa using hq)] at ht; cases ht
    by_cases e0 : jj = 0
    ·
      subst e0; cases ht
      refine R_gs 97 rfl ?_
      refine W_f rfl (by first | rfl | exact ⟨rfl, by first | decide | assumption | exact Or.inl rfl | exact Or.inr rfl | exact b2i_01 _⟩) ?_
      have e := sw_eq (-10) hz (by decide); subst e; exact h1
    by_cases e1 : jj = 1
    ·
      subst e1; cases ht
      refine R_gs 93 rfl ?_
      refine W_f rfl (by first | rfl | exact ⟨rfl, by first | decide | assumption | exact Or.inl rfl | exact Or.inr rfl | exact b2i_01 _⟩) ?_
      have e := sw_eq (-9) hz (by decide); subst e; exact h1
    by_cases e2 : jj = 2
    ·
      subst e2; cases ht
      refine R_gs 81 rfl ?_
      refine W_b rfl (fun hc81 => ?_) (fun hc81 => ?_)
      ·
        refine R_gs 89 rfl ?_
        refine W_f rfl (by first | rfl | exact ⟨rfl, by first | decide | assumption | exact Or.inl rfl | exact Or.inr rfl | exact b2i_01 _⟩) ?_
        have e := sw_eq (-8) hz (by decide); subst e; simp [xjo, *] at h1; exact h1
      ·
        refine R_gs 89 rfl ?_
        refine W_f rfl (by first | rfl | exact ⟨rfl, by first | decide | assumption | exact Or.inl rfl | exact Or.inr rfl | exact b2i_01 _⟩) ?_
        have e := sw_eq (-8) hz (by decide); subst e; simp [xjo, *] at h1; exact h1
    by_cases e3 : jj = 3
    ·
      subst e3; cases ht
      refine R_gs 70 rfl ?_
      refine W_b rfl (fun hc70 => ?_) (fun hc70 => ?_)
      ·
        refine R_gs 78 rfl ?_
        refine W_f rfl (by first | rfl | exact ⟨rfl, by first | decide | assumption | exact Or.inl rfl | exact Or.inr rfl | exact b2i_01 _⟩) ?_
        have e := sw_eq (-7) hz (by decide); subst e; simp [xjo, *, Int32.not_le, Int32.not_lt] at h1; first | exact h1 | (rw [if_pos (Int32.not_le.mp hc70)] at h1; exact h1) | (rw [if_neg (Int32.not_lt.mpr hc70)] at h1; exact h1)
      ·
        refine R_gs 78 rfl ?_
        refine W_f rfl (by first | rfl | exact ⟨rfl, by first | decide | assumption | exact Or.inl rfl | exact Or.inr rfl | exact b2i_01 _⟩) ?_
        have e := sw_eq (-7) hz (by decide); subst e; simp [xjo, *, Int32.not_le, Int32.not_lt] at h1; first | exact h1 | (rw [if_pos (Int32.not_le.mp hc70)] at h1; exact h1) | (rw [if_neg (Int32.not_lt.mpr hc70)] at h1; exact h1)
    by_cases e4 : jj = 4
    ·
      subst e4; cases ht
      refine R_gs 55 rfl ?_
      refine W_b rfl (fun hc55 => ?_) (fun hc55 => ?_)
      ·
        refine R_gs 59 rfl ?_
        refine W_b rfl (fun hc59 => ?_) (fun hc59 => ?_)
        ·
          refine R_gs 67 rfl ?_
          refine W_f rfl (by first | rfl | exact ⟨rfl, by first | decide | assumption | exact Or.inl rfl | exact Or.inr rfl | exact b2i_01 _⟩) ?_
          have e := sw_eq (-6) hz (by decide); subst e; simp [xjo, *] at h1; exact h1
        ·
          refine R_gs 67 rfl ?_
          refine W_f rfl (by first | rfl | exact ⟨rfl, by first | decide | assumption | exact Or.inl rfl | exact Or.inr rfl | exact b2i_01 _⟩) ?_
          have e := sw_eq (-6) hz (by decide); subst e; simp [xjo, *] at h1; exact h1
      ·
        refine R_gs 67 rfl ?_
        refine W_f rfl (by first | rfl | exact ⟨rfl, by first | decide | assumption | exact Or.inl rfl | exact Or.inr rfl | exact b2i_01 _⟩) ?_
        have e := sw_eq (-6) hz (by decide); subst e; simp [xjo, *] at h1; exact h1
    by_cases e5 : jj = 5
    ·
      subst e5; cases ht
      refine R_gs 41 rfl ?_
      refine W_b rfl (fun hc41 => ?_) (fun hc41 => ?_)
      ·
        refine R_gs 53 rfl ?_
        refine W_f rfl (by first | rfl | exact ⟨rfl, by first | decide | assumption | exact Or.inl rfl | exact Or.inr rfl | exact b2i_01 _⟩) ?_
        have e := sw_eq (-5) hz (by decide); subst e; simp [xjo, *] at h1; exact h1
      ·
        refine R_gs 45 rfl ?_
        refine W_b rfl (fun hc45 => ?_) (fun hc45 => ?_)
        ·
          refine R_gs 53 rfl ?_
          refine W_f rfl (by first | rfl | exact ⟨rfl, by first | decide | assumption | exact Or.inl rfl | exact Or.inr rfl | exact b2i_01 _⟩) ?_
          have e := sw_eq (-5) hz (by decide); subst e; simp [xjo, *] at h1; exact h1
        ·
          refine R_gs 53 rfl ?_
          refine W_f rfl (by first | rfl | exact ⟨rfl, by first | decide | assumption | exact Or.inl rfl | exact Or.inr rfl | exact b2i_01 _⟩) ?_
          have e := sw_eq (-5) hz (by decide); subst e; simp [xjo, *] at h1; exact h1
    exact absurd hjj (by omega)
  ·
    refine R_gs 101 rfl ?_
    refine W_f rfl (by first | rfl | exact ⟨rfl, by first | decide | assumption | exact Or.inl rfl | exact Or.inr rfl | exact b2i_01 _⟩) ?_
    unfold xjo at h1; rw [if_neg (by rintro rfl; revert hz; decide), if_neg (by rintro rfl; revert hz; decide), if_neg (by rintro rfl; revert hz; decide), if_neg (by rintro rfl; revert hz; decide), if_neg (by rintro rfl; revert hz; decide), if_neg (by rintro rfl; revert hz; decide)] at h1; exact h1
theorem c_worth (hb : b = 165 ∨ b = 168 ∨ b = 193 ∨ b = 196) {c : List Int32} (hC : LawC h b c) (hK : LawOK c) {x y z : Int32} (h1 : ∀ h', Fr (fun q => Nat.beq q (b + 2)) h h' → Q (some (.int (xw c x y z))) h') : Rc (d + 2) m_X3_worth [.ref b, .int x, .int y, .int z] h Q := by
  have hn := hK.1
  rcases hb with rfl | rfl | rfl | rfl
  ·
    refine R_in rfl rfl ?_
    refine R_gs 6 rfl ?_
    refine w_inv (W := fun j (s : AH × List Int32) => ∀ x6 : Option Value, Rw (d + 1) Q (m_X3_worth, 6, [some (.ref 165), some (.int x), some (.int y), some (.int z), some (.int (nI s.2.length)), some (.int (nI j)), x6], [], 262, s.1)) c.length (fun j s => Fr (fun q => Nat.beq q 167) h s.1 ∧ Pile (hI s.1 167) s.2 ∧ s.2.length ≤ 24 ∧ XI x y z c j s.2) (s0 := (h, [])) ⟨Fr.refl _ h, trivial, Nat.zero_le _, XI.start hK⟩ (fun j s hj hi w => ?_) (fun s hi => ?_) none
    ·
      intro x6
      obtain ⟨h', l⟩ := s
      obtain ⟨hf, hp, hl, hx⟩ := hi
      have eSz := (congrFun (hf.I rfl) 2).trans hC.1
      have eSt := (congrFun (hf.I rfl) j).trans (hC.2 j hj)
      dsimp only at hf hp hl hx ⊢
      refine R_gs 12 rfl ?_
      rw [eSz]
      refine W_bf rfl (ltc hj (by omega)) ?_
      refine R_gs 21 rfl ?_
      refine R_il rfl (by first | rfl | exact shO (by decide) (by omega) | exact shG (by decide) (by omega)) (by repeat (first | with_reducible apply ix_add | with_reducible apply ix_mul | with_reducible exact ix_nI _ | with_reducible exact ix_lit _ | exact rfl)) (by omega) (by first | exact eSt) ?_
      refine R_gs 28 rfl ?_
      refine W_b rfl (fun hc28 => ?_) (fun hc28 => ?_)
      ·
        refine R_gs 63 rfl ?_
        refine W_b rfl (fun hc63 => ?_) (fun hc63 => ?_)
        ·
          obtain ⟨u, l', rfl, nx⟩ := hx.n2 hj hc28 hc63
          simp only [List.length_cons] at hl ⊢
          refine R_gs 69 rfl ?_
          refine W_bf rfl (by intro hq; exact absurd ((nI_ltI (b := 1) (by omega) (by omega)).mp hq) (by omega)) ?_
          refine R_gs 88 rfl ?_
          refine R_il rfl rfl (nI_pred _) (by omega) hp.1 ?_
          refine W_b rfl (fun hc89 => ?_) (fun hc89 => ?_)
          ·
            refine R_gs 97 rfl ?_
            refine R_is rfl rfl (nI_pred _) (by omega) ?_
            refine R_gs 6 rfl ?_
            first | (rw [nI_1, nI_1]; exact w (wI h' 167 l.length _, _ :: l) ⟨hf.wI rfl, hp.push, c2, nx⟩ _) | (rw [nI_1]; exact w (wI h' 167 l'.length _, _ :: l') ⟨hf.wI rfl, hp.2.push, by simp; omega, by first | exact nx | (rw [if_pos hc89] at nx; exact nx) | (rw [if_neg hc89] at nx; exact nx)⟩ _) | (rw [nI_dec, nI_1]; exact w (wI h' 167 l'.length _, _ :: l') ⟨hf.wI rfl, hp.2.2.push, by simp; omega, nx⟩ _)
          ·
            refine R_gs 97 rfl ?_
            refine R_is rfl rfl (nI_pred _) (by omega) ?_
            refine R_gs 6 rfl ?_
            first | (rw [nI_1, nI_1]; exact w (wI h' 167 l.length _, _ :: l) ⟨hf.wI rfl, hp.push, c2, nx⟩ _) | (rw [nI_1]; exact w (wI h' 167 l'.length _, _ :: l') ⟨hf.wI rfl, hp.2.push, by simp; omega, by first | exact nx | (rw [if_pos hc89] at nx; exact nx) | (rw [if_neg hc89] at nx; exact nx)⟩ _) | (rw [nI_dec, nI_1]; exact w (wI h' 167 l'.length _, _ :: l') ⟨hf.wI rfl, hp.2.2.push, by simp; omega, nx⟩ _)
        ·
          obtain ⟨u, v, l', rfl, nx⟩ := hx.n3 hj hc28 hc63
          simp only [List.length_cons] at hl ⊢
          refine R_gs 104 rfl ?_
          refine W_bf rfl (by intro hq; exact absurd ((nI_ltI (b := 2) (by omega) (by omega)).mp hq) (by omega)) ?_
          refine R_gs 128 rfl ?_
          refine R_il (j := l'.length) rfl rfl (by rw [nI_dec, nI_pred]) (by omega) hp.2.1 ?_
          refine R_gs 135 rfl ?_
          refine R_il (j := l'.length + 1) rfl rfl (by rw [nI_dec]) (by omega) hp.1 ?_
          refine R_k rfl rfl (c_joined ?_)
          refine R_is (j := l'.length) rfl rfl (by rw [nI_dec, nI_pred]) (by omega) ?_
          refine R_gs 6 rfl ?_
          first | (rw [nI_1, nI_1]; exact w (wI h' 167 l.length _, _ :: l) ⟨hf.wI rfl, hp.push, c2, nx⟩ _) | (rw [nI_1]; exact w (wI h' 167 l'.length _, _ :: l') ⟨hf.wI rfl, hp.2.push, by simp; omega, by first | exact nx | (rw [if_pos hc89] at nx; exact nx) | (rw [if_neg hc89] at nx; exact nx)⟩ _) | (rw [nI_dec, nI_1]; exact w (wI h' 167 l'.length _, _ :: l') ⟨hf.wI rfl, hp.2.2.push, by simp; omega, nx⟩ _)
      ·
        obtain ⟨c2, nx⟩ := hx.n1 hj hc28
        refine R_gs 35 rfl ?_
        refine W_bf rfl (ltc (N := 24) c2 (by omega)) ?_
        refine R_gs 49 rfl ?_
        refine R_k rfl rfl (c_valueOf hc28 ?_)
        refine R_is rfl rfl (ix_nI _) c2 ?_
        refine R_gs 6 rfl ?_
        first | (rw [nI_1, nI_1]; exact w (wI h' 167 l.length _, _ :: l) ⟨hf.wI rfl, hp.push, c2, nx⟩ _) | (rw [nI_1]; exact w (wI h' 167 l'.length _, _ :: l') ⟨hf.wI rfl, hp.2.push, by simp; omega, by first | exact nx | (rw [if_pos hc89] at nx; exact nx) | (rw [if_neg hc89] at nx; exact nx)⟩ _) | (rw [nI_dec, nI_1]; exact w (wI h' 167 l'.length _, _ :: l') ⟨hf.wI rfl, hp.2.2.push, by simp; omega, nx⟩ _)
    ·
      intro x6
      obtain ⟨h', l⟩ := s
      obtain ⟨hf, hp, hl, hx⟩ := hi
      have eSz := (congrFun (hf.I rfl) 2).trans hC.1
      dsimp only at hf hp hl hx ⊢
      refine R_gs 12 rfl ?_
      rw [eSz]
      refine W_bt rfl (gec (by omega)) ?_
      refine R_gs 151 rfl ?_
      obtain ⟨v, rfl, ev⟩ := hx.fin
      refine R_il rfl rfl (ix_lit _) (by decide) (hp.1.trans ev) ?_
      refine W_f rfl (by first | rfl | exact ⟨rfl, by first | decide | assumption | exact Or.inl rfl | exact Or.inr rfl | exact b2i_01 _⟩) ?_
      exact h1 _ hf
  ·
    refine R_in rfl rfl ?_
    refine R_gs 6 rfl ?_
    refine w_inv (W := fun j (s : AH × List Int32) => ∀ x6 : Option Value, Rw (d + 1) Q (m_X3_worth, 6, [some (.ref 168), some (.int x), some (.int y), some (.int z), some (.int (nI s.2.length)), some (.int (nI j)), x6], [], 262, s.1)) c.length (fun j s => Fr (fun q => Nat.beq q 170) h s.1 ∧ Pile (hI s.1 170) s.2 ∧ s.2.length ≤ 24 ∧ XI x y z c j s.2) (s0 := (h, [])) ⟨Fr.refl _ h, trivial, Nat.zero_le _, XI.start hK⟩ (fun j s hj hi w => ?_) (fun s hi => ?_) none
    ·
      intro x6
      obtain ⟨h', l⟩ := s
      obtain ⟨hf, hp, hl, hx⟩ := hi
      have eSz := (congrFun (hf.I rfl) 2).trans hC.1
      have eSt := (congrFun (hf.I rfl) j).trans (hC.2 j hj)
      dsimp only at hf hp hl hx ⊢
      refine R_gs 12 rfl ?_
      rw [eSz]
      refine W_bf rfl (ltc hj (by omega)) ?_
      refine R_gs 21 rfl ?_
      refine R_il rfl (by first | rfl | exact shO (by decide) (by omega) | exact shG (by decide) (by omega)) (by repeat (first | with_reducible apply ix_add | with_reducible apply ix_mul | with_reducible exact ix_nI _ | with_reducible exact ix_lit _ | exact rfl)) (by omega) (by first | exact eSt) ?_
      refine R_gs 28 rfl ?_
      refine W_b rfl (fun hc28 => ?_) (fun hc28 => ?_)
      ·
        refine R_gs 63 rfl ?_
        refine W_b rfl (fun hc63 => ?_) (fun hc63 => ?_)
        ·
          obtain ⟨u, l', rfl, nx⟩ := hx.n2 hj hc28 hc63
          simp only [List.length_cons] at hl ⊢
          refine R_gs 69 rfl ?_
          refine W_bf rfl (by intro hq; exact absurd ((nI_ltI (b := 1) (by omega) (by omega)).mp hq) (by omega)) ?_
          refine R_gs 88 rfl ?_
          refine R_il rfl rfl (nI_pred _) (by omega) hp.1 ?_
          refine W_b rfl (fun hc89 => ?_) (fun hc89 => ?_)
          ·
            refine R_gs 97 rfl ?_
            refine R_is rfl rfl (nI_pred _) (by omega) ?_
            refine R_gs 6 rfl ?_
            first | (rw [nI_1, nI_1]; exact w (wI h' 170 l.length _, _ :: l) ⟨hf.wI rfl, hp.push, c2, nx⟩ _) | (rw [nI_1]; exact w (wI h' 170 l'.length _, _ :: l') ⟨hf.wI rfl, hp.2.push, by simp; omega, by first | exact nx | (rw [if_pos hc89] at nx; exact nx) | (rw [if_neg hc89] at nx; exact nx)⟩ _) | (rw [nI_dec, nI_1]; exact w (wI h' 170 l'.length _, _ :: l') ⟨hf.wI rfl, hp.2.2.push, by simp; omega, nx⟩ _)
          ·
            refine R_gs 97 rfl ?_
            refine R_is rfl rfl (nI_pred _) (by omega) ?_
            refine R_gs 6 rfl ?_
            first | (rw [nI_1, nI_1]; exact w (wI h' 170 l.length _, _ :: l) ⟨hf.wI rfl, hp.push, c2, nx⟩ _) | (rw [nI_1]; exact w (wI h' 170 l'.length _, _ :: l') ⟨hf.wI rfl, hp.2.push, by simp; omega, by first | exact nx | (rw [if_pos hc89] at nx; exact nx) | (rw [if_neg hc89] at nx; exact nx)⟩ _) | (rw [nI_dec, nI_1]; exact w (wI h' 170 l'.length _, _ :: l') ⟨hf.wI rfl, hp.2.2.push, by simp; omega, nx⟩ _)
        ·
          obtain ⟨u, v, l', rfl, nx⟩ := hx.n3 hj hc28 hc63
          simp only [List.length_cons] at hl ⊢
          refine R_gs 104 rfl ?_
          refine W_bf rfl (by intro hq; exact absurd ((nI_ltI (b := 2) (by omega) (by omega)).mp hq) (by omega)) ?_
          refine R_gs 128 rfl ?_
          refine R_il (j := l'.length) rfl rfl (by rw [nI_dec, nI_pred]) (by omega) hp.2.1 ?_
          refine R_gs 135 rfl ?_
          refine R_il (j := l'.length + 1) rfl rfl (by rw [nI_dec]) (by omega) hp.1 ?_
          refine R_k rfl rfl (c_joined ?_)
          refine R_is (j := l'.length) rfl rfl (by rw [nI_dec, nI_pred]) (by omega) ?_
          refine R_gs 6 rfl ?_
          first | (rw [nI_1, nI_1]; exact w (wI h' 170 l.length _, _ :: l) ⟨hf.wI rfl, hp.push, c2, nx⟩ _) | (rw [nI_1]; exact w (wI h' 170 l'.length _, _ :: l') ⟨hf.wI rfl, hp.2.push, by simp; omega, by first | exact nx | (rw [if_pos hc89] at nx; exact nx) | (rw [if_neg hc89] at nx; exact nx)⟩ _) | (rw [nI_dec, nI_1]; exact w (wI h' 170 l'.length _, _ :: l') ⟨hf.wI rfl, hp.2.2.push, by simp; omega, nx⟩ _)
      ·
        obtain ⟨c2, nx⟩ := hx.n1 hj hc28
        refine R_gs 35 rfl ?_
        refine W_bf rfl (ltc (N := 24) c2 (by omega)) ?_
        refine R_gs 49 rfl ?_
        refine R_k rfl rfl (c_valueOf hc28 ?_)
        refine R_is rfl rfl (ix_nI _) c2 ?_
        refine R_gs 6 rfl ?_
        first | (rw [nI_1, nI_1]; exact w (wI h' 170 l.length _, _ :: l) ⟨hf.wI rfl, hp.push, c2, nx⟩ _) | (rw [nI_1]; exact w (wI h' 170 l'.length _, _ :: l') ⟨hf.wI rfl, hp.2.push, by simp; omega, by first | exact nx | (rw [if_pos hc89] at nx; exact nx) | (rw [if_neg hc89] at nx; exact nx)⟩ _) | (rw [nI_dec, nI_1]; exact w (wI h' 170 l'.length _, _ :: l') ⟨hf.wI rfl, hp.2.2.push, by simp; omega, nx⟩ _)
    ·
      intro x6
      obtain ⟨h', l⟩ := s
      obtain ⟨hf, hp, hl, hx⟩ := hi
      have eSz := (congrFun (hf.I rfl) 2).trans hC.1
      dsimp only at hf hp hl hx ⊢
      refine R_gs 12 rfl ?_
      rw [eSz]
      refine W_bt rfl (gec (by omega)) ?_
      refine R_gs 151 rfl ?_
      obtain ⟨v, rfl, ev⟩ := hx.fin
      refine R_il rfl rfl (ix_lit _) (by decide) (hp.1.trans ev) ?_
      refine W_f rfl (by first | rfl | exact ⟨rfl, by first | decide | assumption | exact Or.inl rfl | exact Or.inr rfl | exact b2i_01 _⟩) ?_
      exact h1 _ hf
  ·
    refine R_in rfl rfl ?_
    refine R_gs 6 rfl ?_
    refine w_inv (W := fun j (s : AH × List Int32) => ∀ x6 : Option Value, Rw (d + 1) Q (m_X3_worth, 6, [some (.ref 193), some (.int x), some (.int y), some (.int z), some (.int (nI s.2.length)), some (.int (nI j)), x6], [], 262, s.1)) c.length (fun j s => Fr (fun q => Nat.beq q 195) h s.1 ∧ Pile (hI s.1 195) s.2 ∧ s.2.length ≤ 24 ∧ XI x y z c j s.2) (s0 := (h, [])) ⟨Fr.refl _ h, trivial, Nat.zero_le _, XI.start hK⟩ (fun j s hj hi w => ?_) (fun s hi => ?_) none
    ·
      intro x6
      obtain ⟨h', l⟩ := s
      obtain ⟨hf, hp, hl, hx⟩ := hi
      have eSz := (congrFun (hf.I rfl) 2).trans hC.1
      have eSt := (congrFun (hf.I rfl) j).trans (hC.2 j hj)
      dsimp only at hf hp hl hx ⊢
      refine R_gs 12 rfl ?_
      rw [eSz]
      refine W_bf rfl (ltc hj (by omega)) ?_
      refine R_gs 21 rfl ?_
      refine R_il rfl (by first | rfl | exact shO (by decide) (by omega) | exact shG (by decide) (by omega)) (by repeat (first | with_reducible apply ix_add | with_reducible apply ix_mul | with_reducible exact ix_nI _ | with_reducible exact ix_lit _ | exact rfl)) (by omega) (by first | exact eSt) ?_
      refine R_gs 28 rfl ?_
      refine W_b rfl (fun hc28 => ?_) (fun hc28 => ?_)
      ·
        refine R_gs 63 rfl ?_
        refine W_b rfl (fun hc63 => ?_) (fun hc63 => ?_)
        ·
          obtain ⟨u, l', rfl, nx⟩ := hx.n2 hj hc28 hc63
          simp only [List.length_cons] at hl ⊢
          refine R_gs 69 rfl ?_
          refine W_bf rfl (by intro hq; exact absurd ((nI_ltI (b := 1) (by omega) (by omega)).mp hq) (by omega)) ?_
          refine R_gs 88 rfl ?_
          refine R_il rfl rfl (nI_pred _) (by omega) hp.1 ?_
          refine W_b rfl (fun hc89 => ?_) (fun hc89 => ?_)
          ·
            refine R_gs 97 rfl ?_
            refine R_is rfl rfl (nI_pred _) (by omega) ?_
            refine R_gs 6 rfl ?_
            first | (rw [nI_1, nI_1]; exact w (wI h' 195 l.length _, _ :: l) ⟨hf.wI rfl, hp.push, c2, nx⟩ _) | (rw [nI_1]; exact w (wI h' 195 l'.length _, _ :: l') ⟨hf.wI rfl, hp.2.push, by simp; omega, by first | exact nx | (rw [if_pos hc89] at nx; exact nx) | (rw [if_neg hc89] at nx; exact nx)⟩ _) | (rw [nI_dec, nI_1]; exact w (wI h' 195 l'.length _, _ :: l') ⟨hf.wI rfl, hp.2.2.push, by simp; omega, nx⟩ _)
          ·
            refine R_gs 97 rfl ?_
            refine R_is rfl rfl (nI_pred _) (by omega) ?_
            refine R_gs 6 rfl ?_
            first | (rw [nI_1, nI_1]; exact w (wI h' 195 l.length _, _ :: l) ⟨hf.wI rfl, hp.push, c2, nx⟩ _) | (rw [nI_1]; exact w (wI h' 195 l'.length _, _ :: l') ⟨hf.wI rfl, hp.2.push, by simp; omega, by first | exact nx | (rw [if_pos hc89] at nx; exact nx) | (rw [if_neg hc89] at nx; exact nx)⟩ _) | (rw [nI_dec, nI_1]; exact w (wI h' 195 l'.length _, _ :: l') ⟨hf.wI rfl, hp.2.2.push, by simp; omega, nx⟩ _)
        ·
          obtain ⟨u, v, l', rfl, nx⟩ := hx.n3 hj hc28 hc63
          simp only [List.length_cons] at hl ⊢
          refine R_gs 104 rfl ?_
          refine W_bf rfl (by intro hq; exact absurd ((nI_ltI (b := 2) (by omega) (by omega)).mp hq) (by omega)) ?_
          refine R_gs 128 rfl ?_
          refine R_il (j := l'.length) rfl rfl (by rw [nI_dec, nI_pred]) (by omega) hp.2.1 ?_
          refine R_gs 135 rfl ?_
          refine R_il (j := l'.length + 1) rfl rfl (by rw [nI_dec]) (by omega) hp.1 ?_
          refine R_k rfl rfl (c_joined ?_)
          refine R_is (j := l'.length) rfl rfl (by rw [nI_dec, nI_pred]) (by omega) ?_
          refine R_gs 6 rfl ?_
          first | (rw [nI_1, nI_1]; exact w (wI h' 195 l.length _, _ :: l) ⟨hf.wI rfl, hp.push, c2, nx⟩ _) | (rw [nI_1]; exact w (wI h' 195 l'.length _, _ :: l') ⟨hf.wI rfl, hp.2.push, by simp; omega, by first | exact nx | (rw [if_pos hc89] at nx; exact nx) | (rw [if_neg hc89] at nx; exact nx)⟩ _) | (rw [nI_dec, nI_1]; exact w (wI h' 195 l'.length _, _ :: l') ⟨hf.wI rfl, hp.2.2.push, by simp; omega, nx⟩ _)
      ·
        obtain ⟨c2, nx⟩ := hx.n1 hj hc28
        refine R_gs 35 rfl ?_
        refine W_bf rfl (ltc (N := 24) c2 (by omega)) ?_
        refine R_gs 49 rfl ?_
        refine R_k rfl rfl (c_valueOf hc28 ?_)
        refine R_is rfl rfl (ix_nI _) c2 ?_
        refine R_gs 6 rfl ?_
        first | (rw [nI_1, nI_1]; exact w (wI h' 195 l.length _, _ :: l) ⟨hf.wI rfl, hp.push, c2, nx⟩ _) | (rw [nI_1]; exact w (wI h' 195 l'.length _, _ :: l') ⟨hf.wI rfl, hp.2.push, by simp; omega, by first | exact nx | (rw [if_pos hc89] at nx; exact nx) | (rw [if_neg hc89] at nx; exact nx)⟩ _) | (rw [nI_dec, nI_1]; exact w (wI h' 195 l'.length _, _ :: l') ⟨hf.wI rfl, hp.2.2.push, by simp; omega, nx⟩ _)
    ·
      intro x6
      obtain ⟨h', l⟩ := s
      obtain ⟨hf, hp, hl, hx⟩ := hi
      have eSz := (congrFun (hf.I rfl) 2).trans hC.1
      dsimp only at hf hp hl hx ⊢
      refine R_gs 12 rfl ?_
      rw [eSz]
      refine W_bt rfl (gec (by omega)) ?_
      refine R_gs 151 rfl ?_
      obtain ⟨v, rfl, ev⟩ := hx.fin
      refine R_il rfl rfl (ix_lit _) (by decide) (hp.1.trans ev) ?_
      refine W_f rfl (by first | rfl | exact ⟨rfl, by first | decide | assumption | exact Or.inl rfl | exact Or.inr rfl | exact b2i_01 _⟩) ?_
      exact h1 _ hf
  ·
    refine R_in rfl rfl ?_
    refine R_gs 6 rfl ?_
    refine w_inv (W := fun j (s : AH × List Int32) => ∀ x6 : Option Value, Rw (d + 1) Q (m_X3_worth, 6, [some (.ref 196), some (.int x), some (.int y), some (.int z), some (.int (nI s.2.length)), some (.int (nI j)), x6], [], 262, s.1)) c.length (fun j s => Fr (fun q => Nat.beq q 198) h s.1 ∧ Pile (hI s.1 198) s.2 ∧ s.2.length ≤ 24 ∧ XI x y z c j s.2) (s0 := (h, [])) ⟨Fr.refl _ h, trivial, Nat.zero_le _, XI.start hK⟩ (fun j s hj hi w => ?_) (fun s hi => ?_) none
    ·
      intro x6
      obtain ⟨h', l⟩ := s
      obtain ⟨hf, hp, hl, hx⟩ := hi
      have eSz := (congrFun (hf.I rfl) 2).trans hC.1
      have eSt := (congrFun (hf.I rfl) j).trans (hC.2 j hj)
      dsimp only at hf hp hl hx ⊢
      refine R_gs 12 rfl ?_
      rw [eSz]
      refine W_bf rfl (ltc hj (by omega)) ?_
      refine R_gs 21 rfl ?_
      refine R_il rfl (by first | rfl | exact shO (by decide) (by omega) | exact shG (by decide) (by omega)) (by repeat (first | with_reducible apply ix_add | with_reducible apply ix_mul | with_reducible exact ix_nI _ | with_reducible exact ix_lit _ | exact rfl)) (by omega) (by first | exact eSt) ?_
      refine R_gs 28 rfl ?_
      refine W_b rfl (fun hc28 => ?_) (fun hc28 => ?_)
      ·
        refine R_gs 63 rfl ?_
        refine W_b rfl (fun hc63 => ?_) (fun hc63 => ?_)
        ·
          obtain ⟨u, l', rfl, nx⟩ := hx.n2 hj hc28 hc63
          simp only [List.length_cons] at hl ⊢
          refine R_gs 69 rfl ?_
          refine W_bf rfl (by intro hq; exact absurd ((nI_ltI (b := 1) (by omega) (by omega)).mp hq) (by omega)) ?_
          refine R_gs 88 rfl ?_
          refine R_il rfl rfl (nI_pred _) (by omega) hp.1 ?_
          refine W_b rfl (fun hc89 => ?_) (fun hc89 => ?_)
          ·
            refine R_gs 97 rfl ?_
            refine R_is rfl rfl (nI_pred _) (by omega) ?_
            refine R_gs 6 rfl ?_
            first | (rw [nI_1, nI_1]; exact w (wI h' 198 l.length _, _ :: l) ⟨hf.wI rfl, hp.push, c2, nx⟩ _) | (rw [nI_1]; exact w (wI h' 198 l'.length _, _ :: l') ⟨hf.wI rfl, hp.2.push, by simp; omega, by first | exact nx | (rw [if_pos hc89] at nx; exact nx) | (rw [if_neg hc89] at nx; exact nx)⟩ _) | (rw [nI_dec, nI_1]; exact w (wI h' 198 l'.length _, _ :: l') ⟨hf.wI rfl, hp.2.2.push, by simp; omega, nx⟩ _)
          ·
            refine R_gs 97 rfl ?_
            refine R_is rfl rfl (nI_pred _) (by omega) ?_
            refine R_gs 6 rfl ?_
            first | (rw [nI_1, nI_1]; exact w (wI h' 198 l.length _, _ :: l) ⟨hf.wI rfl, hp.push, c2, nx⟩ _) | (rw [nI_1]; exact w (wI h' 198 l'.length _, _ :: l') ⟨hf.wI rfl, hp.2.push, by simp; omega, by first | exact nx | (rw [if_pos hc89] at nx; exact nx) | (rw [if_neg hc89] at nx; exact nx)⟩ _) | (rw [nI_dec, nI_1]; exact w (wI h' 198 l'.length _, _ :: l') ⟨hf.wI rfl, hp.2.2.push, by simp; omega, nx⟩ _)
        ·
          obtain ⟨u, v, l', rfl, nx⟩ := hx.n3 hj hc28 hc63
          simp only [List.length_cons] at hl ⊢
          refine R_gs 104 rfl ?_
          refine W_bf rfl (by intro hq; exact absurd ((nI_ltI (b := 2) (by omega) (by omega)).mp hq) (by omega)) ?_
          refine R_gs 128 rfl ?_
          refine R_il (j := l'.length) rfl rfl (by rw [nI_dec, nI_pred]) (by omega) hp.2.1 ?_
          refine R_gs 135 rfl ?_
          refine R_il (j := l'.length + 1) rfl rfl (by rw [nI_dec]) (by omega) hp.1 ?_
          refine R_k rfl rfl (c_joined ?_)
          refine R_is (j := l'.length) rfl rfl (by rw [nI_dec, nI_pred]) (by omega) ?_
          refine R_gs 6 rfl ?_
          first | (rw [nI_1, nI_1]; exact w (wI h' 198 l.length _, _ :: l) ⟨hf.wI rfl, hp.push, c2, nx⟩ _) | (rw [nI_1]; exact w (wI h' 198 l'.length _, _ :: l') ⟨hf.wI rfl, hp.2.push, by simp; omega, by first | exact nx | (rw [if_pos hc89] at nx; exact nx) | (rw [if_neg hc89] at nx; exact nx)⟩ _) | (rw [nI_dec, nI_1]; exact w (wI h' 198 l'.length _, _ :: l') ⟨hf.wI rfl, hp.2.2.push, by simp; omega, nx⟩ _)
      ·
        obtain ⟨c2, nx⟩ := hx.n1 hj hc28
        refine R_gs 35 rfl ?_
        refine W_bf rfl (ltc (N := 24) c2 (by omega)) ?_
        refine R_gs 49 rfl ?_
        refine R_k rfl rfl (c_valueOf hc28 ?_)
        refine R_is rfl rfl (ix_nI _) c2 ?_
        refine R_gs 6 rfl ?_
        first | (rw [nI_1, nI_1]; exact w (wI h' 198 l.length _, _ :: l) ⟨hf.wI rfl, hp.push, c2, nx⟩ _) | (rw [nI_1]; exact w (wI h' 198 l'.length _, _ :: l') ⟨hf.wI rfl, hp.2.push, by simp; omega, by first | exact nx | (rw [if_pos hc89] at nx; exact nx) | (rw [if_neg hc89] at nx; exact nx)⟩ _) | (rw [nI_dec, nI_1]; exact w (wI h' 198 l'.length _, _ :: l') ⟨hf.wI rfl, hp.2.2.push, by simp; omega, nx⟩ _)
    ·
      intro x6
      obtain ⟨h', l⟩ := s
      obtain ⟨hf, hp, hl, hx⟩ := hi
      have eSz := (congrFun (hf.I rfl) 2).trans hC.1
      dsimp only at hf hp hl hx ⊢
      refine R_gs 12 rfl ?_
      rw [eSz]
      refine W_bt rfl (gec (by omega)) ?_
      refine R_gs 151 rfl ?_
      obtain ⟨v, rfl, ev⟩ := hx.fin
      refine R_il rfl rfl (ix_lit _) (by decide) (hp.1.trans ev) ?_
      refine W_f rfl (by first | rfl | exact ⟨rfl, by first | decide | assumption | exact Or.inl rfl | exact Or.inr rfl | exact b2i_01 _⟩) ?_
      exact h1 _ hf
end
