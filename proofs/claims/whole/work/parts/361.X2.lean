/-- the first of some -/
def fG (c : Nat → Bool) : Nat → Nat → Int32
  | _, 0 => -1
  | j, k + 1 => if c j = true then nI j else fG c (j + 1) k
theorem fG_t {c : Nat → Bool} {j k : Nat} (h : c j = true) : fG c j (k + 1) = nI j := by show (if _ then _ else _) = _; rw [if_pos h]
theorem fG_f {c : Nat → Bool} {j k : Nat} (h : c j = false) : fG c j (k + 1) = fG c (j + 1) k := by show (if _ then _ else _) = _; rw [if_neg (by rw [h]; decide)]
theorem fG_cong {c c' : Nat → Bool} : ∀ k j, (∀ i, i < j + k → c i = c' i) → fG c j k = fG c' j k
  | 0, _, _ => rfl
  | k + 1, j, h => by
    show (if _ then _ else _) = (if _ then _ else _)
    rw [h j (by omega), fG_cong k (j + 1) (fun i hi => h i (by omega))]
theorem w_first {W : Nat → Prop} {A : Int32 → Prop} (N : Nat) (c : Nat → Bool) (h : A (fG c 0 N)) (hs : ∀ j, j < N → (c j = true → A (nI j)) → (c j = false → W (j + 1)) → W j) (he : A (-1) → W N) : W 0 := by
  have key : ∀ k, k ≤ N → A (fG c (N - k) k) → W (N - k) := by
    intro k
    induction k with
    | zero => exact fun _ h => he h
    | succ k ih =>
      intro hk ha
      refine hs _ (by omega) (fun e => ?_) (fun e => ?_)
      · rw [fG_t e] at ha; exact ha
      · rw [fG_f e] at ha
        rw [show N - (k + 1) + 1 = N - k by omega] at ha ⊢
        exact ih (by omega) ha
  have := key N (Nat.le_refl _)
  rw [Nat.sub_self] at this
  exact this h
def perA (L : SL) (S : SS) (p what : Int32) : Int32 := if inN p (lP L) = true then (if what = 0 then nI (lK L p.toNatClampNeg) else if what = 1 then nI (sA S p.toNatClampNeg) else if what = 2 then nI (lY L p.toNatClampNeg) else if what = 3 then sY S p.toNatClampNeg else if what = 4 then utt L S p.toNatClampNeg else if what = 5 then setN 6 (fun q => !decide (q = p.toNatClampNeg) && bt (sW S) (pr p.toNatClampNeg q)) else -2) else -2
def oddA (L : SL) (p w : Int32) : Int32 := if (inN p (lP L) && inN w (lS L)) = true then nI (lO L p.toNatClampNeg w.toNatClampNeg) else -1
def likA (L : SL) (p q : Int32) : Int32 := if two L p q = true then nI (lG L p.toNatClampNeg q.toNatClampNeg) else -1
def twoA (L : SL) (S : SS) (p q what : Int32) : Bool := two L p q && (if what = 0 then bt (sW S) (pr p.toNatClampNeg q.toNatClampNeg) else if what = 1 then bt (sE S) (pr p.toNatClampNeg q.toNatClampNeg) else if what = 2 then snap L S p.toNatClampNeg q.toNatClampNeg else if what = 3 then clas L S p.toNatClampNeg q.toNatClampNeg else false)
def mayA (L : SL) (S : SS) (s w : Int32) : Int32 := if (inN s (lQ L) && inN w (lS L)) = true then setN (lP L) (fun p => decide (sA S p = s.toNatClampNeg) && decide (0 < lO L p w.toNatClampNeg)) else -1
def codeB (L : SL) (S : SS) (p q w : Nat) : Bool := decide (0 < lO L p w) && decide (0 < lO L q w) && !anyN (lP L) (fun e => !decide (e = p) && !decide (e = q) && (decide (sA S e = sA S p) && decide (0 < lO L e w)))
def codA (L : SL) (S : SS) (p q : Int32) : Int32 := if two L p q = true then fG (codeB L S p.toNatClampNeg q.toNatClampNeg) 0 (lS L) else -1
def cntA (L : SL) (S : SS) (H : SH') (B : SB') (D : SD') (T : ST') (w : Int32) : Int32 := if w = 0 then nI (lS L) else if w = 1 then nI (lQ L) else if w = 2 then nI (lP L) else if w = 3 then sT S else if w = 4 then sW S else if w = 5 then sE S else if w = 6 then sD S else if w = 7 then nI D.1 else if w = 8 then nI H.1 else if w = 9 then nI B.1 else if w = 10 then nI T.1 else -1
theorem setN_and {c : Nat → Bool} {n p q : Nat} (hn : n ≤ 6) (hp : p < 6) (hq : q < 6) : (setN n c &&& ((nI (2 ^ p) ||| nI (2 ^ q)) ^^^ (-1))) = 0 ↔ anyN n (fun e => !decide (e = p) && !decide (e = q) && c e) = false := by
  have key : ∀ i, i < 32 → bt (setN n c &&& ((nI (2 ^ p) ||| nI (2 ^ q)) ^^^ (-1))) i = (decide (i < n) && c i && (!decide (i = p) && !decide (i = q))) := by
    intro i hi
    rw [b_and, b_not _ _ hi, b_or, setN_bt n (by omega) i hi, b_pow p (by omega) i hi, b_pow q (by omega) i hi, Bool.not_or]
  constructor
  · intro e
    cases e2 : anyN n (fun e => !decide (e = p) && !decide (e = q) && c e) with
    | false => rfl
    | true =>
      obtain ⟨i, hi, e3⟩ := (anyN_iff _ _).mp e2
      have := key i (by omega)
      rw [e, b_0] at this
      simp [hi] at this e3
      exact absurd (this e3.2 e3.1.1) e3.1.2
  · intro e
    apply b_ext
    intro i hi
    rw [key i hi, b_0]
    by_cases hin : i < n
    · have := anyN_f e hin
      simp [hin] at this ⊢
      intro h1 h2
      cases e3 : decide (i = q) with
      | true => simpa using e3
      | false => simp at e3; have := this h2 e3; rw [this] at h1; cases h1
    · simp [hin]
section
variable {d : Nat} {h : AH} {L : SL} {S : SS} {H : SH'} {B : SB'} {M : SM'} {D : SD'} {T : ST'} {N : SN'} {Q : Option Value → AH → Prop}
theorem x_person (W : WOK L S H B M D T N) (c : RC h L S H B M D T N) {p w : Int32} (h1 : Q (some (.int (perA L S p w))) h) : Rc (d + 4) m_X12_person [.ref 0, .int p, .int w] h Q := by
  have hO := W.1
  have o3 := hO.2.2.1
  have hV := W.2.1
  obtain ⟨a, g, c1, c2, c3, c4, c5, c6, c7, c8, c9, c10, c11⟩ := c
  have ha := c1.1
  have eL := vr c1.2.2.1
  unfold perA at h1
  rcases ha with rfl | rfl
  all_goals
    refine R_in rfl rfl ?_
    refine R_gs 4 rfl ?_
    rw [eL]
    refine R_gs 5 rfl ?_
    refine R_k rfl rfl (c_hasPerson (by decide) c2 (fun hx5 => ?_) (fun hx5 => ?_))
    ·
      refine W_bf rfl (by decide) ?_
      refine R_gs 15 rfl ?_
      obtain ⟨k, hk, rfl⟩ := inN_of (by omega) hx5
      rw [hx5, nI_clamp (n := k) (by omega), if_pos rfl] at h1
      refine W_w rfl (fun jj tt ht hz => ?_) (fun hz => ?_)
      ·
        have hjj : jj < 6 := by rcases Nat.lt_or_ge jj 6 with hq | hq; exact hq; rw [List.getElem?_eq_none (by simpa using hq)] at ht; cases ht
        by_cases e0 : jj = 0
        ·
          subst e0; cases ht
          refine R_gs 56 rfl ?_
          rw [eL]
          refine R_gs 60 rfl ?_
          refine R_il rfl (by first | rfl | exact shO (by decide) (by omega) | exact shG (by decide) (by omega)) (by repeat (first | with_reducible apply ix_add | with_reducible apply ix_mul | with_reducible exact ix_nI _ | with_reducible exact ix_lit _ | exact rfl)) (by omega) (by first | exact c2.K hk) ?_
          refine W_f rfl (by first | rfl | exact ⟨rfl, by first | decide | assumption | exact Or.inl rfl | exact Or.inr rfl | exact b2i_01 _⟩) ?_
          have e := sw_eq 0 hz (by decide); subst e; exact h1
        by_cases e1 : jj = 1
        ·
          subst e1; cases ht
          refine R_gs 70 rfl ?_
          refine R_il rfl (by first | rfl | exact shO (by decide) (by omega) | exact shG (by decide) (by omega)) (by repeat (first | with_reducible apply ix_add | with_reducible apply ix_mul | with_reducible exact ix_nI _ | with_reducible exact ix_lit _ | exact rfl)) (by omega) (by first | exact c3.A hk) ?_
          refine W_f rfl (by first | rfl | exact ⟨rfl, by first | decide | assumption | exact Or.inl rfl | exact Or.inr rfl | exact b2i_01 _⟩) ?_
          have e := sw_eq 1 hz (by decide); subst e; exact h1
        by_cases e2 : jj = 2
        ·
          subst e2; cases ht
          refine R_gs 76 rfl ?_
          rw [eL]
          refine R_gs 80 rfl ?_
          refine R_il rfl (by first | rfl | exact shO (by decide) (by omega) | exact shG (by decide) (by omega)) (by repeat (first | with_reducible apply ix_add | with_reducible apply ix_mul | with_reducible exact ix_nI _ | with_reducible exact ix_lit _ | exact rfl)) (by omega) (by first | exact c2.Y hk) ?_
          refine W_f rfl (by first | rfl | exact ⟨rfl, by first | decide | assumption | exact Or.inl rfl | exact Or.inr rfl | exact b2i_01 _⟩) ?_
          have e := sw_eq 2 hz (by decide); subst e; exact h1
        by_cases e3 : jj = 3
        ·
          subst e3; cases ht
          refine R_gs 90 rfl ?_
          refine R_il rfl (by first | rfl | exact shO (by decide) (by omega) | exact shG (by decide) (by omega)) (by repeat (first | with_reducible apply ix_add | with_reducible apply ix_mul | with_reducible exact ix_nI _ | with_reducible exact ix_lit _ | exact rfl)) (by omega) (by first | exact c3.Y hk) ?_
          refine W_f rfl (by first | rfl | exact ⟨rfl, by first | decide | assumption | exact Or.inl rfl | exact Or.inr rfl | exact b2i_01 _⟩) ?_
          have e := sw_eq 3 hz (by decide); subst e; exact h1
        by_cases e4 : jj = 4
        ·
          subst e4; cases ht
          refine R_gs 100 rfl ?_
          rw [eL]
          refine R_gs 101 rfl ?_
          refine R_k rfl rfl (c_utteranceOf (by decide) hO c2 (Or.inl rfl) c3 hV hk ?_)
          refine W_f rfl (by first | rfl | exact ⟨rfl, by first | decide | assumption | exact Or.inl rfl | exact Or.inr rfl | exact b2i_01 _⟩) ?_
          have e := sw_eq 4 hz (by decide); subst e; exact h1
        by_cases e5 : jj = 5
        ·
          subst e5; cases ht
          refine R_gs 110 rfl ?_
          refine R_k rfl rfl (c_spousesOf (Or.inl rfl) c3 (by omega) ?_)
          refine W_f rfl (by first | rfl | exact ⟨rfl, by first | decide | assumption | exact Or.inl rfl | exact Or.inr rfl | exact b2i_01 _⟩) ?_
          have e := sw_eq 5 hz (by decide); subst e; exact h1
        exact absurd hjj (by omega)
      ·
        refine R_gs 116 rfl ?_
        refine W_f rfl (by first | rfl | exact ⟨rfl, by first | decide | assumption | exact Or.inl rfl | exact Or.inr rfl | exact b2i_01 _⟩) ?_
        rw [if_neg (by rintro rfl; revert hz; decide), if_neg (by rintro rfl; revert hz; decide), if_neg (by rintro rfl; revert hz; decide), if_neg (by rintro rfl; revert hz; decide), if_neg (by rintro rfl; revert hz; decide), if_neg (by rintro rfl; revert hz; decide)] at h1; exact h1
    ·
      refine W_bt rfl (by decide) ?_
      refine R_gs 13 rfl ?_
      refine W_f rfl (by first | rfl | exact ⟨rfl, by first | decide | assumption | exact Or.inl rfl | exact Or.inr rfl | exact b2i_01 _⟩) ?_
      rw [hx5] at h1; exact h1
theorem x_odds (W : WOK L S H B M D T N) (c : RC h L S H B M D T N) {p w : Int32} (h1 : Q (some (.int (oddA L p w))) h) : Rc (d + 4) m_X12_odds [.ref 0, .int p, .int w] h Q := by
  have hO := W.1
  have o3 := hO.2.2.1
  have o1 := hO.1
  obtain ⟨a, g, c1, c2, c3, c4, c5, c6, c7, c8, c9, c10, c11⟩ := c
  have ha := c1.1
  have eL := vr c1.2.2.1
  unfold oddA at h1
  rcases ha with rfl | rfl
  all_goals
    refine R_in rfl rfl ?_
    refine R_gs 4 rfl ?_
    rw [eL]
    refine R_gs 5 rfl ?_
    refine R_k rfl rfl (c_hasPerson (by decide) c2 (fun hx5 => ?_) (fun hx5 => ?_))
    ·
      refine W_bf rfl (by decide) ?_
      refine R_gs 15 rfl ?_
      rw [eL]
      refine R_gs 16 rfl ?_
      refine R_k rfl rfl (c_hasSaying (by decide) c2 (fun hx16 => ?_) (fun hx16 => ?_))
      ·
        refine W_bf rfl (by decide) ?_
        refine R_gs 26 rfl ?_
        rw [eL]
        refine R_gs 30 rfl ?_
        obtain ⟨k, hk, rfl⟩ := inN_of (by omega) hx5
        obtain ⟨v, hv, rfl⟩ := inN_of (by omega) hx16
        refine R_ro rfl rfl rfl (by repeat (first | with_reducible apply ix_add | with_reducible apply ix_mul | with_reducible exact ix_nI _ | with_reducible exact ix_lit _ | exact rfl)) (by omega) ?_
        refine R_gs 32 rfl ?_
        refine R_il rfl (by first | rfl | exact shO (by decide) (by omega) | exact shG (by decide) (by omega)) (by repeat (first | with_reducible apply ix_add | with_reducible apply ix_mul | with_reducible exact ix_nI _ | with_reducible exact ix_lit _ | exact rfl)) (by omega) (by first | exact c2.O hk hv) ?_
        refine R_gs 37 rfl ?_
        refine W_f rfl (by first | rfl | exact ⟨rfl, by first | decide | assumption | exact Or.inl rfl | exact Or.inr rfl | exact b2i_01 _⟩) ?_
        rw [hx5, hx16, nI_clamp (by omega), nI_clamp (by omega)] at h1; exact h1
      ·
        refine W_bt rfl (by decide) ?_
        refine R_gs 37 rfl ?_
        refine W_f rfl (by first | rfl | exact ⟨rfl, by first | decide | assumption | exact Or.inl rfl | exact Or.inr rfl | exact b2i_01 _⟩) ?_
        rw [hx5, hx16] at h1; exact h1
    ·
      refine W_bt rfl (by decide) ?_
      refine R_gs 37 rfl ?_
      refine W_f rfl (by first | rfl | exact ⟨rfl, by first | decide | assumption | exact Or.inl rfl | exact Or.inr rfl | exact b2i_01 _⟩) ?_
      rw [hx5] at h1; exact h1
theorem x_likes (W : WOK L S H B M D T N) (c : RC h L S H B M D T N) {p q : Int32} (h1 : Q (some (.int (likA L p q))) h) : Rc (d + 4) m_X12_likes [.ref 0, .int p, .int q] h Q := by
  have hO := W.1
  have o3 := hO.2.2.1
  obtain ⟨a, g, c1, c2, c3, c4, c5, c6, c7, c8, c9, c10, c11⟩ := c
  have ha := c1.1
  have eL := vr c1.2.2.1
  unfold likA at h1
  rcases ha with rfl | rfl
  all_goals
    refine R_in rfl rfl ?_
    refine R_gs 4 rfl ?_
    rw [eL]
    refine R_gs 6 rfl ?_
    refine R_k rfl rfl (c_areTwo (by decide) c2 (fun hx6 => ?_) (fun hx6 => ?_))
    ·
      refine W_bf rfl (by decide) ?_
      refine R_gs 16 rfl ?_
      rw [eL]
      refine R_gs 20 rfl ?_
      obtain ⟨i, j, hi, hj, hij, rfl, rfl, ei, ej⟩ := two_of o3 hx6
      refine R_ro rfl rfl rfl (by repeat (first | with_reducible apply ix_add | with_reducible apply ix_mul | with_reducible exact ix_nI _ | with_reducible exact ix_lit _ | exact rfl)) (by omega) ?_
      refine R_gs 22 rfl ?_
      refine R_il rfl (by first | rfl | exact shO (by decide) (by omega) | exact shG (by decide) (by omega)) (by repeat (first | with_reducible apply ix_add | with_reducible apply ix_mul | with_reducible exact ix_nI _ | with_reducible exact ix_lit _ | exact rfl)) (by omega) (by first | exact c2.G hi hj) ?_
      refine R_gs 27 rfl ?_
      refine W_f rfl (by first | rfl | exact ⟨rfl, by first | decide | assumption | exact Or.inl rfl | exact Or.inr rfl | exact b2i_01 _⟩) ?_
      rw [hx6, ei, ej] at h1; exact h1
    ·
      refine W_bt rfl (by decide) ?_
      refine R_gs 27 rfl ?_
      refine W_f rfl (by first | rfl | exact ⟨rfl, by first | decide | assumption | exact Or.inl rfl | exact Or.inr rfl | exact b2i_01 _⟩) ?_
      rw [hx6] at h1; exact h1
theorem x_two (W : WOK L S H B M D T N) (c : RC h L S H B M D T N) {p q w : Int32} (h1 : Q (some (.int (b2i (twoA L S p q w)))) h) : Rc (d + 6) m_X12_two [.ref 0, .int p, .int q, .int w] h Q := by
  have hO := W.1
  have o3 := hO.2.2.1
  have hV := W.2.1
  obtain ⟨a, g, c1, c2, c3, c4, c5, c6, c7, c8, c9, c10, c11⟩ := c
  have ha := c1.1
  have eL := vr c1.2.2.1
  unfold twoA at h1
  rcases ha with rfl | rfl
  all_goals
    refine R_in rfl rfl ?_
    refine R_gs 4 rfl ?_
    rw [eL]
    refine R_gs 6 rfl ?_
    refine R_k rfl rfl (c_areTwo (by decide) c2 (fun hx6 => ?_) (fun hx6 => ?_))
    ·
      refine W_bf rfl (by decide) ?_
      refine R_gs 15 rfl ?_
      obtain ⟨i, j, hi, hj, hij, rfl, rfl, ei, ej⟩ := two_of o3 hx6
      rw [hx6, ei, ej] at h1
      refine W_w rfl (fun jj tt ht hz => ?_) (fun hz => ?_)
      ·
        have hjj : jj < 4 := by rcases Nat.lt_or_ge jj 4 with hq | hq; exact hq; rw [List.getElem?_eq_none (by simpa using hq)] at ht; cases ht
        by_cases e0 : jj = 0
        ·
          subst e0; cases ht
          refine R_gs 50 rfl ?_
          refine R_k rfl rfl (c_areWed (Or.inl rfl) c3 (by omega) (by omega) hij (fun hx50 => ?_) (fun hx50 => ?_))
          ·
            refine W_f rfl (by first | rfl | exact ⟨rfl, by first | decide | assumption | exact Or.inl rfl | exact Or.inr rfl | exact b2i_01 _⟩) ?_
            have e := sw_eq 0 hz (by decide); subst e; rw [if_pos rfl, hx50] at h1; exact h1
          ·
            refine W_f rfl (by first | rfl | exact ⟨rfl, by first | decide | assumption | exact Or.inl rfl | exact Or.inr rfl | exact b2i_01 _⟩) ?_
            have e := sw_eq 0 hz (by decide); subst e; rw [if_pos rfl, hx50] at h1; exact h1
        by_cases e1 : jj = 1
        ·
          subst e1; cases ht
          refine R_gs 60 rfl ?_
          refine R_k rfl rfl (c_areKept (Or.inl rfl) c3 (by omega) (by omega) hij (fun hx60 => ?_) (fun hx60 => ?_))
          ·
            refine W_f rfl (by first | rfl | exact ⟨rfl, by first | decide | assumption | exact Or.inl rfl | exact Or.inr rfl | exact b2i_01 _⟩) ?_
            have e := sw_eq 1 hz (by decide); subst e; rw [if_neg (by decide), if_pos rfl, hx60] at h1; exact h1
          ·
            refine W_f rfl (by first | rfl | exact ⟨rfl, by first | decide | assumption | exact Or.inl rfl | exact Or.inr rfl | exact b2i_01 _⟩) ?_
            have e := sw_eq 1 hz (by decide); subst e; rw [if_neg (by decide), if_pos rfl, hx60] at h1; exact h1
        by_cases e2 : jj = 2
        ·
          subst e2; cases ht
          refine R_gs 72 rfl ?_
          rw [eL]
          refine R_gs 74 rfl ?_
          refine R_k rfl rfl (c_couldSnap (by decide) hO c2 (Or.inl rfl) c3 hV hi hj hij (fun hx74 => ?_) (fun hx74 => ?_))
          ·
            refine W_f rfl (by first | rfl | exact ⟨rfl, by first | decide | assumption | exact Or.inl rfl | exact Or.inr rfl | exact b2i_01 _⟩) ?_
            have e := sw_eq 2 hz (by decide); subst e; rw [if_neg (by decide), if_neg (by decide), if_pos rfl, hx74] at h1; exact h1
          ·
            refine W_f rfl (by first | rfl | exact ⟨rfl, by first | decide | assumption | exact Or.inl rfl | exact Or.inr rfl | exact b2i_01 _⟩) ?_
            have e := sw_eq 2 hz (by decide); subst e; rw [if_neg (by decide), if_neg (by decide), if_pos rfl, hx74] at h1; exact h1
        by_cases e3 : jj = 3
        ·
          subst e3; cases ht
          refine R_gs 86 rfl ?_
          rw [eL]
          refine R_gs 88 rfl ?_
          refine R_k rfl rfl (c_clash (by decide) hO c2 (Or.inl rfl) c3 hV hi hj hij (fun hx88 => ?_) (fun hx88 => ?_))
          ·
            refine W_f rfl (by first | rfl | exact ⟨rfl, by first | decide | assumption | exact Or.inl rfl | exact Or.inr rfl | exact b2i_01 _⟩) ?_
            have e := sw_eq 3 hz (by decide); subst e; rw [if_neg (by decide), if_neg (by decide), if_neg (by decide), if_pos rfl, hx88] at h1; exact h1
          ·
            refine W_f rfl (by first | rfl | exact ⟨rfl, by first | decide | assumption | exact Or.inl rfl | exact Or.inr rfl | exact b2i_01 _⟩) ?_
            have e := sw_eq 3 hz (by decide); subst e; rw [if_neg (by decide), if_neg (by decide), if_neg (by decide), if_pos rfl, hx88] at h1; exact h1
        exact absurd hjj (by omega)
      ·
        refine R_gs 93 rfl ?_
        refine W_f rfl (by first | rfl | exact ⟨rfl, by first | decide | assumption | exact Or.inl rfl | exact Or.inr rfl | exact b2i_01 _⟩) ?_
        rw [if_neg (by rintro rfl; revert hz; decide), if_neg (by rintro rfl; revert hz; decide), if_neg (by rintro rfl; revert hz; decide), if_neg (by rintro rfl; revert hz; decide)] at h1; exact h1
    ·
      refine W_bt rfl (by decide) ?_
      refine R_gs 13 rfl ?_
      refine W_f rfl (by first | rfl | exact ⟨rfl, by first | decide | assumption | exact Or.inl rfl | exact Or.inr rfl | exact b2i_01 _⟩) ?_
      rw [hx6] at h1; exact h1
theorem x_bigamists (W : WOK L S H B M D T N) (c : RC h L S H B M D T N) (h1 : Q (some (.int (bigs (sW S)))) h) : Rc (d + 4) m_X12_bigamists [.ref 0] h Q := by
  obtain ⟨a, g, c1, c2, c3, c4, c5, c6, c7, c8, c9, c10, c11⟩ := c
  refine R_in rfl rfl ?_
  refine R_gs 4 rfl ?_
  refine R_k rfl rfl (c_bigamistBits c10 (Or.inl rfl) W.1 c3 W.2.1 ?_)
  refine W_f rfl (by first | rfl | exact ⟨rfl, by first | decide | assumption | exact Or.inl rfl | exact Or.inr rfl | exact b2i_01 _⟩) ?_
  exact h1
theorem x_may (W : WOK L S H B M D T N) (c : RC h L S H B M D T N) {s w : Int32} (h1 : Q (some (.int (mayA L S s w))) h) : Rc (d + 4) m_X12_may [.ref 0, .int s, .int w] h Q := by
  have hO := W.1
  have o3 := hO.2.2.1
  have o2 := hO.2.1
  have o1 := hO.1
  obtain ⟨a, g, c1, c2, c3, c4, c5, c6, c7, c8, c9, c10, c11⟩ := c
  have ha := c1.1
  have eL := vr c1.2.2.1
  unfold mayA at h1
  rcases ha with rfl | rfl
  all_goals
    refine R_in rfl rfl ?_
    refine R_gs 4 rfl ?_
    rw [eL]
    refine R_gs 5 rfl ?_
    refine R_k rfl rfl (c_hasPlace (by decide) c2 (fun hx5 => ?_) (fun hx5 => ?_))
    ·
      refine W_bf rfl (by decide) ?_
      refine R_gs 15 rfl ?_
      rw [eL]
      refine R_gs 16 rfl ?_
      refine R_k rfl rfl (c_hasSaying (by decide) c2 (fun hx16 => ?_) (fun hx16 => ?_))
      ·
        refine W_bf rfl (by decide) ?_
        refine R_gs 30 rfl ?_
        rw [eL]
        refine R_gs 32 rfl ?_
        obtain ⟨k, hk, rfl⟩ := inN_of (by omega) hx5
        obtain ⟨v, hv, rfl⟩ := inN_of (by omega) hx16
        refine R_k rfl rfl (c_talkersAt (by decide) hO c2 (Or.inl rfl) c3 W.2.1 (by omega) hv ?_)
        refine R_gs 39 rfl ?_
        refine W_f rfl (by first | rfl | exact ⟨rfl, by first | decide | assumption | exact Or.inl rfl | exact Or.inr rfl | exact b2i_01 _⟩) ?_
        rw [hx5, hx16, nI_clamp (by omega), nI_clamp (by omega)] at h1; exact h1
      ·
        refine W_bt rfl (by decide) ?_
        refine R_gs 39 rfl ?_
        refine W_f rfl (by first | rfl | exact ⟨rfl, by first | decide | assumption | exact Or.inl rfl | exact Or.inr rfl | exact b2i_01 _⟩) ?_
        rw [hx5, hx16] at h1; exact h1
    ·
      refine W_bt rfl (by decide) ?_
      refine R_gs 39 rfl ?_
      refine W_f rfl (by first | rfl | exact ⟨rfl, by first | decide | assumption | exact Or.inl rfl | exact Or.inr rfl | exact b2i_01 _⟩) ?_
      rw [hx5] at h1; exact h1
theorem x_code (W : WOK L S H B M D T N) (c : RC h L S H B M D T N) {p q : Int32} (h1 : Q (some (.int (codA L S p q))) h) : Rc (d + 4) m_X12_code [.ref 0, .int p, .int q] h Q := by
  have hO := W.1
  have hV := W.2.1
  obtain ⟨o1, o2, o3, o4, -⟩ := id hO
  obtain ⟨a, g, c1, c2, c3, c4, c5, c6, c7, c8, c9, c10, c11⟩ := c
  have ha := c1.1
  have eL := vr c1.2.2.1
  unfold codA at h1
  rcases ha with rfl | rfl
  ·
    refine R_in rfl rfl ?_
    refine R_gs 4 rfl ?_
    rw [eL]
    refine R_gs 6 rfl ?_
    refine R_k rfl rfl (c_areTwo (by decide) c2 (fun hx6 => ?_) (fun hx6 => ?_))
    ·
      refine W_bf rfl (by decide) ?_
      refine R_gs 25 rfl ?_
      obtain ⟨i, j, hi, hj, hij, rfl, rfl, ei, ej⟩ := two_of o3 hx6
      rw [hx6, ei, ej, if_pos rfl] at h1
      rw [one_shl i (by omega), one_shl j (by omega)]
      refine w_first (W := fun w => ∀ x5 : Option Value, Rw (d + 3) Q (m_X12_code, 25, [some (.ref 0), some (.int (nI i)), some (.int (nI j)), some (.int (nI (2 ^ i) ||| nI (2 ^ j))), some (.int (nI w)), x5], [], 262, h)) (A := fun v => Q (some (.int v)) h) (lS L) (codeB L S i j) h1 (fun w hw wa ww => ?_) (fun wa => ?_) none
      ·
        intro x5
        have u1 := (o4 i hi).2.2.2.1 w hw
        have u2 := (o4 j hj).2.2.2.1 w hw
        have u3 := (hV.2.1 i hi).1
        refine R_gs 31 rfl ?_
        rw [eL]
        refine R_gs 34 rfl ?_
        rw [c2.S]
        refine W_bf rfl (ltc hw (by omega)) ?_
        refine R_gs 41 rfl ?_
        rw [eL]
        refine R_gs 45 rfl ?_
        refine R_ro rfl rfl rfl (by repeat (first | with_reducible apply ix_add | with_reducible apply ix_mul | with_reducible exact ix_nI _ | with_reducible exact ix_lit _ | exact rfl)) (by omega) ?_
        refine R_gs 48 rfl ?_
        refine R_il rfl (by first | rfl | exact shO (by decide) (by omega) | exact shG (by decide) (by omega)) (by repeat (first | with_reducible apply ix_add | with_reducible apply ix_mul | with_reducible exact ix_nI _ | with_reducible exact ix_lit _ | exact rfl)) (by omega) (by first | exact c2.O hi hw) ?_
        refine W_b rfl (fun hc49 => ?_) (fun hc49 => ?_)
        ·
          rw [le0 (by omega)] at hc49
          refine R_gs 76 rfl ?_
          refine W_bt rfl (by decide) ?_
          refine R_gs 25 rfl ?_
          rw [nI_1]; exact ww (by unfold codeB; first | (rw [hc49]; rfl) | (rw [hc64]; simp)) _
        ·
          rw [le0 (by omega)] at hc49
          refine R_gs 56 rfl ?_
          rw [eL]
          refine R_gs 60 rfl ?_
          refine R_ro rfl rfl rfl (by repeat (first | with_reducible apply ix_add | with_reducible apply ix_mul | with_reducible exact ix_nI _ | with_reducible exact ix_lit _ | exact rfl)) (by omega) ?_
          refine R_gs 63 rfl ?_
          refine R_il rfl (by first | rfl | exact shO (by decide) (by omega) | exact shG (by decide) (by omega)) (by repeat (first | with_reducible apply ix_add | with_reducible apply ix_mul | with_reducible exact ix_nI _ | with_reducible exact ix_lit _ | exact rfl)) (by omega) (by first | exact c2.O hj hw) ?_
          refine W_b rfl (fun hc64 => ?_) (fun hc64 => ?_)
          ·
            rw [le0 (by omega)] at hc64
            refine R_gs 76 rfl ?_
            refine W_bt rfl (by decide) ?_
            refine R_gs 25 rfl ?_
            rw [nI_1]; exact ww (by unfold codeB; first | (rw [hc49]; rfl) | (rw [hc64]; simp)) _
          ·
            rw [le0 (by omega)] at hc64
            refine R_gs 76 rfl ?_
            refine W_bf rfl (by decide) ?_
            refine R_gs 87 rfl ?_
            rw [eL]
            refine R_gs 95 rfl ?_
            refine R_il rfl (by first | rfl | exact shO (by decide) (by omega) | exact shG (by decide) (by omega)) (by repeat (first | with_reducible apply ix_add | with_reducible apply ix_mul | with_reducible exact ix_nI _ | with_reducible exact ix_lit _ | exact rfl)) (by omega) (by first | exact c3.A hi) ?_
            refine R_gs 98 rfl ?_
            refine R_k rfl rfl (c_talkersAt (by decide) hO c2 (Or.inl rfl) c3 hV (by omega) hw ?_)
            refine R_gs 105 rfl ?_
            refine W_b rfl (fun hc105 => ?_) (fun hc105 => ?_)
            ·
              refine R_gs 110 rfl ?_
              refine W_f rfl (by first | rfl | exact ⟨rfl, by first | decide | assumption | exact Or.inl rfl | exact Or.inr rfl | exact b2i_01 _⟩) ?_
              exact wa (by unfold codeB; rw [setN_and o3 (by omega) (by omega)] at hc105; rw [hc105, decide_eq_true (by omega), decide_eq_true (by omega)]; rfl)
            ·
              refine R_gs 25 rfl ?_
              rw [nI_1]; exact ww (by unfold codeB; rw [setN_and o3 (by omega) (by omega)] at hc105; simp at hc105; simp [hc105]) _
      ·
        intro x5
        refine R_gs 31 rfl ?_
        rw [eL]
        refine R_gs 34 rfl ?_
        rw [c2.S]
        refine W_bt rfl (gec (by omega)) ?_
        refine R_gs 118 rfl ?_
        refine W_f rfl (by first | rfl | exact ⟨rfl, by first | decide | assumption | exact Or.inl rfl | exact Or.inr rfl | exact b2i_01 _⟩) ?_
        exact wa
    ·
      refine W_bt rfl (by decide) ?_
      refine R_gs 13 rfl ?_
      refine W_f rfl (by first | rfl | exact ⟨rfl, by first | decide | assumption | exact Or.inl rfl | exact Or.inr rfl | exact b2i_01 _⟩) ?_
      rw [hx6] at h1; exact h1
  ·
    refine R_in rfl rfl ?_
    refine R_gs 4 rfl ?_
    rw [eL]
    refine R_gs 6 rfl ?_
    refine R_k rfl rfl (c_areTwo (by decide) c2 (fun hx6 => ?_) (fun hx6 => ?_))
    ·
      refine W_bf rfl (by decide) ?_
      refine R_gs 25 rfl ?_
      obtain ⟨i, j, hi, hj, hij, rfl, rfl, ei, ej⟩ := two_of o3 hx6
      rw [hx6, ei, ej, if_pos rfl] at h1
      rw [one_shl i (by omega), one_shl j (by omega)]
      refine w_first (W := fun w => ∀ x5 : Option Value, Rw (d + 3) Q (m_X12_code, 25, [some (.ref 0), some (.int (nI i)), some (.int (nI j)), some (.int (nI (2 ^ i) ||| nI (2 ^ j))), some (.int (nI w)), x5], [], 262, h)) (A := fun v => Q (some (.int v)) h) (lS L) (codeB L S i j) h1 (fun w hw wa ww => ?_) (fun wa => ?_) none
      ·
        intro x5
        have u1 := (o4 i hi).2.2.2.1 w hw
        have u2 := (o4 j hj).2.2.2.1 w hw
        have u3 := (hV.2.1 i hi).1
        refine R_gs 31 rfl ?_
        rw [eL]
        refine R_gs 34 rfl ?_
        rw [c2.S]
        refine W_bf rfl (ltc hw (by omega)) ?_
        refine R_gs 41 rfl ?_
        rw [eL]
        refine R_gs 45 rfl ?_
        refine R_ro rfl rfl rfl (by repeat (first | with_reducible apply ix_add | with_reducible apply ix_mul | with_reducible exact ix_nI _ | with_reducible exact ix_lit _ | exact rfl)) (by omega) ?_
        refine R_gs 48 rfl ?_
        refine R_il rfl (by first | rfl | exact shO (by decide) (by omega) | exact shG (by decide) (by omega)) (by repeat (first | with_reducible apply ix_add | with_reducible apply ix_mul | with_reducible exact ix_nI _ | with_reducible exact ix_lit _ | exact rfl)) (by omega) (by first | exact c2.O hi hw) ?_
        refine W_b rfl (fun hc49 => ?_) (fun hc49 => ?_)
        ·
          rw [le0 (by omega)] at hc49
          refine R_gs 76 rfl ?_
          refine W_bt rfl (by decide) ?_
          refine R_gs 25 rfl ?_
          rw [nI_1]; exact ww (by unfold codeB; first | (rw [hc49]; rfl) | (rw [hc64]; simp)) _
        ·
          rw [le0 (by omega)] at hc49
          refine R_gs 56 rfl ?_
          rw [eL]
          refine R_gs 60 rfl ?_
          refine R_ro rfl rfl rfl (by repeat (first | with_reducible apply ix_add | with_reducible apply ix_mul | with_reducible exact ix_nI _ | with_reducible exact ix_lit _ | exact rfl)) (by omega) ?_
          refine R_gs 63 rfl ?_
          refine R_il rfl (by first | rfl | exact shO (by decide) (by omega) | exact shG (by decide) (by omega)) (by repeat (first | with_reducible apply ix_add | with_reducible apply ix_mul | with_reducible exact ix_nI _ | with_reducible exact ix_lit _ | exact rfl)) (by omega) (by first | exact c2.O hj hw) ?_
          refine W_b rfl (fun hc64 => ?_) (fun hc64 => ?_)
          ·
            rw [le0 (by omega)] at hc64
            refine R_gs 76 rfl ?_
            refine W_bt rfl (by decide) ?_
            refine R_gs 25 rfl ?_
            rw [nI_1]; exact ww (by unfold codeB; first | (rw [hc49]; rfl) | (rw [hc64]; simp)) _
          ·
            rw [le0 (by omega)] at hc64
            refine R_gs 76 rfl ?_
            refine W_bf rfl (by decide) ?_
            refine R_gs 87 rfl ?_
            rw [eL]
            refine R_gs 95 rfl ?_
            refine R_il rfl (by first | rfl | exact shO (by decide) (by omega) | exact shG (by decide) (by omega)) (by repeat (first | with_reducible apply ix_add | with_reducible apply ix_mul | with_reducible exact ix_nI _ | with_reducible exact ix_lit _ | exact rfl)) (by omega) (by first | exact c3.A hi) ?_
            refine R_gs 98 rfl ?_
            refine R_k rfl rfl (c_talkersAt (by decide) hO c2 (Or.inl rfl) c3 hV (by omega) hw ?_)
            refine R_gs 105 rfl ?_
            refine W_b rfl (fun hc105 => ?_) (fun hc105 => ?_)
            ·
              refine R_gs 110 rfl ?_
              refine W_f rfl (by first | rfl | exact ⟨rfl, by first | decide | assumption | exact Or.inl rfl | exact Or.inr rfl | exact b2i_01 _⟩) ?_
              exact wa (by unfold codeB; rw [setN_and o3 (by omega) (by omega)] at hc105; rw [hc105, decide_eq_true (by omega), decide_eq_true (by omega)]; rfl)
            ·
              refine R_gs 25 rfl ?_
              rw [nI_1]; exact ww (by unfold codeB; rw [setN_and o3 (by omega) (by omega)] at hc105; simp at hc105; simp [hc105]) _
      ·
        intro x5
        refine R_gs 31 rfl ?_
        rw [eL]
        refine R_gs 34 rfl ?_
        rw [c2.S]
        refine W_bt rfl (gec (by omega)) ?_
        refine R_gs 118 rfl ?_
        refine W_f rfl (by first | rfl | exact ⟨rfl, by first | decide | assumption | exact Or.inl rfl | exact Or.inr rfl | exact b2i_01 _⟩) ?_
        exact wa
    ·
      refine W_bt rfl (by decide) ?_
      refine R_gs 13 rfl ?_
      refine W_f rfl (by first | rfl | exact ⟨rfl, by first | decide | assumption | exact Or.inl rfl | exact Or.inr rfl | exact b2i_01 _⟩) ?_
      rw [hx6] at h1; exact h1
theorem x_count (W : WOK L S H B M D T N) (c : RC h L S H B M D T N) {w : Int32} (h1 : Q (some (.int (cntA L S H B D T w))) h) : Rc (d + 4) m_X12_count [.ref 0, .int w] h Q := by
  obtain ⟨a, g, c1, c2, c3, c4, c5, c6, c7, c8, c9, c10, c11⟩ := c
  have ha := c1.1
  have hg := c1.2.1
  have eL := vr c1.2.2.1
  have eG := vr c1.2.2.2.2.1
  obtain ⟨_, xx, _, _, eH, _⟩ := c5
  unfold cntA at h1
  rcases ha with rfl | rfl <;> rcases hg with rfl | rfl
  all_goals
    refine R_in rfl rfl ?_
    refine R_gs 1 rfl ?_
    refine W_w rfl (fun jj tt ht hz => ?_) (fun hz => ?_)
    ·
      have hjj : jj < 11 := by rcases Nat.lt_or_ge jj 11 with hq | hq; exact hq; rw [List.getElem?_eq_none (by simpa using hq)] at ht; cases ht
      by_cases e0 : jj = 0
      ·
        subst e0; cases ht
        refine R_gs 64 rfl ?_
        rw [eL]
        refine R_gs 67 rfl ?_
        rw [c2.S]
        refine W_f rfl (by first | rfl | exact ⟨rfl, by first | decide | assumption | exact Or.inl rfl | exact Or.inr rfl | exact b2i_01 _⟩) ?_
        have e := sw_eq 0 hz (by decide); subst e; exact h1
      by_cases e1 : jj = 1
      ·
        subst e1; cases ht
        refine R_gs 72 rfl ?_
        rw [eL]
        refine R_gs 75 rfl ?_
        rw [c2.Q]
        refine W_f rfl (by first | rfl | exact ⟨rfl, by first | decide | assumption | exact Or.inl rfl | exact Or.inr rfl | exact b2i_01 _⟩) ?_
        have e := sw_eq 1 hz (by decide); subst e; exact h1
      by_cases e2 : jj = 2
      ·
        subst e2; cases ht
        refine R_gs 80 rfl ?_
        rw [eL]
        refine R_gs 83 rfl ?_
        rw [c2.P]
        refine W_f rfl (by first | rfl | exact ⟨rfl, by first | decide | assumption | exact Or.inl rfl | exact Or.inr rfl | exact b2i_01 _⟩) ?_
        have e := sw_eq 2 hz (by decide); subst e; exact h1
      by_cases e3 : jj = 3
      ·
        subst e3; cases ht
        refine R_gs 91 rfl ?_
        rw [c3.T]
        refine W_f rfl (by first | rfl | exact ⟨rfl, by first | decide | assumption | exact Or.inl rfl | exact Or.inr rfl | exact b2i_01 _⟩) ?_
        have e := sw_eq 3 hz (by decide); subst e; exact h1
      by_cases e4 : jj = 4
      ·
        subst e4; cases ht
        refine R_gs 99 rfl ?_
        rw [c3.W]
        refine W_f rfl (by first | rfl | exact ⟨rfl, by first | decide | assumption | exact Or.inl rfl | exact Or.inr rfl | exact b2i_01 _⟩) ?_
        have e := sw_eq 4 hz (by decide); subst e; exact h1
      by_cases e5 : jj = 5
      ·
        subst e5; cases ht
        refine R_gs 107 rfl ?_
        rw [c3.E]
        refine W_f rfl (by first | rfl | exact ⟨rfl, by first | decide | assumption | exact Or.inl rfl | exact Or.inr rfl | exact b2i_01 _⟩) ?_
        have e := sw_eq 5 hz (by decide); subst e; exact h1
      by_cases e6 : jj = 6
      ·
        subst e6; cases ht
        refine R_gs 115 rfl ?_
        rw [c3.D]
        refine W_f rfl (by first | rfl | exact ⟨rfl, by first | decide | assumption | exact Or.inl rfl | exact Or.inr rfl | exact b2i_01 _⟩) ?_
        have e := sw_eq 6 hz (by decide); subst e; exact h1
      by_cases e7 : jj = 7
      ·
        subst e7; cases ht
        refine R_gs 120 rfl ?_
        rw [eG]
        refine R_gs 123 rfl ?_
        rw [c7.1]
        refine W_f rfl (by first | rfl | exact ⟨rfl, by first | decide | assumption | exact Or.inl rfl | exact Or.inr rfl | exact b2i_01 _⟩) ?_
        have e := sw_eq 7 hz (by decide); subst e; exact h1
      by_cases e8 : jj = 8
      ·
        subst e8; cases ht
        refine R_gs 131 rfl ?_
        rw [c4.1]
        refine W_f rfl (by first | rfl | exact ⟨rfl, by first | decide | assumption | exact Or.inl rfl | exact Or.inr rfl | exact b2i_01 _⟩) ?_
        have e := sw_eq 8 hz (by decide); subst e; exact h1
      by_cases e9 : jj = 9
      ·
        subst e9; cases ht
        refine R_gs 139 rfl ?_
        rw [eH]
        refine W_f rfl (by first | rfl | exact ⟨rfl, by first | decide | assumption | exact Or.inl rfl | exact Or.inr rfl | exact b2i_01 _⟩) ?_
        have e := sw_eq 9 hz (by decide); subst e; exact h1
      by_cases e10 : jj = 10
      ·
        subst e10; cases ht
        refine R_gs 147 rfl ?_
        rw [c8.1]
        refine W_f rfl (by first | rfl | exact ⟨rfl, by first | decide | assumption | exact Or.inl rfl | exact Or.inr rfl | exact b2i_01 _⟩) ?_
        have e := sw_eq 10 hz (by decide); subst e; exact h1
      exact absurd hjj (by omega)
    ·
      refine R_gs 149 rfl ?_
      refine W_f rfl (by first | rfl | exact ⟨rfl, by first | decide | assumption | exact Or.inl rfl | exact Or.inr rfl | exact b2i_01 _⟩) ?_
      simp only [if_neg (show ¬ w = 0 from by rintro rfl; revert hz; decide), if_neg (show ¬ w = 1 from by rintro rfl; revert hz; decide), if_neg (show ¬ w = 2 from by rintro rfl; revert hz; decide), if_neg (show ¬ w = 3 from by rintro rfl; revert hz; decide), if_neg (show ¬ w = 4 from by rintro rfl; revert hz; decide), if_neg (show ¬ w = 5 from by rintro rfl; revert hz; decide), if_neg (show ¬ w = 6 from by rintro rfl; revert hz; decide), if_neg (show ¬ w = 7 from by rintro rfl; revert hz; decide), if_neg (show ¬ w = 8 from by rintro rfl; revert hz; decide), if_neg (show ¬ w = 9 from by rintro rfl; revert hz; decide), if_neg (show ¬ w = 10 from by rintro rfl; revert hz; decide)] at h1; exact h1
end
