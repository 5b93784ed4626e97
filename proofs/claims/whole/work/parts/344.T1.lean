/-! the model's words -/
def SPL : List (List Nat) := ["word", "place", "person", "at", "shy", "says", "likes", "kept", "counts", "parts", "say", "hush", "walk", "part", "keep", "moment", "plain", "deaf", "stammer", "echo", "not", "and", "or", "liking", "back", "wives"].map (fun s => s.toList.map Char.toNat)
def SPW (w : Nat) : List Nat := SPL.getD w []
def WMv : List Nat := [1186224, 30595897, 1119812451, 57, 26332, 964720, 22961072, 564640, 237227924, 30062630, 26073, 434684, 1166843, 812503, 564229, 930249728, 30596128, 209500, 50138231561, 257683, 19741, 1891, 573, 849564962, 102797, 43591902]
def tw (w : Nat) : Nat := if w < 23 then 7 + w else 12 + w
theorem spw_1 : ∀ w, w < 26 → SPW w ≠ [] ∧ (SPW w).length ≤ 8 ∧ (∀ c, c ∈ SPW w → 97 ≤ c ∧ c ≤ 122) := by decide +kernel
theorem spw_2 : ∀ w, w < 26 → pkM (SPW w) = WMv.getD w 0 ∧ tokW (SPW w) = tw w ∧ pkC (SPW w) = TKv.getD (tw w) 0 ∧ srt (tw w) = 1 ∧ tw w ≠ 3 ∧ tw w < 38 ∧ tw w ≠ 0 := by decide +kernel
theorem tw_inj {w w' : Nat} (h : w < 26) (h' : w' < 26) (e : tw w = tw w') : w = w' := by
  unfold tw at e; split at e <;> split at e <;> omega
theorem spw_O {w : Nat} (hw : w < 26) : LtO (SPW w) := spw_1 w hw
/-- a word of the model's is the class's token -/
theorem wd_iff {x : TK} (g : TkG x) (h1 : srt x.1 = 1) {w : Nat} (hw : w < 26) : pkM x.2.2.2 = WMv.getD w 0 ↔ x.1 = tw w := by
  obtain ⟨g1, g2⟩ := g.2.2.2.1 h1
  obtain ⟨a1, a2, a3, a4, a5, a6, a7⟩ := spw_2 w hw
  rw [← a1, pkM_inj g1 (spw_O hw)]
  constructor
  · intro e; rw [g2, e, a2]
  · intro e
    rw [g2] at e
    unfold tokW at e
    rcases fsK_is (v := pkC x.2.2.2) (o := 3) 38 0 with e1 | ⟨e1, -, -⟩
    · rw [e1] at e; exact absurd e.symm a5
    · rw [e, ← a3, pkC_inj (spw_O hw) g1] at e1; exact e1.symm
def WrdM (h : AH) : Prop := ∀ w, w < 26 → hJ h 240 w = lN64 (WMv.getD w 0)
/-- the reader of the model stands there -/
def MF (h : AH) (K : TKs) (s : RS) : Prop := TkM h K ∧ s.1 < K.1 ∧ hI h 235 7 = nI s.1 ∧ hI h 235 8 = nI s.2 ∧ s.2 ≤ 20000 ∧ WrdM h
/-- of the model itself only these two change -/
def F78 (h h' : AH) : Prop := ∀ k, k ≠ 7 → k ≠ 8 → hI h' 235 k = hI h 235 k
def MR (h h' : AH) : Prop := Fr (fun q => Nat.beq q 235) h h' ∧ F78 h h'
def tz (K : TKs) (t : Nat) (s : RS) : Bool := decide (s.2 = 0) && decide (tk K s.1 = t)
theorem sg_iff : ∀ t, t < 38 → ∀ t', t' < 38 → srt t = 3 → srt t' = 3 → (TKv.getD t 0 = TKv.getD t' 0 ↔ t = t') := by decide +kernel
theorem sg_lt : ∀ t, t < 38 → srt t = 3 → TKv.getD t 0 < 128 ∧ t ≠ 0 := by decide +kernel
section
variable {d : Nat} {h h' h'' : AH} {K : TKs} {s : RS} {Q : Option Value → AH → Prop}
theorem MR.refl (h : AH) : MR h h := ⟨Fr.refl _ h, fun _ _ _ => rfl⟩
theorem MR.trans (a : MR h h') (b : MR h' h'') : MR h h'' := ⟨a.1.trans b.1, fun k h7 h8 => (b.2 k h7 h8).trans (a.2 k h7 h8)⟩
theorem MF.tg (c : MF h K s) (kO : TokOK K) : TkG (K.2 s.1) := kO.2.1 s.1 c.2.1
theorem MF.fz (c : MF h K s) : hI h 235 8 = 0 ↔ s.2 = 0 := by
  rw [c.2.2.2.1]
  exact nI_eq (b := 0) (by have := c.2.2.2.2.1; omega) (by omega)
theorem MF.fl (c : MF h K s) : hI h 235 8 ≤ 0 ↔ s.2 = 0 := by
  rw [c.2.2.2.1, show (nI s.2 ≤ 0 ↔ s.2 ≤ 0) from nI_leI (b := 0) (by have := c.2.2.2.2.1; omega) (by omega)]; omega
theorem MF.fr (c : MF h K s) {X : Nat → Bool} (f : Fr X h h') (x1 : X 237 = false) (x2 : X 238 = false) (x3 : X 239 = false) (x4 : X 240 = false) (e7 : hI h' 235 7 = hI h 235 7) (e8 : hI h' 235 8 = hI h 235 8) : MF h' K s := by
  obtain ⟨a1, a2, a3, a4, a5, a6⟩ := c
  refine ⟨fun i hi => ?_, a2, e7.trans a3, e8.trans a4, a5, fun w hw => by rw [f.J x4]; exact a6 w hw⟩
  have := a1 i hi
  unfold TkY at *
  rw [f.I x1, f.I x2, f.J x3]; exact this
/-- both numbers laid anew -/
theorem MF.st (c : MF h K s) (m : MR h h') {s' : RS} (hs : s'.1 < K.1) (e7 : hI h' 235 7 = nI s'.1) (e8 : hI h' 235 8 = nI s'.2) (hb : s'.2 ≤ 20000) : MF h' K s' := by
  obtain ⟨a1, a2, a3, a4, a5, a6⟩ := c
  refine ⟨fun i hi => ?_, hs, e7, e8, hb, fun w hw => by rw [m.1.J rfl]; exact a6 w hw⟩
  have := a1 i hi
  unfold TkY at *
  rw [m.1.I rfl, m.1.I rfl, m.1.J rfl]; exact this
theorem MR.w7 (h : AH) (v : Int32) : MR h (wI h 235 7 v) := ⟨(Fr.refl _ h).wI rfl, fun k h7 _ => (wI_at _ _ _ _ _).trans (if_neg h7)⟩
theorem MR.w8 (h : AH) (v : Int32) : MR h (wI h 235 8 v) := ⟨(Fr.refl _ h).wI rfl, fun k _ h8 => (wI_at _ _ _ _ _).trans (if_neg h8)⟩
theorem m_wrong (kO : TokOK K) {k : Nat} (hk : k ≤ 5) (c : MF h K s) (h1 : ∀ h', MR h h' → MF h' K (bl K true k s) → Q none h') : Rc (d + 1) m_X13_wrong [.ref 235, .int (nI k)] h Q := by
  have b4 : tb K s.1 ≤ 1000 := (c.tg kO).2.1
  have k1 := kO.1
  have c2 := c.2.1
  have e8 : hI h 238 s.1 = nI (tb K s.1) := (c.1 s.1 c.2.1).2.1
  refine R_in rfl rfl ?_
  refine R_gs 4 rfl ?_
  refine W_b rfl (fun hc4 => ?_) (fun hc4 => ?_)
  ·
    rw [c.fz] at hc4
    refine R_gs 19 rfl ?_
    refine R_il rfl rfl (j := s.1) c.2.2.1 (by omega) e8 ?_
    refine R_gs 25 rfl ?_
    refine W_f rfl (by first | rfl | exact ⟨rfl, by first | decide | assumption | exact Or.inl rfl | exact Or.inr rfl | exact b2i_01 _⟩) ?_
    rw [bl_y hc4] at h1; rw [show nI k + 16 * nI (tb K s.1) = nI (k + 16 * tb K s.1) from by rw [show (16 : Int32) = nI 16 from rfl, nI_mul, nI_add]]; exact h1 _ (MR.w8 _ _) (c.st (MR.w8 _ _) c.2.1 c.2.2.1 rfl (by dsimp only; omega))
  ·
    rw [c.fz] at hc4
    refine W_f rfl (by first | rfl | exact ⟨rfl, by first | decide | assumption | exact Or.inl rfl | exact Or.inr rfl | exact b2i_01 _⟩) ?_
    rw [bl_n (Or.inr hc4)] at h1; exact h1 _ (MR.refl h) c
theorem m_isSign (kO : TokOK K) {t : Nat} (ht : t < 38) (h3 : srt t = 3) (c : MF h K s) (h1 : Q (some (.int (b2i (tz K t s)))) h) : Rc (d + 1) m_X13_isSign [.ref 235, .int (nI (TKv.getD t 0))] h Q := by
  have k1 := kO.1
  have c2 := c.2.1
  have tg := c.tg kO
  obtain ⟨y1, y2, y3, y4, y5⟩ := c.1 s.1 c.2.1
  have tl := (sg_lt t ht h3).1
  have sl : srt (tk K s.1) ≤ 4 := (by unfold srt; repeat (first | omega | split))
  unfold tz at h1
  refine R_in rfl rfl ?_
  refine R_gs 4 rfl ?_
  refine W_b rfl (fun hc4 => ?_) (fun hc4 => ?_)
  ·
    rw [c.fz] at hc4
    refine R_gs 15 rfl ?_
    refine R_il rfl rfl (j := s.1) c.2.2.1 (by omega) y1 ?_
    refine R_gs 17 rfl ?_
    refine W_b rfl (fun hc17 => ?_) (fun hc17 => ?_)
    ·
      rw [show (nI (srt (K.2 s.1).1) = 3 ↔ srt (K.2 s.1).1 = 3) from nI_eq (b := 3) (by have : srt (K.2 s.1).1 ≤ 4 := sl; omega) (by omega)] at hc17
      refine R_gs 28 rfl ?_
      refine R_ll rfl rfl (j := s.1) c.2.2.1 (by omega) (y5 hc17) ?_
      refine R_gs 32 rfl ?_
      rw [nI_l (by omega), show lN (TKv.getD t 0) = lN64 (TKv.getD t 0) from rfl]
      refine W_b rfl (fun hc32 => ?_) (fun hc32 => ?_)
      ·
        rw [lg_eq, l64_eq (by have := (sg_lt _ tg.1 hc17).1; omega) (by omega), sg_iff _ tg.1 t ht hc17 h3] at hc32
        refine R_gs 40 rfl ?_
        refine W_f rfl (by first | rfl | exact ⟨rfl, by first | decide | assumption | exact Or.inl rfl | exact Or.inr rfl | exact b2i_01 _⟩) ?_
        rw [decide_eq_true hc4, decide_eq_true (show tk K s.1 = t from hc32)] at h1; exact h1
      ·
        rw [lg_eq, l64_eq (by have := (sg_lt _ tg.1 hc17).1; omega) (by omega), sg_iff _ tg.1 t ht hc17 h3] at hc32
        refine R_gs 40 rfl ?_
        refine W_f rfl (by first | rfl | exact ⟨rfl, by first | decide | assumption | exact Or.inl rfl | exact Or.inr rfl | exact b2i_01 _⟩) ?_
        rw [decide_eq_false (show ¬ tk K s.1 = t from hc32), Bool.and_false] at h1; exact h1
    ·
      rw [show (nI (srt (K.2 s.1).1) = 3 ↔ srt (K.2 s.1).1 = 3) from nI_eq (b := 3) (by have : srt (K.2 s.1).1 ≤ 4 := sl; omega) (by omega)] at hc17
      refine R_gs 40 rfl ?_
      refine W_f rfl (by first | rfl | exact ⟨rfl, by first | decide | assumption | exact Or.inl rfl | exact Or.inr rfl | exact b2i_01 _⟩) ?_
      rw [decide_eq_false (show ¬ tk K s.1 = t from fun e => hc17 (by show srt (tk K s.1) = 3; rw [e]; exact h3)), Bool.and_false] at h1; exact h1
  ·
    rw [c.fz] at hc4
    refine R_gs 40 rfl ?_
    refine W_f rfl (by first | rfl | exact ⟨rfl, by first | decide | assumption | exact Or.inl rfl | exact Or.inr rfl | exact b2i_01 _⟩) ?_
    rw [decide_eq_false hc4] at h1; exact h1
theorem m_isWord (kO : TokOK K) {w : Nat} (hw : w < 26) (c : MF h K s) (h1 : Q (some (.int (b2i (tz K (tw w) s)))) h) : Rc (d + 1) m_X13_isWord [.ref 235, .int (nI w)] h Q := by
  have k1 := kO.1
  have c2 := c.2.1
  have tg := c.tg kO
  obtain ⟨y1, y2, y3, y4, y5⟩ := c.1 s.1 c.2.1
  have sl : srt (tk K s.1) ≤ 4 := (by unfold srt; repeat (first | omega | split))
  have s2 := spw_2 w hw
  unfold tz at h1
  refine R_in rfl rfl ?_
  refine R_gs 4 rfl ?_
  refine W_b rfl (fun hc4 => ?_) (fun hc4 => ?_)
  ·
    rw [c.fz] at hc4
    refine R_gs 15 rfl ?_
    refine R_il rfl rfl (j := s.1) c.2.2.1 (by omega) y1 ?_
    refine R_gs 17 rfl ?_
    refine W_b rfl (fun hc17 => ?_) (fun hc17 => ?_)
    ·
      rw [show (nI (srt (K.2 s.1).1) = 1 ↔ srt (K.2 s.1).1 = 1) from nI_eq (b := 1) (by have : srt (K.2 s.1).1 ≤ 4 := sl; omega) (by omega)] at hc17
      refine R_gs 28 rfl ?_
      have lo := (tg.2.2.2.1 hc17).1
      refine R_ll rfl rfl (j := s.1) c.2.2.1 (by omega) (y4 lo.1) ?_
      refine R_gs 34 rfl ?_
      refine R_ll rfl rfl (ix_nI _) (by omega) (c.2.2.2.2.2 w hw) ?_
      refine R_gs 36 rfl ?_
      refine W_b rfl (fun hc36 => ?_) (fun hc36 => ?_)
      ·
        rw [lg_eq, l64_eq lo.bM (by rw [← s2.1]; exact (spw_O hw).bM), wd_iff tg hc17 hw] at hc36
        refine R_gs 44 rfl ?_
        refine W_f rfl (by first | rfl | exact ⟨rfl, by first | decide | assumption | exact Or.inl rfl | exact Or.inr rfl | exact b2i_01 _⟩) ?_
        rw [decide_eq_true hc4, decide_eq_true (show tk K s.1 = tw w from hc36)] at h1; exact h1
      ·
        rw [lg_eq, l64_eq lo.bM (by rw [← s2.1]; exact (spw_O hw).bM), wd_iff tg hc17 hw] at hc36
        refine R_gs 44 rfl ?_
        refine W_f rfl (by first | rfl | exact ⟨rfl, by first | decide | assumption | exact Or.inl rfl | exact Or.inr rfl | exact b2i_01 _⟩) ?_
        rw [decide_eq_false (show ¬ tk K s.1 = tw w from hc36), Bool.and_false] at h1; exact h1
    ·
      rw [show (nI (srt (K.2 s.1).1) = 1 ↔ srt (K.2 s.1).1 = 1) from nI_eq (b := 1) (by have : srt (K.2 s.1).1 ≤ 4 := sl; omega) (by omega)] at hc17
      refine R_gs 44 rfl ?_
      refine W_f rfl (by first | rfl | exact ⟨rfl, by first | decide | assumption | exact Or.inl rfl | exact Or.inr rfl | exact b2i_01 _⟩) ?_
      rw [decide_eq_false (show ¬ tk K s.1 = tw w from fun e => hc17 (by show srt (tk K s.1) = 1; rw [e]; exact s2.2.2.2.1)), Bool.and_false] at h1; exact h1
  ·
    rw [c.fz] at hc4
    refine R_gs 44 rfl ?_
    refine W_f rfl (by first | rfl | exact ⟨rfl, by first | decide | assumption | exact Or.inl rfl | exact Or.inr rfl | exact b2i_01 _⟩) ?_
    rw [decide_eq_false hc4] at h1; exact h1
/-! taking a token -/
theorem tz_t {t : Nat} (hz : tz K t s = true) : s.2 = 0 ∧ tk K s.1 = t := by
  unfold tz at hz
  rw [Bool.and_eq_true, decide_eq_true_eq, decide_eq_true_eq] at hz; exact hz
theorem tz_f {t : Nat} (hz : tz K t s = false) : ¬ (s.2 = 0 ∧ tk K s.1 = t) := fun e => by
  unfold tz at hz
  rw [decide_eq_true e.1, decide_eq_true e.2] at hz; cases hz
theorem ex_y {t : Nat} (kO : TokOK K) (hs : s.1 < K.1) (ht : t ≠ 0) (hz : tz K t s = true) : ex K t s = (s.1 + 1, 0) ∧ s.1 + 1 < K.1 := by
  obtain ⟨z1, z2⟩ := tz_t hz
  have := sp_1 kO hs z1 (by rw [z2]; exact ht)
  refine ⟨?_, this.2⟩
  unfold ex
  rw [decide_eq_true z2, show (!true) = false from rfl, bl_n (Or.inl rfl)]; exact this.1
theorem ex_n {t : Nat} (hz : tz K t s = false) : ex K t s = bl K true 1 s := by
  unfold ex
  by_cases e : s.2 = 0
  · rw [decide_eq_false (fun e2 => tz_f hz ⟨e, e2⟩), show (!false) = true from rfl, sp_n]
    rw [bl_y e]; dsimp only; omega
  · rw [bl_n (Or.inr e), bl_n (Or.inr e), sp_n e]
def hs1 (K : TKs) (t : Nat) (s : RS) : RS := if tz K t s = true then (s.1 + 1, 0) else s
theorem m_takeSign (kO : TokOK K) {t : Nat} (ht : t < 38) (h3 : srt t = 3) (c : MF h K s) (h1 : ∀ h', MR h h' → MF h' K (ex K t s) → Q none h') : Rc (d + 2) m_X13_takeSign [.ref 235, .int (nI (TKv.getD t 0))] h Q := by
  refine R_in rfl rfl ?_
  refine R_gs 2 rfl ?_
  refine R_k rfl rfl (m_isSign kO ht h3 c ?_)
  refine W_b rfl (fun hc5 => ?_) (fun hc5 => ?_)
  ·
    rw [b2i0] at hc5
    refine R_gs 23 rfl ?_
    refine R_k rfl rfl (m_wrong kO (k := 1) (by decide) c (fun h2 m2 c2 => ?_))
    refine W_f rfl (by first | rfl | exact ⟨rfl, by first | decide | assumption | exact Or.inl rfl | exact Or.inr rfl | exact b2i_01 _⟩) ?_
    rw [ex_n hc5] at h1; exact h1 _ m2 c2
  ·
    rw [b2i0] at hc5
    rw [Bool.not_eq_false] at hc5
    obtain ⟨e1, e2⟩ := ex_y kO c.2.1 (sg_lt t ht h3).2 hc5
    obtain ⟨z1, z2⟩ := tz_t hc5
    refine R_gs 26 rfl ?_
    refine W_f rfl (by first | rfl | exact ⟨rfl, by first | decide | assumption | exact Or.inl rfl | exact Or.inr rfl | exact b2i_01 _⟩) ?_
    rw [e1] at h1; exact h1 _ (MR.w7 _ _) (c.st (MR.w7 _ _) e2 (by show hI h 235 7 + 1 = _; rw [c.2.2.1, nI_1]) (by show hI h 235 8 = _; rw [c.2.2.2.1, z1]) (Nat.zero_le _))
theorem m_hasSign (kO : TokOK K) {t : Nat} (ht : t < 38) (h3 : srt t = 3) (c : MF h K s) (h1 : ∀ h', MR h h' → MF h' K (hs1 K t s) → Q (some (.int (b2i (tz K t s)))) h') : Rc (d + 2) m_X13_hasSign [.ref 235, .int (nI (TKv.getD t 0))] h Q := by
  unfold hs1 at h1
  refine R_in rfl rfl ?_
  refine R_gs 2 rfl ?_
  refine R_k rfl rfl (m_isSign kO ht h3 c ?_)
  refine R_gs 12 rfl ?_
  refine W_b rfl (fun hc12 => ?_) (fun hc12 => ?_)
  ·
    rw [b2i0] at hc12
    refine R_gs 25 rfl ?_
    refine W_f rfl (by first | rfl | exact ⟨rfl, by first | decide | assumption | exact Or.inl rfl | exact Or.inr rfl | exact b2i_01 _⟩) ?_
    rw [hc12] at h1 ⊢; exact h1 _ (MR.w7 _ _) (c.st (MR.w7 _ _) c.2.1 (by show hI h 235 7 + 0 = _; rw [c.2.2.1, Int32.add_zero]; rfl) c.2.2.2.1 c.2.2.2.2.1)
  ·
    rw [b2i0] at hc12
    rw [Bool.not_eq_false] at hc12
    obtain ⟨e1, e2⟩ := ex_y kO c.2.1 (sg_lt t ht h3).2 hc12
    obtain ⟨z1, z2⟩ := tz_t hc12
    refine R_gs 25 rfl ?_
    refine W_f rfl (by first | rfl | exact ⟨rfl, by first | decide | assumption | exact Or.inl rfl | exact Or.inr rfl | exact b2i_01 _⟩) ?_
    rw [hc12] at h1 ⊢; exact h1 _ (MR.w7 _ _) (c.st (MR.w7 _ _) e2 (by show hI h 235 7 + 1 = _; rw [c.2.2.1, nI_1]; rfl) (by show hI h 235 8 = _; rw [c.2.2.2.1, z1]; rfl) (Nat.zero_le _))
theorem m_hasWord (kO : TokOK K) {w : Nat} (hw : w < 26) (c : MF h K s) (h1 : ∀ h', MR h h' → MF h' K (hs1 K (tw w) s) → Q (some (.int (b2i (tz K (tw w) s)))) h') : Rc (d + 2) m_X13_hasWord [.ref 235, .int (nI w)] h Q := by
  unfold hs1 at h1
  refine R_in rfl rfl ?_
  refine R_gs 2 rfl ?_
  refine R_k rfl rfl (m_isWord kO hw c ?_)
  refine R_gs 12 rfl ?_
  refine W_b rfl (fun hc12 => ?_) (fun hc12 => ?_)
  ·
    rw [b2i0] at hc12
    refine R_gs 25 rfl ?_
    refine W_f rfl (by first | rfl | exact ⟨rfl, by first | decide | assumption | exact Or.inl rfl | exact Or.inr rfl | exact b2i_01 _⟩) ?_
    rw [hc12] at h1 ⊢; exact h1 _ (MR.w7 _ _) (c.st (MR.w7 _ _) c.2.1 (by show hI h 235 7 + 0 = _; rw [c.2.2.1, Int32.add_zero]; rfl) c.2.2.2.1 c.2.2.2.2.1)
  ·
    rw [b2i0] at hc12
    rw [Bool.not_eq_false] at hc12
    obtain ⟨e1, e2⟩ := ex_y kO c.2.1 (spw_2 w hw).2.2.2.2.2.2 hc12
    obtain ⟨z1, z2⟩ := tz_t hc12
    refine R_gs 25 rfl ?_
    refine W_f rfl (by first | rfl | exact ⟨rfl, by first | decide | assumption | exact Or.inl rfl | exact Or.inr rfl | exact b2i_01 _⟩) ?_
    rw [hc12] at h1 ⊢; exact h1 _ (MR.w7 _ _) (c.st (MR.w7 _ _) e2 (by show hI h 235 7 + 1 = _; rw [c.2.2.1, nI_1]; rfl) (by show hI h 235 8 = _; rw [c.2.2.2.1, z1]; rfl) (Nat.zero_le _))
theorem hs_ex {t : Nat} (kO : TokOK K) (hs : s.1 < K.1) (ht : t ≠ 0) (hz : tz K t s = true) : hs1 K t s = ex K t s := by
  unfold hs1; rw [if_pos hz, (ex_y kO hs ht hz).1]
theorem m_takeWord (kO : TokOK K) {w : Nat} (hw : w < 26) (c : MF h K s) (h1 : ∀ h', MR h h' → MF h' K (ex K (tw w) s) → Q none h') : Rc (d + 3) m_X13_takeWord [.ref 235, .int (nI w)] h Q := by
  refine R_in rfl rfl ?_
  refine R_gs 2 rfl ?_
  refine R_k rfl rfl (m_hasWord kO hw c (fun h2 m2 c2 => ?_))
  refine W_b rfl (fun hc5 => ?_) (fun hc5 => ?_)
  ·
    rw [b2i0] at hc5
    unfold hs1 at c2
    rw [if_neg (by rw [hc5]; decide)] at c2
    refine R_gs 10 rfl ?_
    refine R_k rfl rfl (m_wrong kO (k := 1) (by decide) c2 (fun h3 m3 c3 => ?_))
    refine W_f rfl (by first | rfl | exact ⟨rfl, by first | decide | assumption | exact Or.inl rfl | exact Or.inr rfl | exact b2i_01 _⟩) ?_
    rw [ex_n hc5] at h1; exact h1 _ (m2.trans m3) c3
  ·
    rw [b2i0] at hc5
    rw [Bool.not_eq_false] at hc5
    rw [hs_ex kO c.2.1 (spw_2 w hw).2.2.2.2.2.2 hc5] at c2
    refine W_f rfl (by first | rfl | exact ⟨rfl, by first | decide | assumption | exact Or.inl rfl | exact Or.inr rfl | exact b2i_01 _⟩) ?_
    exact h1 _ m2 c2
end
