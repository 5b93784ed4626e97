section
variable {d : Nat} {h h' : AH} {L : SL} {S : SS} {H : SH'} {B : SB'} {M : SM'} {D : SD'} {T : ST'} {N : SN'} {Q : Option Value → AH → Prop}
theorem m_draw {n k : Nat} (hg : hJ h 235 37 = lN n) (hn : n < 2 ^ 31) (hk : k < 2 ^ 31) (hk0 : 0 < k) (h1 : Q (some (.int (nI (drN (nxN n) k)))) (wJ h 235 37 (lN (nxN n)))) : Rc (d + 1) m_X13_draw [.ref 235, .int (nI k)] h Q := by
  refine R_in rfl rfl ?_
  refine R_gs 16 rfl ?_
  try rw [hg]
  refine W_c rfl (by decide) ?_
  rw [nx_J hn]
  refine R_gs 27 rfl ?_
  try rw [hg]
  refine W_c rfl (by decide) ?_
  refine R_gs 30 rfl ?_
  rw [nI_l hk]
  refine W_c rfl (fun e => absurd ((pk_lEQ (b := 0) (by omega) (by omega)).mp e) (by omega)) ?_
  refine R_gs 32 rfl ?_
  refine W_f rfl (by first | rfl | exact ⟨rfl, by first | decide | assumption | exact Or.inl rfl | exact Or.inr rfl | exact b2i_01 _⟩) ?_
  rw [show hJ (wJ h 235 37 (lN (nxN n))) 235 37 = lN (nxN n) from rfl, dr_J (nx_lt n) hk hk0]; exact h1
theorem m_drawsSaying (hL : LandM h L) (hO : LandOK L) {p n : Nat} (hp : p < lP L) (ht : 0 < oT L p) (hg : hJ h 235 37 = lN n) (hn : n < 2 ^ 31) (h1 : Q (some (.int (saY L p (drN (nxN n) (oT L p))))) (wJ h 235 37 (lN (nxN n)))) : Rc (d + 3) m_X13_drawsSaying [.ref 235, .int (nI p)] h Q := by
  obtain ⟨o1, o2, o3, o4, -⟩ := id hO
  have t2 := oT_le hO hp
  have hL' : LandM (wJ h 235 37 (lN (nxN n))) L := hL.fr ((Fr.refl (fun q => Nat.beq q 235) h).wJ rfl) rfl rfl rfl
  have td : drN (nxN n) (oT L p) < oT L p := Nat.mod_lt _ ht
  unfold saY at h1
  have hb : ∀ w, w ≤ lS L → sumN w (lO L p) ≤ 45 := fun w hw => Nat.le_trans (sumN_le (b := 9) w (fun j hj => (o4 p hp).2.2.2.1 j (by omega))) (by omega)
  refine R_in rfl rfl ?_
  refine R_gs 3 rfl ?_
  refine R_k rfl rfl (m_allOf hL hO hp ?_)
  refine R_k rfl rfl (m_draw hg hn (by omega) ht ?_)
  refine R_gs 12 rfl ?_
  obtain ⟨t, et⟩ : ∃ t, t = drN (nxN n) (oT L p) := ⟨_, rfl⟩
  rw [← et] at td h1 ⊢
  clear et
  refine w_inv (W := fun j (u : Nat) => Rw (d + 2) Q (m_X13_drawsSaying, 12, [some (.ref 235), some (.int (nI p)), some (.int (nI u)), some (.int (nI j))], [], 262, wJ h 235 37 (lN (nxN n)))) (lS L) (fun j u => u + sumN j (lO L p) = t ∧ Q (some (.int (fG (fun w => decide (t < sumN (w + 1) (lO L p))) j (lS L - j)))) (wJ h 235 37 (lN (nxN n)))) (s0 := t) ⟨rfl, h1⟩ (fun j u hj hi w => ?_) (fun u hi => ?_)
  ·
    obtain ⟨i1, i2⟩ := hi
    have b1 := (o4 p hp).2.2.2.1 j hj
    have es : sumN (j + 1) (lO L p) = sumN j (lO L p) + lO L p j := rfl
    rw [show lS L - j = lS L - (j + 1) + 1 by omega] at i2
    refine R_gs 14 rfl ?_
    refine R_k rfl rfl (m_sayings hL' ?_)
    refine W_bf rfl (ltc hj (by omega)) ?_
    refine R_gs 24 rfl ?_
    refine R_k rfl rfl (m_saysOf hL' hO hp hj ?_)
    refine W_b rfl (fun hc27 => ?_) (fun hc27 => ?_)
    ·
      refine R_gs 36 rfl ?_
      refine R_k rfl rfl (m_saysOf hL' hO hp hj ?_)
      refine R_gs 12 rfl ?_
      rw [nI_1]; have e := (nI_leI (b := u) (by omega) (by omega)).mp hc27; rw [nI_sub e]; rw [fG_f (decide_eq_false (by omega))] at i2; exact w _ ⟨by omega, i2⟩
    ·
      refine R_gs 31 rfl ?_
      refine W_f rfl (by first | rfl | exact ⟨rfl, by first | decide | assumption | exact Or.inl rfl | exact Or.inr rfl | exact b2i_01 _⟩) ?_
      rw [fG_t (decide_eq_true (by have e := mt (nI_leI (a := lO L p j) (b := u) (by omega) (by omega)).mpr hc27; omega))] at i2; exact i2
  ·
    refine R_gs 14 rfl ?_
    refine R_k rfl rfl (m_sayings hL' ?_)
    refine W_bt rfl (gec (by omega)) ?_
    refine R_gs 48 rfl ?_
    refine W_f rfl (by first | rfl | exact ⟨rfl, by first | decide | assumption | exact Or.inl rfl | exact Or.inr rfl | exact b2i_01 _⟩) ?_
    have := hi.2; rw [Nat.sub_self] at this; exact this
def xg (q : Nat) : Bool := yst q || Nat.beq q 235
theorem xg_y {q : Nat} (h : yst q = true) : xg q = true := by unfold xg; rw [h]; rfl
theorem xg_x {q : Nat} (h : xg q = true) : xM q = true := by
  unfold xg at h
  rw [Bool.or_eq_true] at h
  rcases h with h | h
  · exact yst_x h
  · have := Nat.eq_of_beq_eq_true h; subst this; rfl
theorem setY_same {S : SS} {p : Nat} : setY S p (sY S p) = S := by
  unfold setY
  refine Prod.ext rfl (Prod.ext rfl (Prod.ext rfl (Prod.ext rfl (Prod.ext rfl (Prod.ext ?_ rfl)))))
  funext i
  show (if i = p then sY S p else sY S i) = sY S i
  split
  · rename_i e; rw [e]
  · rfl
theorem ds_no {p : Nat} {s : SS × Nat} (e : oT L p = 0) : lp (dsF L) (p + 1) s = lp (dsF L) p s := by
  show dsF L p (lp (dsF L) p s) = _
  unfold dsF; rw [if_neg (by omega)]
theorem ds_ye {p : Nat} {s : SS × Nat} (e : ¬ oT L p = 0) : lp (dsF L) (p + 1) s = (setY (lp (dsF L) p s).1 p (saY L p (drN (nxN (lp (dsF L) p s).2) (oT L p))), nxN (lp (dsF L) p s).2) := by
  show dsF L p (lp (dsF L) p s) = _
  generalize lp (dsF L) p s = t
  unfold dsF; rw [if_pos (by omega)]
theorem hJ_I (h : AH) (a k b j : Nat) (v : Int32) : hJ (wI h a k v) b j = hJ h b j := rfl
theorem hJ_J (h : AH) (a k : Nat) (v : Int64) : hJ (wJ h a k v) a k = v := by unfold Pilot.CSnapWedLaw_law_r6034_35ee8a.hJ Pilot.CSnapWedLaw_law_r6034_35ee8a.wJ up2; simp
/-- only the draws' number is written in the model itself -/
def gOnly (h h' : AH) : Prop := ∀ k, hI h' 235 k = hI h 235 k
theorem m_drawsMoment (hL : LandM h L) (hO : LandOK L) (hS : SceneM h 880 L S) (hV : SceneOK L S) {n : Nat} (hg : hJ h 235 37 = lN n) (hn : n < 2 ^ 31) (h1 : ∀ h', Fr xg h h' → gOnly h h' → Only 880 34 h h' → SceneM h' 880 L (momS L (geS L (S, n)).1) → hJ h' 235 37 = lN (geS L (S, n)).2 → Q (some (.int (momF L (geS L (S, n)).1))) h') : Rc (d + 7) m_X13_drawsMoment [.ref 235] h Q := by
  obtain ⟨o1, o2, o3, o4, -⟩ := id hO
  refine R_in rfl rfl ?_
  refine R_gs 2 rfl ?_
  refine w_inv (W := fun p (s : AH) => Rw (d + 6) Q (m_X13_drawsMoment, 2, [some (.ref 235), some (.int (nI p))], [], 262, s)) (lP L) (fun p s => Fr xg h s ∧ gOnly h s ∧ Only 880 34 h s ∧ SceneM s 880 L (lp (dsF L) p (S, n)).1 ∧ hJ s 235 37 = lN (lp (dsF L) p (S, n)).2) (s0 := h) ⟨Fr.refl _ h, fun _ => rfl, Only.refl _ _ h, hS, hg⟩ (fun p s hp hi w => ?_) (fun s hi => ?_)
  ·
    obtain ⟨i1, i2, i3, i4, i5⟩ := hi
    have iL := hL.fr i1 rfl rfl rfl
    have t2 := oT_le hO hp
    have v := ds_ok (s := (S, n)) hO hV hn p
    refine R_gs 4 rfl ?_
    refine R_k rfl rfl (m_people iL ?_)
    refine W_bf rfl (ltc hp (by omega)) ?_
    refine R_gs 21 rfl ?_
    refine R_k rfl rfl (m_allOf iL hO hp ?_)
    refine W_b rfl (fun hc24 => ?_) (fun hc24 => ?_)
    ·
      rw [le0 (by omega)] at hc24
      refine R_gs 44 rfl ?_
      refine R_il rfl rfl (ix_add (ix_lit _) rfl) (by omega) ((congrArg (hI s 251) (by omega : 890 + p = 880 + 10 + p)).trans (i4.Y hp)) ?_
      refine R_is rfl rfl (ix_add (ix_lit _) rfl) (by omega) ?_
      refine R_gs 2 rfl ?_
      rw [nI_1]; refine w _ ⟨i1.wI rfl, i2, i3.w (by omega) _, ?_, ?_⟩
      · rw [ds_no hc24]; have := i4.yb hO hp (j := 890 + p) (v := sY (lp (dsF L) p (S, n)).1 p) (by omega); rw [setY_same] at this; exact this
      · rw [ds_no hc24, hJ_I]; exact i5
    ·
      rw [le0 (by omega)] at hc24
      refine R_gs 29 rfl ?_
      refine R_k rfl rfl (m_drawsSaying iL hO hp (by omega) i5 v.2 ?_)
      refine R_gs 45 rfl ?_
      refine R_is rfl rfl (ix_add (ix_lit _) rfl) (by omega) ?_
      refine R_gs 2 rfl ?_
      rw [nI_1]; refine w _ ⟨(i1.wJ rfl).wI rfl, i2, (i3.fr ((Fr.refl (fun q => Nat.beq q 235) s).wJ rfl) rfl).w (by omega) _, ?_, ?_⟩
      · rw [ds_ye hc24]; exact (i4.fr ((Fr.refl (fun q => Nat.beq q 235) s).wJ rfl) rfl).yb hO hp (j := 890 + p) (by omega)
      · rw [ds_ye hc24, hJ_I, hJ_J]
  ·
    obtain ⟨i1, i2, i3, i4, i5⟩ := hi
    have iL := hL.fr i1 rfl rfl rfl
    have v := ds_ok (s := (S, n)) hO hV hn (lP L)
    refine R_gs 4 rfl ?_
    refine R_k rfl rfl (m_people iL ?_)
    refine W_bt rfl (gec (by omega)) ?_
    refine R_gs 53 rfl ?_
    refine R_k rfl rfl (m_people iL ?_)
    refine W_b rfl (fun hc56 => ?_) (fun hc56 => ?_)
    ·
      rw [le0 (by omega)] at hc56
      refine R_gs 97 rfl ?_
      refine R_k rfl rfl (m_passes (b := 880) iL hO i4 v.1 (by omega) (fun h3 f3 o3 s3 => ?_))
      refine W_f rfl (by first | rfl | exact ⟨rfl, by first | decide | assumption | exact Or.inl rfl | exact Or.inr rfl | exact b2i_01 _⟩) ?_
      have eg : geS L (S, n) = lp (dsF L) (lP L) (S, n) := (if_pos (Or.inl hc56))
      rw [eg] at h1; exact h1 _ (i1.trans (f3.mono (fun q => xg_y))) (fun k => (congrFun (f3.I rfl) k).trans (i2 k)) (i3.trans o3) s3 ((congrFun (f3.J rfl) 37).trans i5)
    ·
      rw [le0 (by omega)] at hc56
      refine R_gs 60 rfl ?_
      refine R_k rfl rfl (m_places iL ?_)
      refine W_b rfl (fun hc63 => ?_) (fun hc63 => ?_)
      ·
        rw [le0 (by omega)] at hc63
        refine R_gs 97 rfl ?_
        refine R_k rfl rfl (m_passes (b := 880) iL hO i4 v.1 (by omega) (fun h3 f3 o3 s3 => ?_))
        refine W_f rfl (by first | rfl | exact ⟨rfl, by first | decide | assumption | exact Or.inl rfl | exact Or.inr rfl | exact b2i_01 _⟩) ?_
        have eg : geS L (S, n) = lp (dsF L) (lP L) (S, n) := (if_pos (Or.inr hc63))
        rw [eg] at h1; exact h1 _ (i1.trans (f3.mono (fun q => xg_y))) (fun k => (congrFun (f3.I rfl) k).trans (i2 k)) (i3.trans o3) s3 ((congrFun (f3.J rfl) 37).trans i5)
      ·
        rw [le0 (by omega)] at hc63
        refine R_gs 68 rfl ?_
        refine R_k rfl rfl (m_people iL ?_)
        refine R_k rfl rfl (m_draw i5 v.2 (by omega) (by omega) ?_)
        refine R_gs 86 rfl ?_
        refine R_k rfl rfl (m_places (iL.fr ((Fr.refl (fun q => Nat.beq q 235) s).wJ rfl) rfl rfl rfl) ?_)
        refine R_k rfl rfl (m_draw (h := wJ s 235 37 _) rfl (nx_lt _) (by omega) (by omega) ?_)
        refine R_is rfl rfl (ix_add (ix_lit _) rfl) (by have := Nat.mod_lt (nxN (lp (dsF L) (lP L) (S, n)).2 / 65536) (by omega : 0 < lP L); show 884 + drN (nxN (lp (dsF L) (lP L) (S, n)).2) (lP L) < 920; unfold drN; omega) ?_
        have eg : geS L (S, n) = (setA (lp (dsF L) (lP L) (S, n)).1 (drN (nxN (lp (dsF L) (lP L) (S, n)).2) (lP L)) (drN (nxN (nxN (lp (dsF L) (lP L) (S, n)).2)) (lQ L)), nxN (nxN (lp (dsF L) (lP L) (S, n)).2)) := if_neg (by omega)
        have dl : drN (nxN (lp (dsF L) (lP L) (S, n)).2) (lP L) < lP L := Nat.mod_lt _ (by omega)
        obtain ⟨gA, egA⟩ : ∃ z, z = drN (nxN (lp (dsF L) (lP L) (S, n)).2) (lP L) := ⟨_, rfl⟩
        obtain ⟨gB, egB⟩ : ∃ z, z = drN (nxN (nxN (lp (dsF L) (lP L) (S, n)).2)) (lQ L) := ⟨_, rfl⟩
        obtain ⟨gD, egD⟩ : ∃ z, z = nxN (nxN (lp (dsF L) (lP L) (S, n)).2) := ⟨_, rfl⟩
        obtain ⟨gC, egC⟩ : ∃ z, z = nxN (lp (dsF L) (lP L) (S, n)).2 := ⟨_, rfl⟩
        rw [← egA, ← egB, ← egD] at eg
        rw [← egA] at dl
        rw [← egA, ← egB, ← egD, ← egC]
        have gw : Fr (fun q => Nat.beq q 235) s (wJ (wJ s 235 37 (lN gC)) 235 37 (lN gD)) := ((Fr.refl _ s).wJ rfl).wJ rfl
        have j4 : SceneM (wI (wJ (wJ s 235 37 (lN gC)) 235 37 (lN gD)) 251 (884 + gA) (nI gB)) 880 L (geS L (S, n)).1 := (by rw [eg]; exact (i4.fr gw rfl).ab hO dl (j := 884 + gA) (by omega))
        have j1 : Fr xg h (wI (wJ (wJ s 235 37 (lN gC)) 235 37 (lN gD)) 251 (884 + gA) (nI gB)) := ((i1.wJ rfl).wJ rfl).wI rfl
        have j2 : gOnly h (wI (wJ (wJ s 235 37 (lN gC)) 235 37 (lN gD)) 251 (884 + gA) (nI gB)) := i2
        have j3 : Only 880 34 h (wI (wJ (wJ s 235 37 (lN gC)) 235 37 (lN gD)) 251 (884 + gA) (nI gB)) := (i3.fr gw rfl).w (by omega) _
        have j5 : hJ (wI (wJ (wJ s 235 37 (lN gC)) 235 37 (lN gD)) 251 (884 + gA) (nI gB)) 235 37 = lN (geS L (S, n)).2 := (by rw [eg, hJ_I, hJ_J])
        have jL := hL.fr j1 rfl rfl rfl
        refine R_gs 97 rfl ?_
        refine R_k rfl rfl (m_passes (b := 880) (S := (geS L (S, n)).1) jL hO j4 (ge_ok (s := (S, n)) hO hV hn).1 (by omega) (fun h3 f3 o3 s3 => ?_))
        refine W_f rfl (by first | rfl | exact ⟨rfl, by first | decide | assumption | exact Or.inl rfl | exact Or.inr rfl | exact b2i_01 _⟩) ?_
        exact h1 _ (j1.trans (f3.mono (fun q => xg_y))) (fun k => (congrFun (f3.I rfl) k).trans (j2 k)) (j3.trans o3) s3 ((congrFun (f3.J rfl) 37).trans j5)
theorem gw1 (hO : LandOK L) {n : Nat} (hV : SceneOK L S) (hn : n < 2 ^ 31) (m : Nat) : (geA L S n m).2.1 ≤ 15 := by
  rw [(geA_new hO hV hn m).2]; exact cntN_le _ _
theorem ge_q {n m : Nat} : (geA L S n (m + 1)).2.1 = (geA L S n m).2.1 + pop (momF L (geS L (geA L S n m).1).1) := rfl
theorem momF_b15 (hO : LandOK L) (hV : SceneOK L S) : B15 (momF L S) := by
  have h1 := (mom_ok hO hV).1.b15 hO.2.2.1
  intro i hi hi2
  have := (mom_new (L := L) (S := S) hO hi2).1
  rw [h1 i hi hi2] at this
  cases hb : bt (momF L S) i
  · rfl
  · rw [hb, Bool.or_true] at this; cases this
theorem y_generations (W : WOK L S H B M D T N) (c : RM h L S H B M D T N) {z m w : Int32} (h1 : ∀ h', Fr xM h h' → RM h' L S H B M D T N → Q (some (.int (genA L S z m w))) h') : Rc (d + 8) m_X13_generations [.ref 235, .int z, .int m, .int w] h Q := by
  have hO := W.1
  have hV := W.2.1
  have c0 := c.thr
  have F0 : Fr xM h (wI h 235 0 0) := (Fr.refl _ h).wI rfl
  have no : genA L S z m w = -1 → Q (some (.int (-1))) (wI h 235 0 0) := fun e => by rw [e] at h1; exact h1 _ F0 c0
  refine R_in rfl rfl ?_
  refine R_gs 10 rfl ?_
  refine R_k rfl rfl (m_isIn (fun hx10 => ?_) (fun hx10 => ?_))
  ·
    refine W_bf rfl (by decide) ?_
    refine R_gs 20 rfl ?_
    refine R_k rfl rfl (m_isIn (fun hx20 => ?_) (fun hx20 => ?_))
    ·
      refine W_bf rfl (by decide) ?_
      refine R_gs 29 rfl ?_
      refine R_k rfl rfl (m_isIn (fun hx29 => ?_) (fun hx29 => ?_))
      ·
        refine W_bf rfl (by decide) ?_
        refine R_gs 44 rfl ?_
        refine R_k rfl rfl (m_copies (f := 0) (t := 880) (n := 34) (by omega) (by omega) (by omega) (fun h2 f2 o2 e2 => ?_))
        refine R_gs 62 rfl ?_
        unfold genA at h1
        rw [hx10, hx20, hx29, Bool.and_self, Bool.and_self, if_pos rfl] at h1
        simp only [Bool.and_eq_true, decide_eq_true_eq] at hx10 hx20 hx29
        obtain ⟨n, hn9, hn, rfl, en⟩ := gen_in (b := 9999) hx10.1 hx10.2 (by decide) (by decide)
        obtain ⟨k, hk60, hk, rfl, ek⟩ := gen_in (b := 60) hx20.1 hx20.2 (by decide) (by decide)
        rw [en, ek] at h1
        rw [nI_l (by omega)]
        have s2 : SceneM h2 880 L S := c0.2.1.cp hO (fun j hj => e2 j hj)
        have f3 : Fr xg (wI h 235 0 0) (wJ h2 235 37 (lN n)) := (f2.mono (fun q hq => by have := Nat.eq_of_beq_eq_true hq; subst this; rfl)).wJ rfl
        have gw : Fr (fun q => Nat.beq q 235) h2 (wJ h2 235 37 (lN n)) := (Fr.refl _ h2).wJ rfl
        refine w_inv (W := fun i (s : AH × Nat × Nat) => ∀ x7 : Option Value, Rw (d + 7) Q (m_X13_generations, 62, [some (.ref 235), some (.int (nI n)), some (.int (nI k)), some (.int w), some (.int (nI s.2.1)), some (.int (nI s.2.2)), some (.int (nI i)), x7], [], 262, s.1)) k (fun i s => Fr xg (wI h 235 0 0) s.1 ∧ gOnly (wI h 235 0 0) s.1 ∧ Only 880 34 (wI h 235 0 0) s.1 ∧ SceneM s.1 880 L (geA L S n i).1.1 ∧ hJ s.1 235 37 = lN (geA L S n i).1.2 ∧ s.2.1 = (geA L S n i).2.1 ∧ s.2.2 = (geA L S n i).2.2) (s0 := (wJ h2 235 37 (lN n), 0, 0)) ⟨f3, fun j => congrFun (f2.I rfl) j, o2.fr gw rfl, s2.fr gw rfl, hJ_J _ _ _ _, rfl, rfl⟩ (fun i s hi hs ww => ?_) (fun s hs => ?_) none
        ·
          intro x7
          obtain ⟨gg, u0, u1⟩ := s
          obtain ⟨i1, i2, i3, i4, i5, i6, i7⟩ := hs
          dsimp only at i1 i2 i3 i4 i5 i6 i7 ⊢
          subst i6; subst i7
          obtain ⟨v1, v2⟩ := geA_ok hO hV hn i
          have iL := c0.1.fr i1 rfl rfl rfl
          refine R_gs 65 rfl ?_
          refine W_bf rfl (ltc hi (by omega)) ?_
          refine R_gs 69 rfl ?_
          refine R_k rfl rfl (m_drawsMoment iL hO i4 v1 i5 v2 (fun h3 f4 o4 o5 s5 e5 => ?_))
          refine R_gs 78 rfl ?_
          refine R_k rfl rfl (m_bits (momF_b15 hO (ge_ok hO v1 v2).1) ?_)
          refine R_gs 88 rfl ?_
          rw [nI_add]
          refine W_b rfl (fun hc88 => ?_) (fun hc88 => ?_)
          ·
            refine R_gs 62 rfl ?_
            rw [nI_1, show nI (geA L S n i).2.2 + 0 = nI (geA L S n i).2.2 from nI_add _ 0]; refine ww (h3, _, _) ⟨i1.trans f4, fun j => (o4 j).trans (i2 j), i3.trans o5, s5, e5, ge_q.symm, ge_p hc88⟩ _
          ·
            refine R_gs 62 rfl ?_
            rw [nI_1, nI_1]; refine ww (h3, _, _) ⟨i1.trans f4, fun j => (o4 j).trans (i2 j), i3.trans o5, s5, e5, ge_q.symm, ge_n hc88⟩ _
        ·
          intro x7
          obtain ⟨gg, u0, u1⟩ := s
          obtain ⟨i1, i2, i3, i4, i5, i6, i7⟩ := hs
          dsimp only at i1 i2 i3 i4 i5 i6 i7 ⊢
          subst i6; subst i7
          obtain ⟨v1, v2⟩ := geA_ok hO hV hn k
          have iL := c0.1.fr i1 rfl rfl rfl
          have r1 := c0.tri W i1 ⟨rfl, rfl, rfl, rfl, rfl, rfl, rfl, rfl⟩ (i2 2) (i2 18) (i2 25) (fun j hj => i3 j (by omega))
          have F1 := F0.trans (i1.mono (fun q => xg_x))
          refine R_gs 65 rfl ?_
          refine W_bt rfl (gec (by omega)) ?_
          refine R_gs 106 rfl ?_
          refine W_b rfl (fun hc106 => ?_) (fun hc106 => ?_)
          ·
            refine R_gs 134 rfl ?_
            refine W_f rfl (by first | rfl | exact ⟨rfl, by first | decide | assumption | exact Or.inl rfl | exact Or.inr rfl | exact b2i_01 _⟩) ?_
            rw [if_pos hc106] at h1; exact h1 _ F1 r1
          ·
            refine R_gs 116 rfl ?_
            refine W_b rfl (fun hc116 => ?_) (fun hc116 => ?_)
            ·
              refine R_gs 123 rfl ?_
              refine R_k rfl rfl (m_bigamistsOf (b := 880) iL hO i4 v1.1 (by omega) ?_)
              refine R_k rfl rfl (m_bits (setN_b15 (by omega)) ?_)
              refine R_gs 134 rfl ?_
              refine W_f rfl (by first | rfl | exact ⟨rfl, by first | decide | assumption | exact Or.inl rfl | exact Or.inr rfl | exact b2i_01 _⟩) ?_
              rw [if_neg hc106, if_pos hc116] at h1; exact h1 _ F1 r1
            ·
              refine R_gs 134 rfl ?_
              refine W_f rfl (by first | rfl | exact ⟨rfl, by first | decide | assumption | exact Or.inl rfl | exact Or.inr rfl | exact b2i_01 _⟩) ?_
              rw [if_neg hc106, if_neg hc116] at h1; exact h1 _ F1 r1
      ·
        refine W_bt rfl (by decide) ?_
        refine R_gs 36 rfl ?_
        refine W_f rfl (by first | rfl | exact ⟨rfl, by first | decide | assumption | exact Or.inl rfl | exact Or.inr rfl | exact b2i_01 _⟩) ?_
        exact no (by unfold genA; rw [hx29, Bool.and_false]; rfl)
    ·
      refine W_bt rfl (by decide) ?_
      refine R_gs 36 rfl ?_
      refine W_f rfl (by first | rfl | exact ⟨rfl, by first | decide | assumption | exact Or.inl rfl | exact Or.inr rfl | exact b2i_01 _⟩) ?_
      exact no (by unfold genA; rw [hx20, Bool.and_false, Bool.false_and]; rfl)
  ·
    refine W_bt rfl (by decide) ?_
    refine R_gs 36 rfl ?_
    refine W_f rfl (by first | rfl | exact ⟨rfl, by first | decide | assumption | exact Or.inl rfl | exact Or.inr rfl | exact b2i_01 _⟩) ?_
    exact no (by unfold genA; rw [hx10, Bool.false_and, Bool.false_and]; rfl)
end
