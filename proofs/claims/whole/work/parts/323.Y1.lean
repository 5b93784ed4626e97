section
variable {d : Nat} {h h' : AH} {L : SL} {S S' : SS} {H : SH'} {B B' : SB'} {M : SM'} {D : SD'} {T : ST'} {N : SN'} {Q : Option Value → AH → Prop}
theorem HrdM.only {b b' n : Nat} (c : HrdM h b H) (hH : H.1 ≤ 5) (o : Only b' n h h') (hd : b + 40 ≤ b' ∨ b' + n ≤ b + 34) : HrdM h' b H := ⟨(o _ (by omega)).trans c.1, fun i hi => (o _ (by omega)).trans (c.2 i hi)⟩
/-- nothing changed but what is written on, and the model's own numbers that don't matter -/
theorem RM.scr {X : Nat → Bool} (c : RM h L S H B M D T N) (f : Fr X h h') (hX : X 236 = false ∧ X 241 = false ∧ X 242 = false ∧ X 243 = false ∧ X 244 = false ∧ X 246 = false ∧ X 248 = false ∧ X 251 = false ∧ X 252 = false) (e2 : hI h' 235 2 = hI h 235 2) (e18 : hI h' 235 18 = hI h 235 18) (e25 : hI h' 235 25 = hI h 235 25) : RM h' L S H B M D T N := by
  obtain ⟨x1, x2, x3, x4, x5, x6, x7, x8, x9⟩ := hX
  obtain ⟨c1, c2, c3, c4, c5, c6, c7, c8⟩ := c
  exact ⟨c1.fr f x2 x3 x4, c2.fr f x8, c3.fr f x8, c4.fr f e25 x8, c5.fr f x9 x8, c6.fr f x7, c7.fr f e2 x1, c8.fr f e18 x5 x6⟩
theorem RM.thr (c : RM h L S H B M D T N) : RM (wI h 235 0 0) L S H B M D T N := c.scr ((Fr.refl (fun q => Nat.beq q 235) h).wI rfl) ⟨rfl, rfl, rfl, rfl, rfl, rfl, rfl, rfl, rfl⟩ rfl rfl rfl
theorem RM.now {X : Nat → Bool} (W : WOK L S H B M D T N) (c : RM h L S H B M D T N) (f : Fr X h h') (hX : X 236 = false ∧ X 241 = false ∧ X 242 = false ∧ X 243 = false ∧ X 244 = false ∧ X 246 = false ∧ X 248 = false ∧ X 252 = false ∧ X 235 = false) (o : Only 0 34 h h') (hS : SceneM h' 0 L S') : RM h' L S' H B M D T N := by
  obtain ⟨x1, x2, x3, x4, x5, x6, x7, x8, x9⟩ := hX
  obtain ⟨c1, c2, c3, c4, c5, c6, c7, c8⟩ := c
  have hO := W.1
  have e : ∀ k, hI h' 235 k = hI h 235 k := fun k => by rw [f.I x9]
  refine ⟨c1.fr f x2 x3 x4, hS, c3.only W.2.2.1.1 o (by omega), ⟨(e 25).trans c4.1, fun k hk => (c4.2 k hk).only hO o (by omega)⟩, fun m hm => ?_, c6.fr f x7, c7.fr f (e 2) x1, c8.fr f (e 18) x5 x6⟩
  rw [f.I x8]
  refine ⟨(c5 m hm).1, fun U hU => ⟨((c5 m hm).2 U hU).1.only hO o (by omega), ((c5 m hm).2 U hU).2.only ((W.2.2.2.2.1 m hm U hU).2.1) o (by omega)⟩⟩
theorem RM.kps (W : WOK L S H B M D T N) (c : RM h L S H B M D T N) (f : Fr (fun q => Nat.beq q 251 || Nat.beq q 235) h h') (x : FldX 25 h h') (o : Only 200 634 h h') (hB : HisM h' L B'.1 B'.2) : RM h' L S H B' M D T N := by
  obtain ⟨c1, c2, c3, c4, c5, c6, c7, c8⟩ := c
  have hO := W.1
  refine ⟨c1.fr f rfl rfl rfl, c2.only hO o (by omega), c3.only W.2.2.1.1 o (by omega), hB, fun m hm => ?_, c6.fr f rfl, c7.fr f (x 2 (by decide)) rfl, c8.fr f (x 18 (by decide)) rfl rfl⟩
  rw [f.I rfl]
  exact ⟨(c5 m hm).1, fun U hU => ⟨((c5 m hm).2 U hU).1.only hO o (by omega), ((c5 m hm).2 U hU).2.only ((W.2.2.2.2.1 m hm U hU).2.1) o (by omega)⟩⟩
theorem m_keeps' (W : WOK L S H B M D T N) (c : RM h L S H B M D T N) (h1 : ∀ h', Fr xM h h' → RM h' L S H (hputN B.1, hputS B.1 B.2 S) M D T N → Q none h') : Rc (d + 2) m_X13_keeps [.ref 235] h Q :=
  m_keeps c.1 W.1 c.2.1 W.2.2.2.1.1 c.2.2.2.1 (fun h' f x o hB => h1 h' (f.mono (fun q hq => by simp only [Bool.or_eq_true, Nat.beq_eq] at hq; rcases hq with rfl | rfl <;> rfl)) (RM.kps (B' := (hputN B.1, hputS B.1 B.2 S)) W c f x o hB))
theorem hput_ok (W : WOK L S H B M D T N) : WOK L S H (hputN B.1, hputS B.1 B.2 S) M D T N := by
  obtain ⟨w1, w2, w3, w4, w5⟩ := W
  refine ⟨w1, w2, w3, ⟨?_, fun k hk => ?_⟩, w5⟩
  · show hputN B.1 ≤ 16
    unfold hputN; have := w4.1; split <;> omega
  · show SceneOK L (hputS B.1 B.2 S k)
    have hk' : k < hputN B.1 := hk
    unfold hputN at hk'
    unfold hputS
    split
    · split
      · exact w2
      · exact w4.2 _ (by rename_i e _; rw [if_pos e] at hk'; omega)
    · split
      · exact w2
      · exact w4.2 _ (by rename_i e _; rw [if_neg e] at hk'; omega)
/-- one place of the scene that is now is laid anew -/
theorem SceneM.y0 {k : Nat} {v : Int32} (hO : LandOK L) (hS : SceneM h 0 L S) (hk : k < lP L) : SceneM (wI h 251 (10 + k) v) 0 L (setY S k v) := by
  have o3 := hO.2.2.1
  obtain ⟨e1, e2, e3, e4, e5, e6⟩ := hS
  refine ⟨by rw [wI_at, if_neg (by omega)]; exact e1, by rw [wI_at, if_neg (by omega)]; exact e2, by rw [wI_at, if_neg (by omega)]; exact e3, by rw [wI_at, if_neg (by omega)]; exact e4, fun p hp => ⟨by rw [wI_at, if_neg (by omega)]; exact (e5 p hp).1, ?_, by rw [wI_at, if_neg (by omega)]; exact (e5 p hp).2.2⟩, fun s hs => ?_⟩
  · rw [wI_at]
    show _ = if p = k then v else sY S p
    by_cases e : p = k
    · rw [if_pos (by omega), if_pos e]
    · rw [if_neg (by omega), if_neg e]; exact (e5 p hp).2.1
  · exact Eq.trans (ecG_cong _ _ (fun i hi => ⟨by rw [wI_at, if_neg (by omega)], by rw [wI_at, if_neg (by omega)]⟩)) (e6 s hs)
theorem SceneM.a0 {k v : Nat} (hO : LandOK L) (hS : SceneM h 0 L S) (hk : k < lP L) : SceneM (wI h 251 (4 + k) (nI v)) 0 L (setA S k v) := by
  have o3 := hO.2.2.1
  obtain ⟨e1, e2, e3, e4, e5, e6⟩ := hS
  refine ⟨by rw [wI_at, if_neg (by omega)]; exact e1, by rw [wI_at, if_neg (by omega)]; exact e2, by rw [wI_at, if_neg (by omega)]; exact e3, by rw [wI_at, if_neg (by omega)]; exact e4, fun p hp => ⟨?_, by rw [wI_at, if_neg (by omega)]; exact (e5 p hp).2.1, by rw [wI_at, if_neg (by omega)]; exact (e5 p hp).2.2⟩, fun s hs => ?_⟩
  · rw [wI_at]
    show _ = nI (if p = k then v else sA S p)
    by_cases e : p = k
    · rw [if_pos (by omega), if_pos e]
    · rw [if_neg (by omega), if_neg e]; exact (e5 p hp).1
  · exact Eq.trans (ecG_cong _ _ (fun i hi => ⟨by rw [wI_at, if_neg (by omega)], by rw [wI_at, if_neg (by omega)]⟩)) (e6 s hs)
theorem SceneM.e0 {v : Int32} (hO : LandOK L) (hS : SceneM h 0 L S) : SceneM (wI h 251 2 v) 0 L (setE S v) := by
  have o3 := hO.2.2.1
  obtain ⟨e1, e2, e3, e4, e5, e6⟩ := hS
  refine ⟨by rw [wI_at, if_neg (by omega)]; exact e1, by rw [wI_at, if_neg (by omega)]; exact e2, by rw [wI_at, if_pos (by omega)]; rfl, by rw [wI_at, if_neg (by omega)]; exact e4, fun p hp => ⟨by rw [wI_at, if_neg (by omega)]; exact (e5 p hp).1, by rw [wI_at, if_neg (by omega)]; exact (e5 p hp).2.1, by rw [wI_at, if_neg (by omega)]; exact (e5 p hp).2.2⟩, fun s hs => ?_⟩
  exact Eq.trans (ecG_cong _ _ (fun i hi => ⟨by rw [wI_at, if_neg (by omega)], by rw [wI_at, if_neg (by omega)]⟩)) (e6 s hs)
theorem RM.w1 {k : Nat} {v : Int32} (W : WOK L S H B M D T N) (c : RM h L S H B M D T N) (hk : k < 34) (hS : SceneM (wI h 251 k v) 0 L S') : RM (wI h 251 k v) L S' H B M D T N := c.now W ((Fr.refl (fun q => Nat.beq q 251) h).wI rfl) ⟨rfl, rfl, rfl, rfl, rfl, rfl, rfl, rfl, rfl⟩ ((Only.refl 0 34 h).w (by omega) v) hS
theorem y_say (W : WOK L S H B M D T N) (c : RM h L S H B M D T N) {p w : Int32} (h1 : ∀ h', Fr xM h h' → RM h' L (if (inN p (lP L) && inN w (lS L)) = true then setY S p.toNatClampNeg w else S) H (bhand (inN p (lP L) && inN w (lS L)) S B) M D T N → Q (some (.int (b2i (inN p (lP L) && inN w (lS L))))) h') : Rc (d + 4) m_X13_say [.ref 235, .int p, .int w] h Q := by
  have hO := W.1
  have o3 := hO.2.2.1
  have c0 := c.thr
  have F0 : Fr xM h (wI h 235 0 0) := (Fr.refl _ h).wI rfl
  refine R_in rfl rfl ?_
  refine R_gs 7 rfl ?_
  refine R_k rfl rfl (m_isPerson c0.1 (fun hx7 => ?_) (fun hx7 => ?_))
  ·
    refine W_bf rfl (by decide) ?_
    refine R_gs 15 rfl ?_
    refine R_k rfl rfl (m_isSaying c0.1 (fun hx15 => ?_) (fun hx15 => ?_))
    ·
      refine W_bf rfl (by decide) ?_
      refine R_gs 24 rfl ?_
      refine R_k rfl rfl (m_keeps' W c0 (fun h2 f2 r2 => ?_))
      refine R_gs 36 rfl ?_
      obtain ⟨k, hk, rfl⟩ := inN_of (by omega) hx7
      refine R_is rfl rfl (ix_add (ix_lit _) rfl) (by omega) ?_
      refine R_gs 38 rfl ?_
      refine W_f rfl (by first | rfl | exact ⟨rfl, by first | decide | assumption | exact Or.inl rfl | exact Or.inr rfl | exact b2i_01 _⟩) ?_
      rw [hx7, hx15, nI_clamp (by omega)] at h1
      exact h1 _ ((F0.trans f2).wI rfl) (r2.w1 (hput_ok W) (by omega) (r2.2.1.y0 hO hk))
    ·
      refine W_bt rfl (by decide) ?_
      refine R_gs 22 rfl ?_
      refine W_f rfl (by first | rfl | exact ⟨rfl, by first | decide | assumption | exact Or.inl rfl | exact Or.inr rfl | exact b2i_01 _⟩) ?_
      first | (rw [hx7] at h1; exact h1 _ F0 c0) | (rw [hx7, hx15] at h1; exact h1 _ F0 c0)
  ·
    refine W_bt rfl (by decide) ?_
    refine R_gs 22 rfl ?_
    refine W_f rfl (by first | rfl | exact ⟨rfl, by first | decide | assumption | exact Or.inl rfl | exact Or.inr rfl | exact b2i_01 _⟩) ?_
    first | (rw [hx7] at h1; exact h1 _ F0 c0) | (rw [hx7, hx15] at h1; exact h1 _ F0 c0)
theorem y_hush (W : WOK L S H B M D T N) (c : RM h L S H B M D T N) {p : Int32} (h1 : ∀ h', Fr xM h h' → RM h' L (if inN p (lP L) = true then setY S p.toNatClampNeg (-1) else S) H (bhand (inN p (lP L)) S B) M D T N → Q (some (.int (b2i (inN p (lP L))))) h') : Rc (d + 4) m_X13_hush [.ref 235, .int p] h Q := by
  have hO := W.1
  have o3 := hO.2.2.1
  have c0 := c.thr
  have F0 : Fr xM h (wI h 235 0 0) := (Fr.refl _ h).wI rfl
  refine R_in rfl rfl ?_
  refine R_gs 7 rfl ?_
  refine R_k rfl rfl (m_isPerson c0.1 (fun hx7 => ?_) (fun hx7 => ?_))
  ·
    refine W_bf rfl (by decide) ?_
    refine R_gs 16 rfl ?_
    refine R_k rfl rfl (m_keeps' W c0 (fun h2 f2 r2 => ?_))
    refine R_gs 28 rfl ?_
    obtain ⟨k, hk, rfl⟩ := inN_of (by omega) hx7
    refine R_is rfl rfl (ix_add (ix_lit _) rfl) (by omega) ?_
    refine R_gs 30 rfl ?_
    refine W_f rfl (by first | rfl | exact ⟨rfl, by first | decide | assumption | exact Or.inl rfl | exact Or.inr rfl | exact b2i_01 _⟩) ?_
    rw [hx7, nI_clamp (by omega)] at h1
    exact h1 _ ((F0.trans f2).wI rfl) (r2.w1 (hput_ok W) (by omega) (r2.2.1.y0 hO hk))
  ·
    refine W_bt rfl (by decide) ?_
    refine R_gs 14 rfl ?_
    refine W_f rfl (by first | rfl | exact ⟨rfl, by first | decide | assumption | exact Or.inl rfl | exact Or.inr rfl | exact b2i_01 _⟩) ?_
    rw [hx7] at h1; exact h1 _ F0 c0
theorem y_walk (W : WOK L S H B M D T N) (c : RM h L S H B M D T N) {p s : Int32} (h1 : ∀ h', Fr xM h h' → RM h' L (if walkOk L S p s = true then setA S p.toNatClampNeg s.toNatClampNeg else S) H (bhand (walkOk L S p s) S B) M D T N → Q (some (.int (b2i (walkOk L S p s)))) h') : Rc (d + 4) m_X13_walk [.ref 235, .int p, .int s] h Q := by
  have hO := W.1
  have o3 := hO.2.2.1
  have o2 := hO.2.1
  have c0 := c.thr
  have F0 : Fr xM h (wI h 235 0 0) := (Fr.refl _ h).wI rfl
  refine R_in rfl rfl ?_
  refine R_gs 7 rfl ?_
  refine R_k rfl rfl (m_isPerson c0.1 (fun hx7 => ?_) (fun hx7 => ?_))
  ·
    refine W_bf rfl (by decide) ?_
    refine R_gs 15 rfl ?_
    refine R_k rfl rfl (m_isPlace c0.1 (fun hx15 => ?_) (fun hx15 => ?_))
    ·
      refine W_bf rfl (by decide) ?_
      refine R_gs 28 rfl ?_
      obtain ⟨k, hk, rfl⟩ := inN_of (by omega) hx7
      have ek := nI_clamp (n := k) (by omega)
      refine R_il rfl rfl (ix_add (ix_lit _) rfl) (by omega) ((congrArg (hI (wI h 235 0 0) 251) (by omega : 4 + k = 0 + 4 + k)).trans (c0.2.1.A hk)) ?_
      refine R_gs 30 rfl ?_
      refine W_b rfl (fun hc30 => ?_) (fun hc30 => ?_)
      ·
        refine R_gs 34 rfl ?_
        refine W_f rfl (by first | rfl | exact ⟨rfl, by first | decide | assumption | exact Or.inl rfl | exact Or.inr rfl | exact b2i_01 _⟩) ?_
        rw [show walkOk L S (nI k) s = false from by unfold walkOk; rw [hx7, hx15, ek, decide_eq_true hc30]; rfl] at h1; exact h1 _ F0 c0
      ·
        refine R_gs 36 rfl ?_
        refine R_k rfl rfl (m_keeps' W c0 (fun h2 f2 r2 => ?_))
        refine R_gs 47 rfl ?_
        refine R_is rfl rfl (ix_add (ix_lit _) rfl) (by omega) ?_
        refine R_gs 49 rfl ?_
        refine W_f rfl (by first | rfl | exact ⟨rfl, by first | decide | assumption | exact Or.inl rfl | exact Or.inr rfl | exact b2i_01 _⟩) ?_
        rw [show walkOk L S (nI k) s = true from by unfold walkOk; rw [hx7, hx15, ek, decide_eq_false hc30]; rfl, ek] at h1
        obtain ⟨v, hv, rfl⟩ := inN_of (by omega) hx15
        rw [nI_clamp (n := v) (by omega)] at h1
        exact h1 _ ((F0.trans f2).wI rfl) (r2.w1 (hput_ok W) (by omega) (r2.2.1.a0 hO hk))
    ·
      refine W_bt rfl (by decide) ?_
      refine R_gs 34 rfl ?_
      refine W_f rfl (by first | rfl | exact ⟨rfl, by first | decide | assumption | exact Or.inl rfl | exact Or.inr rfl | exact b2i_01 _⟩) ?_
      rw [show walkOk L S p s = false from by unfold walkOk; rw [hx7, hx15]; rfl] at h1; exact h1 _ F0 c0
  ·
    refine W_bt rfl (by decide) ?_
    refine R_gs 34 rfl ?_
    refine W_f rfl (by first | rfl | exact ⟨rfl, by first | decide | assumption | exact Or.inl rfl | exact Or.inr rfl | exact b2i_01 _⟩) ?_
    rw [show walkOk L S p s = false from by unfold walkOk; rw [hx7]; rfl] at h1; exact h1 _ F0 c0
theorem yst_x {q : Nat} (h : yst q = true) : xM q = true := by
  simp only [yst, ysc, Bool.or_eq_true, Nat.beq_eq] at h
  rcases h with ((rfl | rfl) | rfl) | rfl <;> rfl
theorem y_moment (W : WOK L S H B M D T N) (c : RM h L S H B M D T N) (h1 : ∀ h', Fr xM h h' → RM h' L (momS L S) H (hputN B.1, hputS B.1 B.2 S) M D T N → Q (some (.int (momF L S))) h') : Rc (d + 7) m_X13_moment [.ref 235] h Q := by
  have hO := W.1
  have c0 := c.thr
  have F0 : Fr xM h (wI h 235 0 0) := (Fr.refl _ h).wI rfl
  refine R_in rfl rfl ?_
  refine R_gs 6 rfl ?_
  refine R_k rfl rfl (m_keeps' W c0 (fun h2 f2 r2 => ?_))
  refine R_gs 11 rfl ?_
  refine R_k rfl rfl (m_passes (b := 0) r2.1 hO r2.2.1 W.2.1 (by omega) (fun h3 f3 o3 s3 => ?_))
  refine W_f rfl (by first | rfl | exact ⟨rfl, by first | decide | assumption | exact Or.inl rfl | exact Or.inr rfl | exact b2i_01 _⟩) ?_
  exact h1 _ ((F0.trans f2).trans (f3.mono (fun q => yst_x))) (r2.now (hput_ok W) f3 ⟨rfl, rfl, rfl, rfl, rfl, rfl, rfl, rfl, rfl⟩ o3 s3)
theorem y_part (W : WOK L S H B M D T N) (c : RM h L S H B M D T N) {p q : Int32} (h1 : ∀ h', Fr xM h h' → RM h' L (if partOk L S p q = true then sepS L S p.toNatClampNeg q.toNatClampNeg else S) H (bhand (partOk L S p q) S B) M D T N → Q (some (.int (if partOk L S p q = true then price L (sW S) p.toNatClampNeg q.toNatClampNeg else -1))) h') : Rc (d + 7) m_X13_part [.ref 235, .int p, .int q] h Q := by
  have hO := W.1
  have o3 := hO.2.2.1
  have c0 := c.thr
  have F0 : Fr xM h (wI h 235 0 0) := (Fr.refl _ h).wI rfl
  refine R_in rfl rfl ?_
  refine R_gs 8 rfl ?_
  refine R_k rfl rfl (m_areTwo c0.1 (fun hx8 => ?_) (fun hx8 => ?_))
  ·
    refine W_bf rfl (by decide) ?_
    refine R_gs 18 rfl ?_
    obtain ⟨i, j, hi, hj, hij, rfl, rfl, ei, ej⟩ := two_of o3 hx8
    refine R_k rfl rfl (m_isWed (b := 0) c0.2.1 (by omega) (by omega) (by omega) hij (fun hx18 => ?_) (fun hx18 => ?_))
    ·
      refine W_bf rfl (by decide) ?_
      refine R_gs 27 rfl ?_
      refine R_k rfl rfl (m_keeps' W c0 (fun h2 f2 r2 => ?_))
      refine R_gs 34 rfl ?_
      refine R_k rfl rfl (m_partsTwo (b := 0) r2.1 hO r2.2.1 W.2.1 (by omega) hi hj hij (fun h3 f3 o3 s3 => ?_))
      refine W_f rfl (by first | rfl | exact ⟨rfl, by first | decide | assumption | exact Or.inl rfl | exact Or.inr rfl | exact b2i_01 _⟩) ?_
      rw [show partOk L S (nI i) (nI j) = true from by unfold partOk; rw [hx8, ei, ej, hx18]; rfl, ei, ej] at h1
      exact h1 _ ((F0.trans f2).trans (f3.mono (fun q => yst_x))) (r2.now (hput_ok W) f3 ⟨rfl, rfl, rfl, rfl, rfl, rfl, rfl, rfl, rfl⟩ o3 s3)
    ·
      refine W_bt rfl (by decide) ?_
      refine R_gs 25 rfl ?_
      refine W_f rfl (by first | rfl | exact ⟨rfl, by first | decide | assumption | exact Or.inl rfl | exact Or.inr rfl | exact b2i_01 _⟩) ?_
      rw [show partOk L S (nI i) (nI j) = false from by unfold partOk; rw [hx8, ei, ej, hx18]; rfl] at h1; exact h1 _ F0 c0
  ·
    refine W_bt rfl (by decide) ?_
    refine R_gs 25 rfl ?_
    refine W_f rfl (by first | rfl | exact ⟨rfl, by first | decide | assumption | exact Or.inl rfl | exact Or.inr rfl | exact b2i_01 _⟩) ?_
    rw [show partOk L S p q = false from by unfold partOk; rw [hx8]; rfl] at h1; exact h1 _ F0 c0
theorem y_keep (W : WOK L S H B M D T N) (c : RM h L S H B M D T N) {p q : Int32} (h1 : ∀ h', Fr xM h h' → RM h' L (if keepOk L S p q = true then setE S (sE S ||| nI (2 ^ pr p.toNatClampNeg q.toNatClampNeg)) else S) H (bhand (keepOk L S p q) S B) M D T N → Q (some (.int (b2i (keepOk L S p q)))) h') : Rc (d + 6) m_X13_keep [.ref 235, .int p, .int q] h Q := by
  have hO := W.1
  have o3 := hO.2.2.1
  have c0 := c.thr
  have F0 : Fr xM h (wI h 235 0 0) := (Fr.refl _ h).wI rfl
  refine R_in rfl rfl ?_
  refine R_gs 8 rfl ?_
  refine R_k rfl rfl (m_areTwo c0.1 (fun hx8 => ?_) (fun hx8 => ?_))
  ·
    refine W_bf rfl (by decide) ?_
    refine R_gs 18 rfl ?_
    obtain ⟨i, j, hi, hj, hij, rfl, rfl, ei, ej⟩ := two_of o3 hx8
    refine R_k rfl rfl (m_isKept (b := 0) c0.2.1 (by omega) (by omega) (by omega) hij (fun hx18 => ?_) (fun hx18 => ?_))
    ·
      refine W_bf rfl (by decide) ?_
      refine R_gs 25 rfl ?_
      refine W_f rfl (by first | rfl | exact ⟨rfl, by first | decide | assumption | exact Or.inl rfl | exact Or.inr rfl | exact b2i_01 _⟩) ?_
      rw [show keepOk L S (nI i) (nI j) = false from by unfold keepOk; rw [hx8, ei, ej, hx18]; rfl] at h1; exact h1 _ F0 c0
    ·
      refine W_bt rfl (by decide) ?_
      refine R_gs 27 rfl ?_
      refine R_k rfl rfl (m_keeps' W c0 (fun h2 f2 r2 => ?_))
      refine R_gs 36 rfl ?_
      refine R_il rfl (by first | rfl | exact shO (by decide) (by omega) | exact shG (by decide) (by omega)) (by repeat (first | with_reducible apply ix_add | with_reducible apply ix_mul | with_reducible exact ix_nI _ | with_reducible exact ix_lit _ | exact rfl)) (by omega) (by first | exact r2.2.1.E) ?_
      refine R_gs 40 rfl ?_
      refine R_k rfl rfl (m_pairOf (by omega) (by omega) hij ?_)
      refine R_gs 45 rfl ?_
      refine R_is rfl (by first | rfl | exact shO (by decide) (by omega) | exact shG (by decide) (by omega)) (by repeat (first | with_reducible apply ix_add | with_reducible apply ix_mul | with_reducible exact ix_nI _ | with_reducible exact ix_lit _ | exact rfl)) (by omega) ?_
      refine R_gs 47 rfl ?_
      refine W_f rfl (by first | rfl | exact ⟨rfl, by first | decide | assumption | exact Or.inl rfl | exact Or.inr rfl | exact b2i_01 _⟩) ?_
      rw [show keepOk L S (nI i) (nI j) = true from by unfold keepOk; rw [hx8, ei, ej, hx18]; rfl, ei, ej] at h1
      have hk := pr_lt i (by omega) j (by omega) hij
      rw [one_shl _ (by omega)]
      exact h1 _ ((F0.trans f2).wI rfl) (r2.w1 (hput_ok W) (by omega) (r2.2.1.e0 hO))
  ·
    refine W_bt rfl (by decide) ?_
    refine R_gs 25 rfl ?_
    refine W_f rfl (by first | rfl | exact ⟨rfl, by first | decide | assumption | exact Or.inl rfl | exact Or.inr rfl | exact b2i_01 _⟩) ?_
    rw [show keepOk L S p q = false from by unfold keepOk; rw [hx8]; rfl] at h1; exact h1 _ F0 c0
theorem y_undo (W : WOK L S H B M D T N) (c : RM h L S H B M D T N) (h1 : ∀ h', Fr xM h h' → RM h' L (if B.1 = 0 then S else B.2 (B.1 - 1)) H (B.1 - 1, B.2) M D T N → Q (some (.int (b2i (!decide (B.1 = 0))))) h') : Rc (d + 4) m_X13_undo [.ref 235] h Q := by
  have hO := W.1
  have c0 := c.thr
  have F0 : Fr xM h (wI h 235 0 0) := (Fr.refl _ h).wI rfl
  obtain ⟨n, hs⟩ := B
  have hn : n ≤ 16 := W.2.2.2.1.1
  have e25 : hI (wI h 235 0 0) 235 25 = nI n := c0.2.2.2.1.1
  dsimp only at h1
  refine R_in rfl rfl ?_
  refine R_gs 9 rfl ?_
  rw [e25]
  refine W_b rfl (fun hc9 => ?_) (fun hc9 => ?_)
  ·
    refine R_gs 13 rfl ?_
    refine W_f rfl (by first | rfl | exact ⟨rfl, by first | decide | assumption | exact Or.inl rfl | exact Or.inr rfl | exact b2i_01 _⟩) ?_
    have hz := nI_eqc (b := 0) hc9 (by omega) (by omega); subst hz; exact h1 _ F0 c0
  ·
    refine R_gs 37 rfl ?_
    have hz : 0 < n := Nat.pos_of_ne_zero (fun e => hc9 (by rw [e]; rfl))
    rw [e25, show nI n - 1 = nI (n - 1) from dn_p hz, show hI (wI (wI h 235 0 0) 235 25 (nI (n - 1))) 235 25 = nI (n - 1) from rfl, show (40 : Int32) * (5 + nI (n - 1)) = nI (40 * (5 + (n - 1))) from ix_mul (ix_lit 40) (ix_add (ix_lit 5) rfl)]
    refine R_k rfl rfl (m_copies (t := 0) (n := 34) (by omega) (by omega) (by omega) (fun s' f' o' c' => ?_))
    refine R_gs 41 rfl ?_
    refine W_f rfl (by first | rfl | exact ⟨rfl, by first | decide | assumption | exact Or.inl rfl | exact Or.inr rfl | exact b2i_01 _⟩) ?_
    rw [if_neg (by omega), decide_eq_false (by omega)] at h1
    have F1 : Fr xM h s' := (F0.wI rfl).trans (f'.mono (fun q hq => by have := Nat.eq_of_beq_eq_true hq; subst this; rfl))
    obtain ⟨c1, c2, c3, c4, c5, c6, c7, c8⟩ := c0
    have g : Fr (fun q => Nat.beq q 235) (wI h 235 0 0) (wI (wI h 235 0 0) 235 25 (nI (n - 1))) := (Fr.refl _ _).wI rfl
    have S1 : ∀ {k U}, SceneM (wI h 235 0 0) k L U → SceneM (wI (wI h 235 0 0) 235 25 (nI (n - 1))) k L U := fun {k U} hS => hS.fr g rfl
    have G : Fr (fun q => Nat.beq q 235 || Nat.beq q 251) (wI h 235 0 0) s' := (g.mono (fun q hq => by show (_ || _) = true; rw [hq]; rfl)).trans (f'.mono (fun q hq => by show (_ || _) = true; rw [hq, Bool.or_true]))
    have e : ∀ k, k ≠ 25 → hI s' 235 k = hI (wI h 235 0 0) 235 k := fun k hk => by rw [f'.I rfl, wI_at, if_neg hk]
    refine h1 _ F1 ⟨c1.fr G rfl rfl rfl, (S1 (c4.2 (n - 1) (Nat.sub_lt hz (by decide)))).cp hO c', ?_, ⟨?_, fun k hk => ?_⟩, fun m hm => ?_, c6.fr G rfl, c7.fr G (e 2 (by decide)) rfl, c8.fr G (e 18 (by decide)) rfl rfl⟩
    · exact (c3.fr g rfl).only W.2.2.1.1 o' (by omega)
    · rw [f'.I rfl]; rfl
    · have hk' : k < n - 1 := hk; exact (S1 (c4.2 k (show k < n by omega))).only hO o' (by omega)
    · rw [G.I rfl]; exact ⟨(c5 m hm).1, fun U hU => ⟨(S1 ((c5 m hm).2 U hU).1).only hO o' (by omega), (((c5 m hm).2 U hU).2.fr g rfl).only ((W.2.2.2.2.1 m hm U hU).2.1) o' (by omega)⟩⟩
end
