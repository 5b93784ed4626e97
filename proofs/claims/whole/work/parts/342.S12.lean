/-! a law that was read can be worked out -/
theorem xds_app (c c' : List Int32) : ∀ n, xds (c ++ c') n = (xds c n).bind (xds c') := by
  induction c with
  | nil => intro n; rfl
  | cons s c ih =>
    intro n
    show (xd s n).bind (xds (c ++ c')) = ((xd s n).bind (xds c)).bind (xds c')
    cases xd s n with
    | none => rfl
    | some m => exact ih m
def stR (c : List Int32) : Prop := ∀ s, s ∈ c → -11 ≤ s ∧ s ≤ 9999
theorem stR_app {c c' : List Int32} (h : stR c) (h' : stR c') : stR (c ++ c') := fun s hs => by
  rcases List.mem_append.mp hs with e | e
  · exact h s e
  · exact h' s e
theorem stR_1 {v : Int32} (h : -11 ≤ v ∧ v ≤ 9999) : stR [v] := fun s hs => by rw [List.mem_singleton.mp hs]; exact h
def XG (B : Nat) (c : List Int32) : Prop := stR c ∧ ∀ n, n + B ≤ 27 → xds c n = some (n + 1)
def XOK (K : TKs) (X : EX) (B : Nat) : Prop := ∀ s : RS, s.1 < K.1 → (X s).1.2 = 0 → s.2 = 0 ∧ XG B (X s).2
theorem mea_j : ∀ t, t < 38 → rol t < 4 → (-11 ≤ mea t ∧ mea t ≤ 9999) ∧ ¬ -3 ≤ mea t ∧ ¬ mea t = -4 := by decide +kernel
theorem mea_g : ∀ t, t < 38 → (stPt t && (!decide (t = 27) && (!decide (t = 4) && !decide (t = 2)))) = true → (-11 ≤ mea t ∧ mea t ≤ 9999) ∧ -3 ≤ mea t := by decide +kernel
theorem mea_f (t : Nat) (h : t < 38) (h1 : stPt t = true) (h2 : ¬ t = 27) (h3 : ¬ t = 4) (h4 : ¬ t = 2) : (-11 ≤ mea t ∧ mea t ≤ 9999) ∧ -3 ≤ mea t := mea_g t h (by rw [h1, decide_eq_false h2, decide_eq_false h3, decide_eq_false h4]; rfl)
section
variable {K : TKs} {s : RS} {X : EX} {l m B : Nat} {D : PD} {N : SN'}
theorem xds_j {t n : Nat} (ht : t < 38) (hr : rol t < 4) : xds [mea t] (n + 2) = some (n + 1) := by
  have := mea_j t ht hr
  show (xd (mea t) (n + 2)).bind (xds []) = _
  unfold xd
  rw [if_neg this.2.1, if_neg this.2.2, if_pos (by omega)]; rfl
theorem jl_x (kO : TokOK K) (hl : l < 4) (o : EXo K X) (x : XOK K X B) : ∀ (m : Nat) (z : RS × List Int32), z.1.1 < K.1 → (z.1.2 = 0 → XG (B + 1) z.2) → (jl K X l m z).1.2 = 0 → z.1.2 = 0 ∧ XG (B + 1) (jl K X l m z).2
  | 0, z, _, h2, h3 => ⟨h3, h2 h3⟩
  | m + 1, z, h1, h2, h3 => by
    by_cases e : z.1.2 = 0 ∧ rol (tk K z.1.1) = l
    · rw [jl_s (by omega) e] at h3 ⊢
      obtain ⟨e1, e2⟩ := sp_1 kO h1 e.1 (rol_0 (by omega))
      have hs : (sp K z.1).1 < K.1 := by rw [e1]; exact e2
      have o1 := o (sp K z.1) hs
      have ih := jl_x kO hl o x m ((X (sp K z.1)).1, z.2 ++ ((X (sp K z.1)).2 ++ [mea (tk K z.1.1)])) o1.1 (fun e9 => by
        have g := h2 e.1
        have g' := (x (sp K z.1) hs e9).2
        have tg := (kO.2.1 _ h1).1
        have hr : rol (tk K z.1.1) < 4 := by omega
        refine ⟨stR_app g.1 (stR_app g'.1 (stR_1 (mea_j _ tg hr).1)), fun n hn => ?_⟩
        dsimp only
        rw [xds_app, g.2 n hn, Option.bind_some, xds_app, g'.2 (n + 1) (by omega), Option.bind_some]
        exact xds_j tg hr) h3
      exact ⟨e.1, ih.2⟩
    · rw [jl_e (Or.inr e)] at h3 ⊢
      exact ⟨h3, h2 h3⟩
theorem XG.up {B' : Nat} {c : List Int32} (h : B ≤ B') (g : XG B c) : XG B' c := ⟨g.1, fun n hn => g.2 n (by omega)⟩
theorem JL_x (kO : TokOK K) (hl : l < 4) (o : EXo K X) (x : XOK K X B) : XOK K (JL K l m X) (B + 1) := fun s hs hz => by
  have := jl_x kO hl o x m (X s) (o s hs).1 (fun e => (x s hs e).2.up (by omega)) hz
  exact ⟨(x s hs this.1).1, this.2⟩
theorem eJ_x (kO : TokOK K) (o : EXo K X) (x : XOK K X B) : XOK K (eJ K X 0) (B + 4) := by
  have o3 := JL_o (m := 1000) kO (by omega : 3 < 4) o
  have o2 := JL_o (m := 1000) kO (by omega : 2 < 4) o3
  have o1 := JL_o (m := 1) kO (by omega : 1 < 4) o2
  exact JL_x kO (by omega) o1 (JL_x kO (by omega) o2 (JL_x kO (by omega) o3 (JL_x kO (by omega) o x)))
theorem nI_st {n : Nat} (h : n ≤ 9999) : (-11 ≤ nI n ∧ nI n ≤ 9999) ∧ -3 ≤ nI n := by
  have h0 : (0 : Int32) ≤ nI n := nI_pos' (by omega)
  exact ⟨⟨Int32.le_trans (by decide) h0, (nI_leI (b := 9999) (by omega) (by omega)).mpr h⟩, Int32.le_trans (by decide) h0⟩
theorem xds_p {v : Int32} {n : Nat} (hv : -3 ≤ v) (hn : n < 24) : xds [v] n = some (n + 1) := by
  show (xd v n).bind (xds []) = _
  unfold xd
  rw [if_pos hv, if_pos hn]; rfl
theorem eP_x (kO : TokOK K) : ∀ a, XOK K (eP K a) (4 * a)
  | 0 => fun s hs hz => by
    have hz : (bl K true 5 (bl K (!stPt (tk K s.1)) 1 s)).2 = 0 := hz
    exact absurd (bl_z (by decide) hz).1 (by decide)
  | a + 1 => fun s hs hz => by
    have ih := eP_x kO a
    have oP := eP_o kO a
    have tg := kO.2.1 s.1 hs
    unfold eP at hz ⊢
    dsimp only at hz ⊢
    by_cases hf : (sp K (bl K (!stPt (tk K s.1)) 1 s)).2 = 0
    · obtain ⟨q1, q2, e1, e2⟩ := sP_1 kO hs hf
      rw [if_pos hf] at hz ⊢
      rw [e1] at hz ⊢
      refine ⟨q2, ?_⟩
      by_cases h27 : tk K s.1 = 27
      · rw [if_pos h27] at hz ⊢
        have g := ih (s.1 + 1, 0) e2 hz
        refine ⟨stR_app g.2.1 (stR_1 (by decide)), fun n hn => ?_⟩
        rw [xds_app, g.2.2 n (by omega), Option.bind_some]
        show (xd (-4) (n + 1)).bind (xds []) = _
        unfold xd
        rw [if_neg (by decide), if_pos rfl, if_pos (by omega)]; rfl
      · rw [if_neg h27] at hz ⊢
        by_cases h4 : tk K s.1 = 4
        · rw [if_pos h4] at hz ⊢
          have g := eJ_x kO oP ih (s.1 + 1, 0) e2 (ex_z hz).1
          exact g.2.up (by omega)
        · rw [if_neg h4] at hz ⊢
          by_cases h2 : tk K s.1 = 2
          · rw [if_pos h2]
            have b := nI_st (tg.2.2.1 h2)
            exact ⟨stR_1 b.1, fun n hn => xds_p b.2 (by omega)⟩
          · rw [if_neg h2]
            have b := mea_f _ tg.1 q1 h27 h4 h2
            exact ⟨stR_1 b.1, fun n hn => xds_p b.2 (by omega)⟩
    · rw [if_neg hf] at hz; exact absurd hz hf
theorem eE_o (kO : TokOK K) : EXo K (eE K) := eJ_o kO (eP_o kO 5) 0
theorem eE_law (kO : TokOK K) (hs : s.1 < K.1) (hz : (eE K s).1.2 = 0) : s.2 = 0 ∧ LawOK (eE K s).2 := by
  have x := eJ_x kO (eP_o kO 5) (eP_x kO 5) s hs hz
  have o := eE_o kO s hs
  have k1 := kO.1
  exact ⟨x.1, by omega, x.2.2 0 (by decide), x.2.1⟩
/-! where one stands behind a line -/
theorem sp_p (kO : TokOK K) (hs : s.1 < K.1) : (sp K s).1 < K.1 := by
  unfold sp nxI
  split
  · split
    · assumption
    · exact hs
  · exact hs
theorem bl_p {b : Bool} {k : Nat} (hs : s.1 < K.1) : (bl K b k s).1 < K.1 := by rw [bl_1]; exact hs
theorem ex_p {t : Nat} (kO : TokOK K) (hs : s.1 < K.1) : (ex K t s).1 < K.1 := sp_p kO (bl_p hs)
theorem lu_p {σ : Nat} (hs : s.1 < K.1) : (lu K N σ s).1.1 < K.1 := by
  unfold lu; dsimp only; exact bl_p (bl_p hs)
theorem rk_p {σ : Nat} (kO : TokOK K) (hs : s.1 < K.1) : (rk K N σ s).1.1 < K.1 := sp_p kO (lu_p hs)
theorem rn_p {m : Nat} (kO : TokOK K) (hs : s.1 < K.1) : (rn K m s).1 < K.1 := sp_p kO (bl_p (bl_p hs))
theorem lnA_p (kO : TokOK K) (hs : s.1 < K.1) : (lnA K s D).1.1 < K.1 := by
  by_cases e7 : tk K s.1 = 7
  · rw [lnA_7 e7]; exact lnN_p kO hs
  by_cases e8 : tk K s.1 = 8
  · rw [lnA_8 e8]; exact lnN_p kO hs
  by_cases e9 : tk K s.1 = 9
  · rw [lnA_9 e9]
    unfold lnX
    dsimp only
    exact rn_p kO (ex_p kO (rk_p kO (ex_p kO (sp_p kO (bl_p (lnN_p kO hs))))))
  by_cases e12 : tk K s.1 = 12
  · rw [lnA_12 e12]
    unfold lnO
    dsimp only
    exact rn_p kO (sp_p kO (bl_p (lu_p (rk_p kO (sp_p kO hs)))))
  by_cases e13 : tk K s.1 = 13
  · rw [lnA_13 e13]
    unfold lnG
    dsimp only
    exact rn_p kO (sp_p kO (bl_p (lu_p (rk_p kO (sp_p kO hs)))))
  by_cases e14 : tk K s.1 = 14
  · rw [lnA_14 e14]
    unfold lnK
    dsimp only
    exact sp_p kO (bl_p (lu_p (rk_p kO (sp_p kO hs))))
  by_cases e15 : tk K s.1 = 15
  · rw [lnA_15 e15, lnL_0]
    exact (eE_o kO _ (sp_p kO (bl_p hs))).1
  by_cases e16 : tk K s.1 = 16
  · rw [lnA_16 e16, lnL_1]
    exact (eE_o kO _ (sp_p kO (bl_p hs))).1
  rw [lnA_d ⟨e7, e8, e9, e12, e13, e14, e15, e16⟩]; exact bl_p hs
/-! both laws are in order -/
def PdL (D : PD) : Prop := LawOK (dC D).1 ∧ LawOK (dD D).1
theorem pdl_0 {r : RS} {c : List Int32} (h : LawOK c) (hL : PdL D) : PdL (r, setC D 0 c).2 := ⟨h, hL.2⟩
theorem pdl_1 {r : RS} {c : List Int32} (h : LawOK c) (hL : PdL D) : PdL (r, setC D 1 c).2 := ⟨hL.1, h⟩
theorem lnA_l (kO : TokOK K) (hs : s.1 < K.1) (hL : PdL D) (hz : (lnA K s D).1.2 = 0) : PdL (lnA K s D).2 := by
  by_cases e7 : tk K s.1 = 7
  · rw [lnA_7 e7]; unfold lnN; dsimp only; split <;> exact hL
  by_cases e8 : tk K s.1 = 8
  · rw [lnA_8 e8]; unfold lnN; dsimp only; split <;> exact hL
  by_cases e9 : tk K s.1 = 9
  · rw [lnA_9 e9]
    have hz2 : PdL (lnN K 2 s D).2.1 := by unfold lnN; dsimp only; split <;> exact hL
    unfold lnX; dsimp only; split <;> exact hz2
  by_cases e12 : tk K s.1 = 12
  · rw [lnA_12 e12]; unfold lnO; dsimp only; split <;> exact hL
  by_cases e13 : tk K s.1 = 13
  · rw [lnA_13 e13]; unfold lnG; dsimp only; split <;> exact hL
  by_cases e14 : tk K s.1 = 14
  · rw [lnA_14 e14]; unfold lnK; dsimp only; split <;> exact hL
  by_cases e15 : tk K s.1 = 15
  · rw [lnA_15 e15, lnL_0] at hz ⊢
    exact pdl_0 (eE_law kO (sp_p kO (bl_p hs)) hz).2 hL
  by_cases e16 : tk K s.1 = 16
  · rw [lnA_16 e16, lnL_1] at hz ⊢
    exact pdl_1 (eE_law kO (sp_p kO (bl_p hs)) hz).2 hL
  rw [lnA_d ⟨e7, e8, e9, e12, e13, e14, e15, e16⟩]; exact hL
def LnI (K : TKs) (s : RS) (D : PD) : Prop := s.1 < K.1 ∧ PdO D ∧ PdB D ∧ (s.2 = 0 → dM D = dP D ∧ PdL D)
theorem lnA_I (kO : TokOK K) (hf : s.2 = 0) (i : LnI K s D) : LnI K (ex K 6 (lnA K s D).1) (lnA K s D).2 := by
  obtain ⟨i1, i2, i3, i4⟩ := i
  have o := lnA_o kO i1 i2 i3 (i4 hf).1
  exact ⟨ex_p kO (lnA_p kO i1), o.1, o.2.1, fun e => ⟨o.2.2 (ex_z e).1, lnA_l kO i1 (i4 hf).2 (ex_z e).1⟩⟩
theorem lns_I (kO : TokOK K) : ∀ (m : Nat) (s : RS) (D : PD), LnI K s D → LnI K (lns K m s D).1 (lns K m s D).2
  | 0, _, _, i => i
  | m + 1, s, D, i => by
    by_cases e : s.2 = 0 ∧ tk K s.1 ≠ 0
    · rw [lns_s (by omega) e]; exact lns_I kO m _ _ (lnA_I kO e.1 i)
    · rw [lns_e (Or.inr e)]; exact i
theorem D0_I (kO : TokOK K) : LnI K (0, 0) D0 := ⟨kO.2.2.1, D0_o.1, D0_o.2.1, fun _ => ⟨D0_o.2.2, ⟨by decide, by decide, by decide⟩, ⟨by decide, by decide, by decide⟩⟩⟩
theorem prvA_I (kO : TokOK K) : LnI K (prvA K).1 (prvA K).2 := lns_I kO 1001 (0, 0) D0 (D0_I kO)
/-- the land that was told -/
def pL (D : PD) : SL := ((dS D, dQ D, dP D), (fun p => (dX D p).1), (fun p => (dX D p).2.1), (fun p => (dX D p).2.2), dO D, dG D, dE D, (dC D).1, (dD D).1)
theorem pL_ok (o : PdO D) (B : PdB D) (hM : dM D = dP D) (hL : PdL D) : LandOK (pL D) ∧ NamOK (pL D) (dN D) := by
  have on := o.nm
  obtain ⟨o1, o2, o3, o4, o5, o6, o7⟩ := o
  obtain ⟨b1, b2, b3, b4⟩ := B
  refine ⟨⟨o1, o2, o3, fun p hp => ?_, hL.1, hL.2⟩, ⟨on.1, fun k hk => ?_⟩⟩
  · have hp : p < dP D := hp
    have := b3 p (by omega)
    exact ⟨this.1, this.2.1, this.2.2, fun w _ => b1 p w, fun q _ => b2 p q⟩
  · have := o6 k hk
    refine ⟨this.1, this.2.1.2.1, this.2.1.1, this.2.1.2.2, fun e => ?_, fun e => ?_, fun e => ?_⟩
    · have := this.2.2; rw [e] at this; exact this
    · have := this.2.2; rw [e] at this; exact this
    · have := this.2.2; rw [e] at this; exact this
theorem PdC.land {h : AH} {a : Nat} (c : PdC h a D) (o : PdO D) (hM : dM D = dP D) : LandC h a (pL D) ∧ NamC h a (dN D) := by
  obtain ⟨c1, c2, c3, c4, c5, c6, c7, c8, c9⟩ := c
  obtain ⟨o1, o2, o3, -⟩ := o
  refine ⟨⟨c1, c2, c3, c4, fun p hp => ?_, c8.1, c9.1⟩, c7⟩
  have hp : p < dP D := hp
  have h5 := c5 p (by omega)
  have h6 := c6 p (by omega)
  refine ⟨h5.1, h5.2.1, h5.2.2, fun w hw => ?_, fun q hq => ?_⟩
  · have hw : w < dS D := hw
    exact h6.1 w (by omega)
  · have hq : q < dP D := hq
    exact h6.2.1 q (by omega)
end
