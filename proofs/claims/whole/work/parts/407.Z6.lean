/-! the class and the model, call by call -/
def Wld (h : AH) : Prop := ∃ L S H B M D T N, RC h L S H B M D T N ∧ RM h L S H B M D T N ∧ WOK L S H B M D T N ∧ NmD N ∧ WrdM h
def Kp (h h1 : AH) : Prop := hI h1 1103 = hI h 1103 ∧ hI h1 1104 = hI h 1104
def TT (μ1 μ2 : Nat) (as : List Value) (h : AH) : Prop := Rc 60 μ1 (.ref 0 :: as) h (fun v h1 => ∃ z, v = some (.int z) ∧ Kp h h1 ∧ ∀ Q : Option Value → AH → Prop, (∀ h2, Kp h h2 → Wld h2 → Q (some (.int z)) h2) → Rc 60 μ2 (.ref 235 :: as) h1 Q)
section
variable {h h1 h2 : AH} {L : SL} {S : SS} {H : SH'} {B : SB'} {M : SM'} {D : SD'} {T : ST'} {N : SN'}
theorem xM_f {q : Nat} (h : q < 235 ∨ q = 240 ∨ 261 < q) : xM q = false := by
  cases e : xM q with
  | false => rfl
  | true =>
    simp only [xM, Bool.and_eq_true, Bool.not_eq_true', Nat.ble_eq] at e
    have e3 : q ≠ 240 := fun z => by rw [z] at e; exact absurd e.2 (by decide)
    omega
theorem xC_f {q : Nat} (h : 234 < q) : xC q = false := by
  cases e : xC q with
  | false => rfl
  | true =>
    simp only [xC, Nat.ble_eq] at e
    omega
theorem RC.frM (hO : LandOK L) (c : RC h L S H B M D T N) (f : Fr xM h h1) : RC h1 L S H B M D T N := by
  obtain ⟨a, g, c1, c2, c3, c4, c5, c6, c7, c8, c9, c10, c11⟩ := c
  have ha := c1.1
  have hg := c1.2.1
  exact ⟨a, g, c1.fr f rfl, c2.fr hO f (fun i h1 h2 => xM_f (by omega)), c3.fr f rfl rfl rfl rfl rfl, c4.fr f rfl rfl, c5.fr f rfl (fun q _ _ => xM_f (by omega)), c6.fr f rfl (fun q _ _ => xM_f (by omega)), c7.fr f (xM_f (by omega)) (xM_f (by omega)) (xM_f (by omega)) (xM_f (by omega)), c8.fr f rfl rfl, c9.fr f (xM_f (by omega)) (xM_f (by omega)) (xM_f (by omega)) (xM_f (by omega)), c10.fr f rfl rfl, c11.fr f rfl⟩
theorem RM.frC (c : RM h L S H B M D T N) (f : Fr xC h h1) : RM h1 L S H B M D T N := c.fr f (fun q h1 h2 => xC_f (by omega))
theorem WrdM.frC (c : WrdM h) (f : Fr xC h h1) : WrdM h1 := fun w hw => by rw [f.J (b := 240) rfl]; exact c w hw
theorem WrdM.frM (c : WrdM h) (f : Fr xM h h1) : WrdM h1 := fun w hw => by rw [f.J (b := 240) rfl]; exact c w hw
theorem Kp.frC (f : Fr xC h h1) : Kp h h1 := ⟨f.I rfl, f.I rfl⟩
theorem Kp.frM (f : Fr xM h h1) : Kp h h1 := ⟨f.I rfl, f.I rfl⟩
theorem Kp.rf (h : AH) : Kp h h := ⟨rfl, rfl⟩
theorem Kp.tr (a : Kp h h1) (b : Kp h1 h2) : Kp h h2 := ⟨b.1.trans a.1, b.2.trans a.2⟩
theorem f0 (h : AH) (z : Int32) : Fr xM h (wI h 235 0 z) := (Fr.refl xM h).wI rfl
theorem RM.thz (c : RM h L S H B M D T N) (z : Int32) : RM (wI h 235 0 z) L S H B M D T N := c.scr ((Fr.refl (fun q => Nat.beq q 235) h).wI rfl) ⟨rfl, rfl, rfl, rfl, rfl, rfl, rfl, rfl, rfl⟩ rfl rfl rfl
/-! what is in order stays so -/
theorem wok_S {S' : SS} (W : WOK L S H B M D T N) (h : SceneOK L S') : WOK L S' H B M D T N := ⟨W.1, h, W.2.2⟩
theorem wok_hand {b : Bool} {S' : SS} (W : WOK L S H B M D T N) (h : b = true → SceneOK L S') : WOK L (if b = true then S' else S) H (bhand b S B) M D T N := by
  unfold bhand
  cases b with
  | false => exact W
  | true => exact wok_S (hput_ok W) (h rfl)
theorem wok_T (W : WOK L S H B M D T N) {T' : ST'} (h : TapOK T') : WOK L S H B M D T' N := ⟨W.1, W.2.1, W.2.2.1, W.2.2.2.1, W.2.2.2.2.1, W.2.2.2.2.2.1, h, W.2.2.2.2.2.2.2⟩
theorem tap0 (f : Nat → Nat) : TapOK (0, f) := ⟨Nat.zero_le _, fun i hi => absurd hi (Nat.not_lt_zero i)⟩
theorem ok_say (W : WOK L S H B M D T N) {p w : Int32} : WOK L (if (inN p (lP L) && inN w (lS L)) = true then setY S p.toNatClampNeg w else S) H (bhand (inN p (lP L) && inN w (lS L)) S B) M D T N := by
  refine wok_hand W (fun e => setY_ok W.2.1 (Or.inr ?_))
  obtain ⟨k, hk, rfl⟩ := inN_of (by have := W.1.1; omega) ((Bool.and_eq_true _ _).mp e).2
  exact ⟨k, hk, rfl⟩
theorem ok_hush (W : WOK L S H B M D T N) {p : Int32} : WOK L (if inN p (lP L) = true then setY S p.toNatClampNeg (-1) else S) H (bhand (inN p (lP L)) S B) M D T N := wok_hand W (fun _ => setY_ok W.2.1 (Or.inl rfl))
theorem ok_walk (W : WOK L S H B M D T N) {p s : Int32} : WOK L (if walkOk L S p s = true then setA S p.toNatClampNeg s.toNatClampNeg else S) H (bhand (walkOk L S p s) S B) M D T N := by
  refine wok_hand W (fun e => setA_ok W.2.1 ?_)
  unfold walkOk at e
  rw [Bool.and_eq_true, Bool.and_eq_true] at e
  obtain ⟨k, hk, rfl⟩ := inN_of (by have := W.1.2.1; omega) e.1.2
  rw [nI_clamp (by have := W.1.2.1; omega)]
  exact hk
theorem ok_moment (W : WOK L S H B M D T N) : WOK L (momS L S) H (hputN B.1, hputS B.1 B.2 S) M D T N := wok_S (hput_ok W) (mom_ok W.1 W.2.1)
theorem ok_part (W : WOK L S H B M D T N) {p q : Int32} : WOK L (if partOk L S p q = true then sepS L S p.toNatClampNeg q.toNatClampNeg else S) H (bhand (partOk L S p q) S B) M D T N := wok_hand W (fun _ => sep_ok W.2.1 _ _)
theorem ok_keep (W : WOK L S H B M D T N) {p q : Int32} : WOK L (if keepOk L S p q = true then setE S (sE S ||| nI (2 ^ pr p.toNatClampNeg q.toNatClampNeg)) else S) H (bhand (keepOk L S p q) S B) M D T N := wok_hand W (fun _ => setE_ok W.2.1 _)
theorem ok_undo (W : WOK L S H B M D T N) : WOK L (if B.1 = 0 then S else B.2 (B.1 - 1)) H (B.1 - 1, B.2) M D T N := by
  obtain ⟨w1, w2, w3, w4, w5⟩ := W
  refine ⟨w1, ?_, w3, ⟨?_, fun k hk => ?_⟩, w5⟩
  · by_cases e : B.1 = 0
    · rw [if_pos e]; exact w2
    · rw [if_neg e]; exact w4.2 _ (by omega)
  · have := w4.1
    show B.1 - 1 ≤ 16
    omega
  · have hk2 : k < B.1 - 1 := hk
    exact w4.2 k (by omega)
theorem ok_hear (W : WOK L S H B M D T N) {x : Int32} : WOK L S (if hrOk L H x = true then hrAdd H x else H) B M D T N := by
  obtain ⟨w1, w2, w3, w4⟩ := W
  refine ⟨w1, w2, ?_, w4⟩
  by_cases e : hrOk L H x = true
  · rw [if_pos e]
    unfold hrOk at e
    rw [Bool.and_eq_true, Bool.or_eq_true, Bool.not_eq_true', decide_eq_false_iff_not] at e
    obtain ⟨e1, e2⟩ := e
    have h5 := w3.1
    refine ⟨by show H.1 + 1 ≤ 5; omega, fun i hi => ?_⟩
    show SayOK L (if i = H.1 then x else H.2 i)
    have hi2 : i < H.1 + 1 := hi
    by_cases e3 : i = H.1
    · rw [if_pos e3]
      rcases e1 with e1 | e1
      · exact Or.inl (of_decide_eq_true e1)
      · obtain ⟨k, hk, rfl⟩ := inN_of (by have := w1.1; omega) e1
        exact Or.inr ⟨k, hk, rfl⟩
    · rw [if_neg e3]
      exact w3.2 i (by omega)
  · rw [if_neg e]
    exact w3
theorem ok_mark (W : WOK L S H B M D T N) {m z : Int32} : WOK L (mkS M S m z) (mkH M H m z) (mkB M B m z) (mkM M S H m z) D T N := by
  obtain ⟨w1, w2, w3, w4, w5, w6⟩ := W
  by_cases e : mkOk M m z = true
  · have e1 := e
    unfold mkOk at e1
    rw [Bool.and_eq_true] at e1
    obtain ⟨k, hk, rfl⟩ := inN_of (by decide) e1.1
    by_cases e2 : z = 0
    · unfold mkS mkH mkB mkM
      rw [if_neg (fun q => q.2 e2), if_neg (fun q => q.2 e2), if_neg (fun q => q.2 e2), if_pos ⟨e, e2⟩]
      refine ⟨w1, w2, w3, w4, fun i hi U hU => ?_, w6⟩
      dsimp only at hU
      by_cases e3 : i = (nI k).toNatClampNeg
      · rw [if_pos e3] at hU
        obtain rfl := Option.some.inj hU
        exact ⟨w2, w3⟩
      · rw [if_neg e3] at hU
        exact w5 i hi U hU
    · unfold mkS mkH mkB mkM
      rw [if_pos ⟨e, e2⟩, if_pos ⟨e, e2⟩, if_pos ⟨e, e2⟩, if_neg (fun q => e2 q.2)]
      rw [nI_clamp (by omega)]
      cases hm : M k with
      | none => exact ⟨w1, w2, w3, ⟨Nat.zero_le _, fun k hk => absurd hk (Nat.not_lt_zero k)⟩, w5, w6⟩
      | some U =>
        obtain ⟨u1, u2⟩ := w5 k hk U hm
        exact ⟨w1, u1, u2, ⟨Nat.zero_le _, fun k hk => absurd hk (Nat.not_lt_zero k)⟩, w5, w6⟩
  · unfold mkS mkH mkB mkM
    rw [if_neg (fun q => e q.1), if_neg (fun q => e q.1), if_neg (fun q => e q.1), if_neg (fun q => e q.1)]
    exact ⟨w1, w2, w3, w4, w5, w6⟩
theorem ok_feed (W : WOK L S H B M D T N) {x y z : Int64} : WOK L S H B M D (fed3 T x y z) N := wok_T W (fed_I (fed_I (fed_I W.2.2.2.2.2.2.1 x 8) y 8) z 8)
theorem ok_day (W : WOK L S H B M D T N) : WOK L S H B M (if dyF T N = 0 then dyD T N else D) (0, T.2) N := by
  refine wok_T (T := T) ?_ (tap0 _)
  obtain ⟨w1, w2, w3, w4, w5, w6, w7⟩ := W
  refine ⟨w1, w2, w3, w4, w5, ?_, w7⟩
  by_cases e : dyF T N = 0
  · rw [if_pos e]
    exact dayA_D w7.2 (w7.2.nm w1)
  · rw [if_neg e]
    exact w6
theorem ok_prov (W : WOK L S H B M D T N) (hf : pvF T = 0) : WOK (pvL T) (begS (pvL T)) (0, H.2) (0, B.2) (fun _ => none) (0, D.2) (0, T.2) (pvN T) ∧ NmD (pvN T) := by
  have tO := W.2.2.2.2.2.2.1
  obtain ⟨p1, p2⟩ := pv_ok tO hf
  obtain ⟨i1, i2, i3, i4⟩ := prvA_I (tok_ok tO)
  exact ⟨⟨p1, beg_ok p1, ⟨Nat.zero_le _, fun k hk => absurd hk (Nat.not_lt_zero k)⟩, ⟨Nat.zero_le _, fun k hk => absurd hk (Nat.not_lt_zero k)⟩, fun m _ U hU => (by cases hU), ⟨Nat.zero_le _, fun k hk => absurd hk (Nat.not_lt_zero k)⟩, tap0 _, p2⟩, i2.nd⟩
end
