theorem RF_scall : (List.range 262).all (fun a => !(Nat.beq (SH a).1 7) || (RF a 4 == some (a + 1) && RF a 5 == some (a + 2) && RF a 6 == some (a + 3) && RF a 7 == some (a + 4) && RF a 8 == some (a + 5) && RF a 9 == some (a + 6) && SH a == (7, 11) && SH (a + 1) == (11, 6) && SH (a + 2) == (11, 6) && SH (a + 3) == (11, 6) && SH (a + 4) == (11, 6) && SH (a + 5) == (11, 4) && SH (a + 6) == (11, 5))) = true := by decide +kernel
/-- a scene's number -/
def Sc (a : Nat) : Prop := a < 262 ∧ SH a = (7, 11)
theorem Sc.all {a : Nat} (h : Sc a) : (RF a 4 = some (a + 1) ∧ RF a 5 = some (a + 2) ∧ RF a 6 = some (a + 3) ∧ RF a 7 = some (a + 4) ∧ RF a 8 = some (a + 5) ∧ RF a 9 = some (a + 6)) ∧ SH (a + 1) = (11, 6) ∧ SH (a + 2) = (11, 6) ∧ SH (a + 3) = (11, 6) ∧ SH (a + 4) = (11, 6) ∧ SH (a + 5) = (11, 4) ∧ SH (a + 6) = (11, 5) := by
  have := List.all_eq_true.mp RF_scall a (List.mem_range.mpr h.1)
  rw [h.2] at this
  simp only [Nat.beq_refl, Bool.not_true, Bool.false_or, Bool.and_eq_true, beq_iff_eq] at this
  obtain ⟨⟨⟨⟨⟨⟨⟨⟨⟨⟨⟨⟨h1, h2⟩, h3⟩, h4⟩, h5⟩, h6⟩, h7⟩, h8⟩, h9⟩, h10⟩, h11⟩, h12⟩, h13⟩ := this
  exact ⟨⟨h1, h2, h3, h4, h5, h6⟩, h8, h9, h10, h11, h12, h13⟩
section
variable {d : Nat} {Q : Option Value → AH → Prop} {μ pc nx x y kk : Nat} {vv : Value} {lv : AL} {st : List Value} {h : AH} {a m j : Nat} {iv : Int32}
theorem R_gI (e : KT μ pc = some (.getfield kk, nx, 7, y, .int 0)) (hs : Sc a) (w : Rw d Q (μ, nx, lv, .int (hI h a y) :: st, 262, h)) : Rw d Q (μ, pc, lv, .ref a :: st, 262, h) := by
  refine W_c (P := (SH a).1 = 7 ∧ (a < 262 ∨ 1000 ≤ a)) (σ' := (μ, nx, lv, .int (hI h a y) :: st, 262, h)) ?_ ⟨by rw [hs.2], Or.inl hs.1⟩ w
  rw [c1_at e]; rfl
theorem R_gA {r : Nat} (e : KT μ pc = some (.getfield kk, nx, 7, y, .null)) (hs : Sc a) (hr : RF a y = some r) (w : Rw d Q (μ, nx, lv, .ref r :: st, 262, h)) : Rw d Q (μ, pc, lv, .ref a :: st, 262, h) := by
  refine W_c (P := (SH a).1 = 7 ∧ (a < 262 ∨ 1000 ≤ a)) (σ' := (μ, nx, lv, .ref r :: st, 262, h)) ?_ ⟨by rw [hs.2], Or.inl hs.1⟩ w
  rw [c1_at e]
  show (match RF a y with | some b => _ | none => _) = _
  rw [hr]
theorem R_pI {z : Int32} (e : KT μ pc = some (.putfield kk, nx, 7, y, .int 0)) (hs : Sc a) (w : Rw d Q (μ, nx, lv, st, 262, wI h a y z)) : Rw d Q (μ, pc, lv, .int z :: .ref a :: st, 262, h) := by
  refine W_c (P := (SH a).1 = 7 ∧ a < 262 ∧ 7 ≤ 10) (σ' := (μ, nx, lv, st, 262, wI h a y z)) ?_ ⟨by rw [hs.2], hs.1, by decide⟩ w
  rw [c1_at e]; rfl
/-- System.arraycopy of a whole row, or its first n -/
theorem R_cp {b n mb : Nat} {nn : Int32} (e : KT μ pc = some (.invokestatic kk, nx, 998, y, vv)) (hb : SH b = (11, mb)) (ha : SH a = (11, m)) (hn : nn = nI n) (h1 : n ≤ mb) (h2 : n ≤ m) (w : ∀ h', Fr (fun q => Nat.beq q a) h h' → (∀ i, i < n → hI h' a i = hI h b i) → Rw d Q (μ, nx, lv, [], 262, h')) : Rw d Q (μ, pc, lv, [.int nn, .int 0, .ref a, .int 0, .ref b], 262, h) := by
  have r1 := SH_row hb (by omega) (by omega)
  have r2 := SH_row ha (by omega) (by omega)
  subst hn
  have en : (nI n).toNatClampNeg = n := nI_clamp (by omega)
  refine W_c (P := ∃ p q, SH b = (11, p) ∧ SH a = (11, q) ∧ b < 262 ∧ a < 262 ∧ ¬ (0 : Int32) < 0 ∧ ¬ (0 : Int32) < 0 ∧ ¬ nI n < 0 ∧ (0 : Int32).toNatClampNeg + (nI n).toNatClampNeg ≤ p ∧ (0 : Int32).toNatClampNeg + (nI n).toNatClampNeg ≤ q ∧ ([] : List Value) = []) (σ' := (μ, nx, lv, [], 262, cpI h b (0 : Int32).toNatClampNeg a (0 : Int32).toNatClampNeg (nI n).toNatClampNeg)) ?_ ?_ ?_
  · rw [c1_at e]; rfl
  · have z : (0 : Int32).toNatClampNeg = 0 := by decide
    exact ⟨mb, m, hb, ha, r1.1, r2.1, by decide, by decide, nI_pos (by omega), by rw [en, z]; omega, by rw [en, z]; omega, rfl⟩
  · have z : (0 : Int32).toNatClampNeg = 0 := by decide
    rw [en, z]
    refine w _ ((Fr.refl _ h).cp (Nat.beq_refl a)) (fun i hi => ?_)
    show (if a = a then va_cpy (h.1 b) (h.1 a) 0 0 n else h.1 a) i = _
    rw [if_pos rfl]
    unfold va_cpy
    rw [if_pos (by omega)]
    show h.1 b (0 + (i - 0)) = h.1 b i
    rw [Nat.sub_zero, Nat.zero_add]
end
/-- one scene's fields and rows are those of another one -/
def Cop (h' : AH) (a : Nat) (h : AH) (b : Nat) : Prop := (hI h' a 0 = hI h b 0 ∧ hI h' a 1 = hI h b 1 ∧ hI h' a 2 = hI h b 2 ∧ hI h' a 3 = hI h b 3) ∧ (∀ i, i < 6 → hI h' (a + 1) i = hI h (b + 1) i ∧ hI h' (a + 2) i = hI h (b + 2) i ∧ hI h' (a + 3) i = hI h (b + 3) i) ∧ ∀ i, i < 4 → hI h' (a + 5) i = hI h (b + 5) i
theorem Cop.sc {h h' : AH} {a b : Nat} {L : SL} {S : SS} (hO : LandOK L) (c : Cop h' a h b) (hS : SceneC h b L S) : SceneC h' a L S := by
  obtain ⟨⟨c0, c1, c2, c3⟩, c4, c5⟩ := c
  obtain ⟨s0, s1, s2, s3, s4, s5⟩ := hS
  have o3 := hO.2.2.1
  exact ⟨c0.trans s0, c1.trans s1, c2.trans s2, c3.trans s3, fun p hp => ⟨(c4 p (by omega)).1.trans (s4 p hp).1, (c4 p (by omega)).2.1.trans (s4 p hp).2.1, (c4 p (by omega)).2.2.trans (s4 p hp).2.2⟩, fun s hs => (c5 s hs).trans (s5 s hs)⟩
section
variable {d a b : Nat} {h : AH} {L : SL} {S : SS} {Q : Option Value → AH → Prop}
/-- without the laws' piles -/
def xq (b q : Nat) : Bool := Nat.ble b q && Nat.ble q (b + 5)
theorem xq_t {b i : Nat} (hi : i ≤ 5) : xq b (b + i) = true := by
  unfold xq
  rw [Nat.ble_eq_true_of_le (by omega), Nat.ble_eq_true_of_le (by omega)]; rfl
theorem bq_f {a b : Nat} (h : a ≠ b) : Nat.beq a b = false := by
  rw [← Bool.not_eq_true, Nat.beq_eq]; exact h
theorem c_copyButHeard (ha : Sc a) (hb : Sc b) (hd : a + 6 < b ∨ b + 6 < a) (h1 : ∀ h', Cop h' a h b → Fr (xq a) h h' → hI h' a 10 = hI h a 10 → Q none h') : Rc (d + 1) m_X9_copyButHeard [.ref a, .ref b] h Q := by
  obtain ⟨⟨ra1, ra2, ra3, -, ra5, -⟩, sa1, sa2, sa3, -, sa5, -⟩ := ha.all
  obtain ⟨⟨rb1, rb2, rb3, -, rb5, -⟩, sb1, sb2, sb3, -, sb5, -⟩ := hb.all
  refine R_in rfl rfl ?_
  refine R_gs 2 rfl ?_
  refine R_gI rfl (by first | exact ha | exact hb) ?_
  refine R_pI rfl (by first | exact ha | exact hb) ?_
  refine R_gs 10 rfl ?_
  refine R_gI rfl (by first | exact ha | exact hb) ?_
  refine R_pI rfl (by first | exact ha | exact hb) ?_
  refine R_gs 18 rfl ?_
  refine R_gI rfl (by first | exact ha | exact hb) ?_
  refine R_pI rfl (by first | exact ha | exact hb) ?_
  refine R_gs 26 rfl ?_
  refine R_gI rfl (by first | exact ha | exact hb) ?_
  refine R_pI rfl (by first | exact ha | exact hb) ?_
  refine R_gs 33 rfl ?_
  refine R_gA rfl (by first | exact ha | exact hb) (by first | exact ra1 | exact ra2 | exact ra3 | exact ra5 | exact rb1 | exact rb2 | exact rb3 | exact rb5) ?_
  refine R_gs 38 rfl ?_
  refine R_gA rfl (by first | exact ha | exact hb) (by first | exact ra1 | exact ra2 | exact ra3 | exact ra5 | exact rb1 | exact rb2 | exact rb3 | exact rb5) ?_
  refine R_gs 44 rfl ?_
  refine R_cp rfl sb1 sa1 (n := 6) rfl (by omega) (by omega) (fun g1 f1 e1 => ?_)
  refine R_gs 48 rfl ?_
  refine R_gA rfl (by first | exact ha | exact hb) (by first | exact ra1 | exact ra2 | exact ra3 | exact ra5 | exact rb1 | exact rb2 | exact rb3 | exact rb5) ?_
  refine R_gs 53 rfl ?_
  refine R_gA rfl (by first | exact ha | exact hb) (by first | exact ra1 | exact ra2 | exact ra3 | exact ra5 | exact rb1 | exact rb2 | exact rb3 | exact rb5) ?_
  refine R_gs 59 rfl ?_
  refine R_cp rfl sb2 sa2 (n := 6) rfl (by omega) (by omega) (fun g2 f2 e2 => ?_)
  refine R_gs 63 rfl ?_
  refine R_gA rfl (by first | exact ha | exact hb) (by first | exact ra1 | exact ra2 | exact ra3 | exact ra5 | exact rb1 | exact rb2 | exact rb3 | exact rb5) ?_
  refine R_gs 68 rfl ?_
  refine R_gA rfl (by first | exact ha | exact hb) (by first | exact ra1 | exact ra2 | exact ra3 | exact ra5 | exact rb1 | exact rb2 | exact rb3 | exact rb5) ?_
  refine R_gs 74 rfl ?_
  refine R_cp rfl sb3 sa3 (n := 6) rfl (by omega) (by omega) (fun g3 f3 e3 => ?_)
  refine R_gs 78 rfl ?_
  refine R_gA rfl (by first | exact ha | exact hb) (by first | exact ra1 | exact ra2 | exact ra3 | exact ra5 | exact rb1 | exact rb2 | exact rb3 | exact rb5) ?_
  refine R_gs 83 rfl ?_
  refine R_gA rfl (by first | exact ha | exact hb) (by first | exact ra1 | exact ra2 | exact ra3 | exact ra5 | exact rb1 | exact rb2 | exact rb3 | exact rb5) ?_
  refine R_gs 88 rfl ?_
  refine R_cp rfl sb5 sa5 (n := 4) rfl (by omega) (by omega) (fun g4 f4 e4 => ?_)
  refine W_f rfl (by first | rfl | exact ⟨rfl, by first | decide | assumption | exact Or.inl rfl | exact Or.inr rfl | exact b2i_01 _⟩) ?_
  skip
  have F1 := f1.mono (Y := xq a) (fun q hq => by have := Nat.eq_of_beq_eq_true hq; subst this; exact xq_t (by omega))
  have F2 := f2.mono (Y := xq a) (fun q hq => by have := Nat.eq_of_beq_eq_true hq; subst this; exact xq_t (by omega))
  have F3 := f3.mono (Y := xq a) (fun q hq => by have := Nat.eq_of_beq_eq_true hq; subst this; exact xq_t (by omega))
  have F4 := f4.mono (Y := xq a) (fun q hq => by have := Nat.eq_of_beq_eq_true hq; subst this; exact xq_t (by omega))
  have xa := xq_t (b := a) (i := 0) (by omega)
  rw [Nat.add_zero] at xa
  have ea : ∀ k, hI g4 a k = hI g1 a k := fun k => by rw [f4.I (bq_f (by omega)), f3.I (bq_f (by omega)), f2.I (bq_f (by omega))]
  have eg : ∀ k, hI g1 a k = hI (wI (wI (wI (wI h a 0 (hI h b 0)) a 1 (hI (wI h a 0 (hI h b 0)) b 1)) a 2 (hI (wI (wI h a 0 (hI h b 0)) a 1 (hI (wI h a 0 (hI h b 0)) b 1)) b 2)) a 3 (hI (wI (wI (wI h a 0 (hI h b 0)) a 1 (hI (wI h a 0 (hI h b 0)) b 1)) a 2 (hI (wI (wI h a 0 (hI h b 0)) a 1 (hI (wI h a 0 (hI h b 0)) b 1)) b 2)) b 3)) a k := fun k => by rw [f1.I (bq_f (by omega))]
  have wne : ∀ (h : AH) k v b', b' ≠ a → hI (wI h a k v) b' = hI h b' := fun h k v b' hne => wI_ne h k v hne
  refine h1 _ ⟨⟨?_, ?_, ?_, ?_⟩, fun i hi => ⟨?_, ?_, ?_⟩, fun i hi => ?_⟩ (((((((Fr.refl _ h).wI xa).wI xa).wI xa).wI xa).trans F1 |>.trans F2 |>.trans F3).trans F4) ?_
  · rw [ea, eg, wI_at, if_neg (by omega), wI_at, if_neg (by omega), wI_at, if_neg (by omega), wI_at, if_pos rfl]
  · rw [ea, eg, wI_at, if_neg (by omega), wI_at, if_neg (by omega), wI_at, if_pos rfl, wne _ _ _ _ (by omega)]
  · rw [ea, eg, wI_at, if_neg (by omega), wI_at, if_pos rfl, wne _ _ _ _ (by omega), wne _ _ _ _ (by omega)]
  · rw [ea, eg, wI_at, if_pos rfl, wne _ _ _ _ (by omega), wne _ _ _ _ (by omega), wne _ _ _ _ (by omega)]
  · rw [f4.I (bq_f (by omega)), f3.I (bq_f (by omega)), f2.I (bq_f (by omega)), e1 i hi, wne _ _ _ _ (by omega), wne _ _ _ _ (by omega), wne _ _ _ _ (by omega), wne _ _ _ _ (by omega)]
  · rw [f4.I (bq_f (by omega)), f3.I (bq_f (by omega)), e2 i hi, f1.I (bq_f (by omega)), wne _ _ _ _ (by omega), wne _ _ _ _ (by omega), wne _ _ _ _ (by omega), wne _ _ _ _ (by omega)]
  · rw [f4.I (bq_f (by omega)), e3 i hi, f2.I (bq_f (by omega)), f1.I (bq_f (by omega)), wne _ _ _ _ (by omega), wne _ _ _ _ (by omega), wne _ _ _ _ (by omega), wne _ _ _ _ (by omega)]
  · rw [e4 i hi, f3.I (bq_f (by omega)), f2.I (bq_f (by omega)), f1.I (bq_f (by omega)), wne _ _ _ _ (by omega), wne _ _ _ _ (by omega), wne _ _ _ _ (by omega), wne _ _ _ _ (by omega)]
  · rw [ea, eg, wI_at, if_neg (by omega), wI_at, if_neg (by omega), wI_at, if_neg (by omega), wI_at, if_neg (by omega)]
end
