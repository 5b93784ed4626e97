set_option maxHeartbeats 8000000 in
set_option maxRecDepth 100000 in
theorem e1_s {C ih : GS → Option GR} {d : Nat} (I : SG C d) (J : SG ih (d + 1)) : SG (e1 C ih) (d + 1) := by
  intro μ pc lv st n g r n1 g1 h
  cases hK : KT μ pc with
  | none =>
    have h0 : (match KT μ pc with | none => none | some (i, nx, x, y, v) => e1i C ih μ lv st n g i nx x y v) = some (r, n1, g1) := h
    rw [hK] at h0
    cases h0
  | some q =>
    obtain ⟨i, nx, x, y, v⟩ := q
    have h0 : (match KT μ pc with | none => none | some (i, nx, x, y, v) => e1i C ih μ lv st n g i nx x y v) = some (r, n1, g1) := h
    rw [hK] at h0
    dsimp only at h0
    clear h
    unfold e1i at h0
    split at h0
    · -- getfield
      split at h0
      · obtain ⟨hb, h0⟩ := bif_t h0
        rw [Bool.and_eq_true, Bool.and_eq_true] at hb
        obtain ⟨⟨b1, b2⟩, b3⟩ := hb
        have ha := Nat.le_of_ble_eq_true b2
        have hx := Nat.le_of_ble_eq_true b3
        have h20 : Nat.beq x 20 = false := beq_f (by omega)
        split at h0
        · rw [fI_eq] at h0
          obtain ⟨k1, k2⟩ := J _ _ _ _ _ _ _ _ _ h0
          refine ⟨k1, fun B hB Q hQ => W_s ?_ (k2 B hB Q hQ)⟩
          rw [z_s1 hK]
          simp only [s1i, b1, cond_true, q_get, h20, cond_false]
          rw [den_I hB (by omega)]
        · split at h0
          · rename_i b eb
            obtain ⟨k1, k2⟩ := J _ _ _ _ _ _ _ _ _ h0
            refine ⟨k1, fun B hB Q hQ => W_s ?_ (k2 B hB Q hQ)⟩
            rw [z_s1 hK]
            simp only [s1i, b1, cond_true, q_get, h20, cond_false, ρ0]
            rw [den_R hB (by omega), eb]
            rfl
          · cases h0
        · cases h0
      · cases h0
    · -- putfield
      split at h0
      · rename_i z a st2
        obtain ⟨hb, h0⟩ := bif_t h0
        rw [Bool.and_eq_true, Bool.and_eq_true] at hb
        obtain ⟨⟨b1, b2⟩, b3⟩ := hb
        split at h0
        · obtain ⟨k1, k2⟩ := J _ _ _ _ _ _ _ _ _ h0
          refine ⟨k1, fun B hB Q hQ => W_s ?_ (k2 B hB Q hQ)⟩
          rw [z_s1 hK]
          simp only [s1i, b1, b3, Bool.and_true, cond_true, q_set]
          rw [den_wI]
        · obtain ⟨hz1, h0⟩ := bif_t h0
          obtain ⟨k1, k2⟩ := J _ _ _ _ _ _ _ _ _ h0
          have hq := q_is_spec b1
          have ha := Nat.le_of_ble_eq_true b2
          have han : a < n := by
            rcases hq.2 with h | h
            · exact h
            · omega
          refine ⟨k1, fun B hB Q hQ => W_c ((z_c1 hK).trans rfl) ⟨hq.1, han, Nat.le_of_ble_eq_true b3, of_decide_eq_true hz1⟩ ?_⟩
          rw [den_wI]
          exact k2 B hB Q hQ
        · cases h0
      · obtain ⟨hb, h0⟩ := bif_t h0
        rw [Bool.and_eq_true, Bool.and_eq_true, Bool.and_eq_true] at hb
        obtain ⟨⟨⟨b1, b2⟩, b3⟩, b4⟩ := hb
        split at h0
        · obtain ⟨k1, k2⟩ := J _ _ _ _ _ _ _ _ _ h0
          refine ⟨k1, fun B hB Q hQ => W_s ?_ (k2 B hB Q hQ)⟩
          rw [z_s1 hK]
          simp only [s1i, b1, b3, Bool.and_true, cond_true, q_set, ρ0, b4, Bool.or_true]
          rw [den_wR]
        · cases h0
      · cases h0
    · -- iaload
      split at h0
      · rename_i j a st2
        obtain ⟨hb, h0⟩ := bif_t h0
        rw [fI_eq] at h0
        obtain ⟨k1, k2⟩ := J _ _ _ _ _ _ _ _ _ h0
        refine ⟨k1, fun B hB Q hQ => W_c ((z_c1 hK).trans rfl) (Or.inl (okI_at hb).1) ?_⟩
        rw [den_I hB (okI_at hb).2]
        exact k2 B hB Q hQ
      · cases h0
    · -- iastore
      split at h0
      · obtain ⟨hb, h0⟩ := bif_t h0
        rw [fN_eq] at h0
        obtain ⟨k1, k2⟩ := J _ _ _ _ _ _ _ _ _ h0
        refine ⟨k1, fun B hB Q hQ => W_c ((z_c1 hK).trans rfl) (okI_at hb).1 ?_⟩
        rw [den_wI]
        exact k2 B hB Q hQ
      · cases h0
    · -- lastore
      split at h0
      · obtain ⟨hb, h0⟩ := bif_t h0
        rw [fN_eq] at h0
        obtain ⟨k1, k2⟩ := J _ _ _ _ _ _ _ _ _ h0
        refine ⟨k1, fun B hB Q hQ => W_c ((z_c1 hK).trans rfl) (okI_at hb).1 ?_⟩
        rw [den_wJ]
        exact k2 B hB Q hQ
      · cases h0
    · -- bastore
      split at h0
      · rename_i z j a st2
        obtain ⟨hb, h0⟩ := bif_t h0
        rw [fN_eq, fI_eq] at h0
        obtain ⟨k1, k2⟩ := J _ _ _ _ _ _ _ _ _ h0
        obtain ⟨⟨m, e1, e2, e3⟩, -⟩ := okI_at hb
        refine ⟨k1, fun B hB Q hQ => W_c (P := aAt 14 a n j) (σ' := (μ, nx, lv, st2, n, wI (den B g) a j.toNatClampNeg (vp_nar .boolean z))) ?_ ⟨m, e1, e2, e3⟩ ?_⟩
        · rw [z_c1 hK]
          simp only [c1i]
          rw [show Nat.beq (SH a).1 13 = false by rw [e1]; rfl]
          rfl
        · rw [den_wI]
          exact k2 B hB Q hQ
      · cases h0
    · -- aastore
      split at h0
      · obtain ⟨hb, h0⟩ := bif_t h0
        rw [Bool.and_eq_true, Bool.and_eq_true] at hb
        rw [fN_eq] at h0
        obtain ⟨k1, k2⟩ := J _ _ _ _ _ _ _ _ _ h0
        refine ⟨k1, fun B hB Q hQ => W_c ((z_c1 hK).trans rfl) ⟨rfl, Or.inr ⟨(okI_at hb.1.1).1, Nat.eq_of_beq_eq_true hb.1.2, Nat.le_of_ble_eq_true hb.2⟩⟩ ?_⟩
        rw [den_wR]
        exact k2 B hB Q hQ
      · cases h0
    · -- arraylength
      split at h0
      · obtain ⟨hb, h0⟩ := bif_t h0
        rw [Bool.and_eq_true] at hb
        obtain ⟨k1, k2⟩ := J _ _ _ _ _ _ _ _ _ h0
        exact ⟨k1, fun B hB Q hQ => W_c ((z_c1 hK).trans rfl) (Or.inl ⟨Nat.eq_of_beq_eq_true hb.1, Nat.le_of_ble_eq_true hb.2⟩) (k2 B hB Q hQ)⟩
      · cases h0
    · -- idiv
      split at h0
      · rename_i b a st2
        by_cases hb : b = 0
        · rw [decide_eq_true hb] at h0
          cases h0
        · rw [decide_eq_false hb, cond_false, fI_eq] at h0
          obtain ⟨k1, k2⟩ := J _ _ _ _ _ _ _ _ _ h0
          exact ⟨k1, fun B hB Q hQ => W_c ((z_c1 hK).trans rfl) hb (k2 B hB Q hQ)⟩
      · cases h0
    · -- new
      obtain ⟨hb, h0⟩ := bif_t h0
      rw [fN_eq] at h0
      obtain ⟨k1, k2⟩ := J _ _ _ _ _ _ _ _ _ h0
      simp only [newOK, Bool.and_eq_true, decide_eq_true_eq] at hb
      obtain ⟨⟨⟨⟨b1, b2⟩, b3⟩, b4⟩, b5⟩ := hb
      have hn := Nat.le_of_ble_eq_true b1
      refine ⟨by omega, fun B hB Q hQ => W_c ((z_c1 hK).trans rfl) ⟨by omega, by omega, b2, Nat.le_of_ble_eq_true b5, ⟨fun _ _ => rfl, fun _ => rfl⟩, by rw [b3.1, b3.2]; rfl⟩ ?_⟩
      rw [den_zH hB b4 (by omega)]
      exact k2 B hB Q hQ
    · -- newarray
      split at h0
      · obtain ⟨hb, h0⟩ := bif_t h0
        rw [fN_eq] at h0
        obtain ⟨k1, k2⟩ := J _ _ _ _ _ _ _ _ _ h0
        simp only [newOK, Bool.and_eq_true, decide_eq_true_eq, Bool.not_eq_true', decide_eq_false_iff_not] at hb
        obtain ⟨⟨⟨⟨⟨b1, b2⟩, b3⟩, b4⟩, b5⟩, b6⟩ := hb
        have hn := Nat.le_of_ble_eq_true b1
        refine ⟨by omega, fun B hB Q hQ => W_c ((z_c1 hK).trans rfl) ⟨by omega, by omega, b2, b5, Nat.le_of_ble_eq_true b6, ⟨fun _ _ => rfl, fun _ => rfl⟩, by rw [b3.1, b3.2]; rfl⟩ ?_⟩
        rw [den_zH hB b4 (by omega)]
        exact k2 B hB Q hQ
      · cases h0
    · -- anewarray
      split at h0
      · obtain ⟨hb, h0⟩ := bif_t h0
        rw [fN_eq] at h0
        obtain ⟨k1, k2⟩ := J _ _ _ _ _ _ _ _ _ h0
        simp only [newOK, Bool.and_eq_true, Bool.or_eq_true, decide_eq_true_eq, Bool.not_eq_true', decide_eq_false_iff_not] at hb
        obtain ⟨⟨⟨⟨⟨⟨b1, b2⟩, b3⟩, b4⟩, b5⟩, b6⟩, b7⟩ := hb
        have hn := Nat.le_of_ble_eq_true b1
        refine ⟨by omega, fun B hB Q hQ => W_c ((z_c1 hK).trans rfl) ⟨by omega, by omega, b2, b5, Nat.le_of_ble_eq_true b6, b7.imp Nat.eq_of_beq_eq_true Nat.eq_of_beq_eq_true, ⟨fun _ _ => rfl, fun _ => rfl⟩, by rw [b3.1, b3.2]; rfl⟩ ?_⟩
        rw [den_zH hB b4 (by omega)]
        exact k2 B hB Q hQ
      · cases h0
    · -- multianewarray
      split at h0
      · rename_i k m st2
        obtain ⟨hb, h0⟩ := bif_t h0
        rw [fN_eq] at h0
        obtain ⟨k1, k2⟩ := J _ _ _ _ _ _ _ _ _ h0
        rw [Bool.and_eq_true, Bool.and_eq_true, Bool.and_eq_true, Bool.and_eq_true, Bool.and_eq_true, Bool.and_eq_true] at hb
        obtain ⟨⟨⟨⟨⟨⟨b0, b1⟩, b2⟩, b3⟩, b4⟩, b5⟩, b6⟩ := hb
        obtain rfl := of_decide_eq_true b1
        have hn := Nat.le_of_ble_eq_true b4
        simp only [newOK, Bool.and_eq_true, decide_eq_true_eq] at b0
        rw [Bool.not_eq_true', decide_eq_false_iff_not] at b2
        have e6 : (6 : Int32).toNatClampNeg = 6 := by decide
        refine ⟨by omega, fun B hB Q hQ => W_c ((z_c1 hK).trans rfl) ⟨by rw [e6]; omega, by rw [e6]; omega, by rw [e6]; exact b0.1.1.2, by decide, b2, by rw [e6]; decide, Nat.le_of_ble_eq_true b3, fun j hj => ?_, ⟨fun _ _ => rfl, fun _ => rfl⟩, by rw [b0.1.2.1, b0.1.2.2]; rfl⟩ ?_⟩
        · rw [e6] at hj
          exact of_decide_eq_true (List.all_eq_true.mp b5 j (List.mem_range.mpr hj))
        · rw [e6]
          have e7 := den_six hB b6 (by omega)
          rw [e7]
          exact k2 B hB Q hQ
      · cases h0
    · -- invokestatic
      have hxf : ¬ Nat.beq x 998 = true → Nat.beq x 998 = false := fun hx => by
        cases e : Nat.beq x 998 with
        | false => rfl
        | true => exact absurd e hx
      by_cases hx : Nat.beq x 998 = true
      · rw [hx, cond_true] at h0
        split at h0
        · rename_i m dp dd sp a
          obtain ⟨hb, h0⟩ := bif_t h0
          simp only [Bool.and_eq_true, Bool.not_eq_true', decide_eq_false_iff_not] at hb
          obtain ⟨⟨⟨⟨⟨⟨⟨⟨⟨⟨⟨b1, b2⟩, b3⟩, b4⟩, b5⟩, b6⟩, b7⟩, b8⟩, b9⟩, b10⟩, b11⟩, b12⟩ := hb
          have ha := Nat.le_of_ble_eq_true b5
          have hd := Nat.le_of_ble_eq_true b6
          obtain ⟨k1, k2⟩ := J _ _ _ _ _ _ _ _ _ h0
          refine ⟨k1, fun B hB Q hQ => W_c (P := (∃ p q, SH a = (11, p) ∧ SH dd = (11, q) ∧ a < n ∧ dd < n ∧ ¬ sp < 0 ∧ ¬ dp < 0 ∧ ¬ m < 0 ∧ sp.toNatClampNeg + m.toNatClampNeg ≤ p ∧ dp.toNatClampNeg + m.toNatClampNeg ≤ q ∧ ([] : List Value) = [])) (σ' := (μ, nx, lv, [], n, cpI (den B g) a sp.toNatClampNeg dd dp.toNatClampNeg m.toNatClampNeg)) ?_ ⟨(SH a).2, (SH dd).2, Prod.ext (Nat.eq_of_beq_eq_true b1) rfl, Prod.ext (Nat.eq_of_beq_eq_true b2) rfl, Nat.le_of_ble_eq_true b3, Nat.le_of_ble_eq_true b4, b7, b8, b9, Nat.le_of_ble_eq_true b10, Nat.le_of_ble_eq_true b11, rfl⟩ ?_⟩
          · rw [z_c1 hK]
            simp only [c1i]
            rw [hx]
            rfl
          · rw [den_cp hB (by rw [Bool.and_eq_true]; exact b12) (by omega) (by omega)]
            exact k2 B hB Q hQ
        · cases h0
      · rw [hxf hx, cond_false] at h0
        obtain ⟨args, st2, h1, h2⟩ := q_pop_st h0
        refine gcl_s I J h1 (fun hh n2 hq => ?_)
        show (match KT μ pc with | none => none | some (i, nx, x, _, _) => _) = _
        rw [hK]
        dsimp only
        rw [hq]
        simp only [Bool.not_true, cond_false]
        rw [h2]
        simp only [Bool.and_true]
    · -- invokevirtual
      obtain ⟨args, st2, h1, h2⟩ := q_pop_st h0
      refine gcl_s I J h1 (fun hh n2 hq => ?_)
      show (match KT μ pc with | none => none | some (i, nx, x, _, _) => _) = _
      rw [hK]
      dsimp only
      rw [hq]
      simp only [Bool.not_true, cond_false]
      rw [h2]
    · -- invokespecial
      have hxf : ¬ Nat.beq x 999 = true → Nat.beq x 999 = false := fun hx => by
        cases e : Nat.beq x 999 with
        | false => rfl
        | true => exact absurd e hx
      by_cases hx : Nat.beq x 999 = true
      · rw [hx, cond_true] at h0
        exact go1_s hK rfl J h0
      · rw [hxf hx, cond_false] at h0
        obtain ⟨args, st2, h1, h2⟩ := q_pop_st h0
        refine gcl_s I J h1 (fun hh n2 hq => ?_)
        show (match KT μ pc with | none => none | some (i, nx, x, _, _) => _) = _
        rw [hK]
        dsimp only
        rw [hq]
        simp only [Bool.not_true, cond_false]
        rw [h2]
    · -- ireturn
      split at h0
      · rename_i z
        obtain ⟨hb, h0⟩ := bif_t h0
        obtain ⟨rfl, e2⟩ := Prod.mk.inj (Option.some.inj h0)
        obtain ⟨rfl, rfl⟩ := Prod.mk.inj e2
        refine ⟨Nat.le_refl _, fun B hB Q hQ => ?_⟩
        cases hx : Nat.beq x 0 with
        | true => exact W_f (by show (match KT μ pc with | none => none | some (i, _, x, _, _) => _) = _; rw [hK]; dsimp only; rw [hx]; rfl) rfl hQ
        | false =>
          rw [hx, Bool.false_or] at hb
          exact W_f (P := n = n ∧ (z = 0 ∨ z = 1)) (by show (match KT μ pc with | none => none | some (i, _, x, _, _) => _) = _; rw [hK]; dsimp only; rw [hx]; rfl) ⟨rfl, of_decide_eq_true hb⟩ hQ
      · cases h0
    · -- return
      split at h0
      · obtain ⟨rfl, e2⟩ := Prod.mk.inj (Option.some.inj h0)
        obtain ⟨rfl, rfl⟩ := Prod.mk.inj e2
        exact ⟨Nat.le_refl _, fun B hB Q hQ => W_f (by show (match KT μ pc with | none => none | some (i, _, x, _, _) => _) = _; rw [hK]) rfl hQ⟩
      · cases h0
    · -- ifCond
      split at h0
      · split at h0 <;> exact br_s J h0 (fun hh => by rw [z_b1 hK]; rfl)
      · cases h0
    · -- if_icmp
      split at h0
      · split at h0 <;> exact br_s J h0 (fun hh => by rw [z_b1 hK]; rfl)
      · cases h0
    · -- a plain step
      refine go1_s hK ?_ J h0
      unfold noH
      split <;> simp_all
theorem evS_s {C : GS → Option GR} {d : Nat} (I : SG C d) : ∀ f, SG (evS C f) (d + 1)
  | 0 => fun _ _ _ _ _ _ _ _ _ h => by cases h
  | f + 1 => e1_s I (evS_s I f)
theorem evD_s (f : Nat) : ∀ d, SG (evD f d) d
  | 0 => fun _ _ _ _ _ _ _ _ _ h => by cases h
  | d + 1 => evS_s (evD_s f d) f
