/-- where the old cells lie -/
def adS (at_ : Nat → Nat) (a0 a1 a2 b : Nat) : Nat → Nat := fun i => if 1000 ≤ i ∧ i < 1038 then at_ (i - 1000) else if i = 1100 then a0 else if i = 1101 then a1 else if i = 1102 then a2 else if i = 1103 then b else 0
theorem adS_t {at_ : Nat → Nat} {a0 a1 a2 b t : Nat} (ht : t < 38) : adS at_ a0 a1 a2 b (1000 + t) = at_ t := by
  unfold adS
  rw [if_pos (by omega), Nat.add_sub_cancel_left]
def clS (c11 c12 c13 c14 c15 c16 c17 : ClassId) : Nat → ClassId := fun k => if k = 11 then c11 else if k = 12 then c12 else if k = 13 then c13 else if k = 14 then c14 else if k = 15 then c15 else if k = 16 then c16 else c17
theorem arr_of {s : State} {c : ClassId} {k : Class} {comp : ClassId} {ty : FieldType} (h1 : s.vm.classes[c]? = some k) (h2 : k.kind = .array comp ty) : ArrOfT s c ty := fun n z => ⟨fun k h => (by cases h), k, h1, comp, h2⟩
theorem oi_of {b L : Nat} {xs : Nat → Int32} {G : AG} {s : State} (h : va_T .int b L (fun j => .int (xs j)) (Ab G) s s.heap) : OI G b L xs s s.heap := by
  obtain ⟨cell, h1, h2, h3, h4, h5, h6, h7⟩ := h
  exact ⟨⟨cell, h1, h2, h3, ⟨h4, h5⟩, h6⟩, h7⟩
set_option maxHeartbeats 4000000 in
set_option maxRecDepth 100000 in
theorem vr_start {p : Program} {s : State} {m : MethodId} {meth : Method} {c : Code} {b L : Nat} {xs : Nat → Int32} (C0 : lw_At p s m meth c b L xs) : ∃ (G : AG) (ad : Nat → Nat), G.1 = s.heap.size ∧ G.2.2.2 = (L, xs) ∧ ad 1103 = b ∧ VR G ad s s.heap ∧ TW0 G s := by
  obtain ⟨hx, hb, hr, hml, hown, hts, hX, hbl, hlocks, hgv, hnam⟩ := id C0
  have hwa : ∀ w ∈ wAll, w.before #[Value.ref b] s = true := fun w hw => hts w (wAll_tbl hw)
  have hA : ∀ a : Nat, a < s.heap.size → ¬ (fun q : Nat => s.heap.size ≤ q) a := fun a ha => Nat.not_le.mpr ha
  have hiT : (Cond.initialized "SnapWed$Token").before #[Value.ref b] s = true := tb_at hts (i := 4) rfl
  -- the classes
  have hD : ∀ ci : Nat, ∃ q : ClassId × (Nat → Nat), ci < 11 → u_Kn s (vwX ci).1 (vwX ci).2.1 (vwX ci).2.2 q.1 q.2 := by
    intro ci
    by_cases h : ci < 11
    · obtain ⟨cC, iS, hK⟩ := u_known hwa (in_all h) (hwa _ (inst_all h))
      exact ⟨(cC, iS), fun _ => hK⟩
    · exact ⟨(0, fun _ => 0), fun q => absurd q h⟩
  obtain ⟨fD, hfD⟩ := Classical.axiomOfChoice hD
  obtain ⟨c11, k11, p11, a11, b11, d11⟩ := Cond.arrayClass_spec (tb_at hts (i := 78) (w := .arrayClass .int) rfl)
  obtain ⟨c12, k12, p12, a12, b12, d12⟩ := Cond.arrayClass_spec (tb_at hts (i := 79) (w := .arrayClass .long) rfl)
  obtain ⟨c13, k13, p13, a13, b13, d13⟩ := Cond.arrayClass_spec (tb_at hts (i := 77) (w := .arrayClass .byte) rfl)
  obtain ⟨c14, k14, p14, a14, b14, d14⟩ := Cond.arrayClass_spec (tb_at hts (i := 1329) (w := .arrayClass .boolean) rfl)
  have hAT := tb_at hts (i := 39) (w := .arrayOver (.object "SnapWed$Token")) rfl
  have hAS := tb_at hts (i := 154) (w := .arrayOver (.object "SnapWed$Scene")) rfl
  have hAM := tb_at hts (i := 229) (w := .arrayOver (.array .int)) rfl
  obtain ⟨p15, c15, k15, f15, -, b15, d15, a15⟩ := Cond.arrayOver_spec hAT
  obtain ⟨p16, c16, k16, f16, -, b16, d16, a16⟩ := Cond.arrayOver_spec hAS
  obtain ⟨cI, c17, k17, f17, a17, b17, d17⟩ := AOm.of hAM
  -- the tokens
  have hT : ∀ t : Nat, ∃ a : Nat, t < 38 → ((tkT t).eval #[Value.ref b] s none [] s = some (.ref a) ∧ va_O "SnapWed$Token" a (fun q => s.heap.size ≤ q) s s.heap ∧ (∀ k, k < 4 → va_OF (tkX.getD k ("", "", "")).1 (tkX.getD k ("", "", "")).2.1 (tkX.getD k ("", "", "")).2.2 (tkF k t) a (fun q => s.heap.size ≤ q) s s.heap) ∧ va_Z "SnapWed$Token" (TKN.getD t "") "LSnapWed$Token;" (.ref a) (fun q => s.heap.size ≤ q) s s.heap) := by
    intro t
    by_cases h : t < 38
    · obtain ⟨a, h2⟩ := tok_start hgv hts hiT hA h
      exact ⟨a, fun _ => h2⟩
    · exact ⟨0, fun q => absurd q h⟩
  obtain ⟨at_, hat⟩ := Classical.axiomOfChoice hT
  -- the rows
  obtain ⟨a0, e0, t0⟩ := va_Tof (N := 38) (f := fun j => .ref (at_ j)) (A := fun q => s.heap.size ≤ q) (by decide) (nf_at hgv (i := 19) (w := .arrayOf (.static "SnapWed$Token" "ALL" "[LSnapWed$Token;") (.object "SnapWed$Token")) rfl) (va_eqt (nf_at hgv (i := 20) (w := .eq (.length (.static "SnapWed$Token" "ALL" "[LSnapWed$Token;")) (.int 38)) rfl)) (fun j hj => eq_ref (nf_at hgv (of_decide_eq_true (List.all_eq_true.mp ta_all j (List.mem_range.mpr hj)))) (hat j hj).1) hA
  obtain ⟨a1, e1, t1⟩ := va_Tof (N := 6) (f := fun j => .int (PAIRS.getD j 0)) (A := fun q => s.heap.size ≤ q) (by decide) (nf_at hgv (i := 182) (w := .arrayOf (.static "SnapWed" "PAIRS_OF" "[I") .int) rfl) (va_eqt (nf_at hgv (i := 183) (w := .eq (.length (.static "SnapWed" "PAIRS_OF" "[I")) (.int 6)) rfl)) (fun j hj => va_eqt (nf_at hgv (of_decide_eq_true (List.all_eq_true.mp pa_all j (List.mem_range.mpr hj))))) hA
  obtain ⟨a2, e2, t2⟩ := va_Tof (N := 38) (f := fun j => .int (SWM.getD j 0)) (A := fun q => s.heap.size ≤ q) (by decide) (nf_at hgv (i := 66) (w := .arrayOf (.static "SnapWed$1" "$SwitchMap$SnapWed$Token" "[I") .int) rfl) (va_eqt (nf_at hgv (i := 67) (w := .eq (.length (.static "SnapWed$1" "$SwitchMap$SnapWed$Token" "[I")) (.int 38)) rfl)) (fun j hj => va_eqt (nf_at hgv (of_decide_eq_true (List.all_eq_true.mp sw_all j (List.mem_range.mpr hj))))) hA
  have z0 : va_Z "SnapWed$Token" "ALL" "[LSnapWed$Token;" (.ref a0) (fun q => s.heap.size ≤ q) s s.heap := va_Zof (tb_at hts (i := 469) rfl) hiT e0 hA
  have z1 : va_Z "SnapWed" "PAIRS_OF" "[I" (.ref a1) (fun q => s.heap.size ≤ q) s s.heap := va_Zof (tb_at hts (i := 764) rfl) (tb_at hts (i := 1) rfl) e1 hA
  have z2 : va_Z "SnapWed$1" "$SwitchMap$SnapWed$Token" "[I" (.ref a2) (fun q => s.heap.size ≤ q) s s.heap := va_Zof (tb_at hts (i := 495) rfl) (tb_at hts (i := 16) rfl) e2 hA
  refine ⟨(s.heap.size, (fun c => (fD c).1, fun c => (fD c).2), clS c11 c12 c13 c14 c15 c16 c17, L, xs), adS at_ a0 a1 a2 b, rfl, rfl, rfl, ⟨⟨⟨fun c q hq => ?_, fun k q hk => ?_⟩, va_AO.of hAT, va_AO.of hAS, AOm.of hAM⟩, fun w hw => va_Nw.of (nest_on (List.mem_filter.mp hw).2) (hts w (List.mem_filter.mp hw).1), ?_⟩, ?_⟩
  · have hlt : c < 11 := (List.getElem?_eq_some_iff.mp hq).1
    rw [vw_at hlt] at hq
    obtain rfl := Option.some.inj hq
    exact hfD c hlt
  · match k, hk with
    | 0, hk => obtain rfl := Option.some.inj hk; exact ⟨arr_of b11 d11, a11⟩
    | 1, hk => obtain rfl := Option.some.inj hk; exact ⟨arr_of b12 d12, a12⟩
    | 2, hk => obtain rfl := Option.some.inj hk; exact ⟨arr_of b13 d13, a13⟩
    | 3, hk => obtain rfl := Option.some.inj hk; exact ⟨arr_of b14 d14, a14⟩
    | 4, hk => obtain rfl := Option.some.inj hk; exact ⟨arr_of b15 d15, k15, p15, b15, d15, f15, a15⟩
    | 5, hk => obtain rfl := Option.some.inj hk; exact ⟨arr_of b16 d16, k16, p16, b16, d16, f16, a16⟩
    | 6, hk => obtain rfl := Option.some.inj hk; exact ⟨arr_of b17 d17, a17⟩
    | k + 7, hk => exact absurd hk (by simp [tysG])
  · refine ⟨fun t ht => ?_, fun t u ht hu e => ?_, fun x hx => ?_, ?_, ?_, ?_, ?_⟩
    · rw [adS_t ht]
      exact ⟨(hat t ht).2.1, (hat t ht).2.2.1⟩
    · rw [adS_t ht, adS_t hu] at e
      have q1 := (hat t ht).2.2.1 3 (by decide)
      have q2 := (hat u hu).2.2.1 3 (by decide)
      rw [← e] at q2
      exact tok_ne ht hu q1 q2
    · rcases hx with hx | hx
      · obtain ⟨t, rfl⟩ : ∃ t, x = 1000 + t := ⟨x - 1000, by omega⟩
        have ht : t < 38 := by omega
        rw [adS_t ht]
        have e9 : slN (1000 + t) = ("SnapWed$Token", TKN.getD t "", "LSnapWed$Token;") := by
          unfold slN
          rw [beq_f (by omega), beq_f (by omega), beq_f (by omega), Nat.add_sub_cancel_left]
          rfl
        rw [e9]
        exact (hat t ht).2.2.2
      · rcases (show x = 1100 ∨ x = 1101 ∨ x = 1102 by omega) with rfl | rfl | rfl
        · exact z0
        · exact z1
        · exact z2
    · obtain ⟨cell, h1, h2, h3, h4, h5, h6, h7⟩ := t0
      refine ⟨⟨cell, h1, h2, h3, ⟨h4, h5⟩, fun j hj => ?_⟩, h7⟩
      rw [adS_t hj]
      exact h6 j hj
    · exact oi_of t1
    · exact oi_of t2
    · obtain ⟨scr, h1, h2, h3, h4, h5⟩ := hX
      refine ⟨⟨scr, h1, h2, h3, ⟨Nat.le_of_eq h4.symm, ?_⟩, h5⟩, Nat.not_le.mpr hbl⟩
      rw [h4]
  · have hl1 := tb_at hts (i := 1110) (w := .laysStatic Bundle.tN "UNASSIGNED_STACK" Bundle.steD) rfl
    have hl2 := tb_at hts (i := 1112) (w := .laysStatic Bundle.tN "SUPPRESSED_SENTINEL" Bundle.listD) rfl
    have hiN := tb_at hts (i := 20) (w := .initialized Bundle.tN) rfl
    have h5 : ∀ (tc : ClassId) (tk : Class) (tb : Nat), s.vm.findClass Bundle.tN = some tc → s.vm.classes[tc]? = some tk → tk.statics = some tb → tb < s.heap.size := by
      intro tc tk tb g1 g2 g3
      obtain ⟨c, k, i, f, a, cell, hc, hi, hst, ha, hcell, -⟩ := Cond.laysStatic_spec hl1
      obtain rfl : c = tc := Option.some.inj (hc.symm.trans g1)
      obtain rfl : k = tk := Option.some.inj ((State.fieldFound?_spec hi).1.symm.trans g2)
      obtain rfl : a = tb := Option.some.inj (ha.symm.trans g3)
      exact (Array.getElem?_eq_some_iff.mp hcell).1
    have s1 := nf_at hgv (i := 327) (w := .exactly (.string "SnapWed" 283) "java/lang/String") rfl
    have s2 := nf_at hgv (i := 345) (w := .exactly (.string "SnapWed" 292) "java/lang/String") rfl
    obtain ⟨v1, -, -, -, r1, -⟩ := Cond.exactly_spec (args := #[Value.ref b]) (first := s) (o := none) (s := s) (idx := []) s1
    obtain ⟨v2, -, -, -, r2, -⟩ := Cond.exactly_spec (args := #[Value.ref b]) (first := s) (o := none) (s := s) (idx := []) s2
    exact ⟨va_Zqof hl1 hiN (nf_at hgv (i := 190) rfl) hA, va_Zqof hl2 hiN (nf_at hgv (i := 191) rfl) hA, ⟨v1, vk_R.of (A := #[Value.ref b]) (tb_at hts (i := 1122) rfl) r1⟩, ⟨v2, vk_R.of (A := #[Value.ref b]) (tb_at hts (i := 1157) rfl) r2⟩, h5,
      ls_moved (G := (s.heap.size, (fun c => (fD c).1, fun c => (fD c).2), clS c11 c12 c13 c14 c15 c16 c17, L, xs)) h5 hl1 (State.WarmedH.refl s) (fun _ _ _ => rfl), ls_moved (G := (s.heap.size, (fun c => (fD c).1, fun c => (fD c).2), clS c11 c12 c13 c14 c15 c16 c17, L, xs)) h5 hl2 (State.WarmedH.refl s) (fun _ _ _ => rfl), va_Nw.of rfl (tb_at hts (i := 1087) rfl), va_Nw.of rfl (tb_at hts (i := 1089) rfl), va_Nw.of rfl (tb_at hts (i := 1091) rfl)⟩
