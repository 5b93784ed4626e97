/-! calls by contract; the contracts of all calls -/
def initW : Cond → Bool
  | .code y _ _ r => !(decide (y.name = "<init>")) || r.isNone
  | _ => true
theorem init_all : lw_tbl.all initW = true := by decide +kernel
theorem init_ret {μ : Nat} {cc : ByteArray} {ml : Nat} {rt : Option FieldType} {np own : Nat} (h : (myX μ).name = "<init>") (hM : MMx μ cc ml rt np own) : rt = none := by
  have h1 := List.all_eq_true.mp init_all _ (wAll_tbl hM.2.1)
  have h2 : (!(decide ((myX μ).name = "<init>")) || rt.isNone) = true := h1
  rw [decide_eq_true h] at h2
  cases rt with
  | none => rfl
  | some t => cases h2
theorem OLx_ge : OLx.all (fun q => Nat.ble 990 q.2.2) = true := by decide +kernel
theorem MLk_own : MLk.all (fun q => !(Nat.beq q.2.2.1 4) && (Nat.beq q.2.2.1 0 || Nat.beq q.2.2.1 3 || Nat.beq q.2.2.1 6 || Nat.ble (MOx q.2.2.2 + 1) 11 || Nat.beq (MOx q.2.2.2) 12)) = true := by decide +kernel
theorem or_sm : Cond.sameMethod "SnapWed$Token" "java/lang/Enum" "ordinal" "()I" ∈ wAll := wT3 (i := 17) rfl rfl
theorem or_se : Cond.selects "SnapWed$Token" ⟨"SnapWed$Token", "ordinal", "()I"⟩ (myX m_Jx29ce0_ordinal_8abf5) ∈ wAll := wT3 (i := 19) rfl rfl
theorem or_in : Cond.instanceMethod (myX m_Jx29ce0_ordinal_8abf5) ∈ wAll := wT3 (i := 20) rfl rfl
theorem or_ini : Cond.initialized (myX m_Jx29ce0_ordinal_8abf5).cls ∈ wAll := wT1 (i := 3) rfl rfl
theorem call_kd {own j x a b : Nat} (hq : q_ok x = true) (h : (Nat.beq x 997 || OLx.contains (own, j, x) || MLk.contains (own, j, a, x) || MLk.contains (own, j, b, x)) = true) : MLk.contains (own, j, a, x) = true ∨ MLk.contains (own, j, b, x) = true := by
  have hx : x < 287 := by
    unfold q_ok at hq
    simp only [Bool.and_eq_true] at hq
    exact Nat.le_of_ble_eq_true hq.1.1
  simp only [Bool.or_eq_true] at h
  rcases h with ((h | h) | h) | h
  · have := Nat.eq_of_beq_eq_true h
    omega
  · have := Nat.le_of_ble_eq_true (List.all_eq_true.mp OLx_ge _ (inL h))
    dsimp only at this
    omega
  · exact Or.inl h
  · exact Or.inr h
theorem call_kv {own j x : Nat} (hq : q_ok x = true) (h : (Nat.beq x 997 || MLk.contains (own, j, 1, x) || MLk.contains (own, j, 4, x) || MLk.contains (own, j, 6, x)) = true) : MLk.contains (own, j, 1, x) = true ∨ MLk.contains (own, j, 6, x) = true := by
  have hx : x < 287 := by
    unfold q_ok at hq
    simp only [Bool.and_eq_true] at hq
    exact Nat.le_of_ble_eq_true hq.1.1
  simp only [Bool.or_eq_true] at h
  rcases h with ((h | h) | h) | h
  · have := Nat.eq_of_beq_eq_true h
    omega
  · exact Or.inl h
  · have h2 := List.all_eq_true.mp MLk_own _ (inL h)
    simp at h2
  · exact Or.inr h
section SND
variable {p : Program} {l : Launch} {e : Env} {R : Room} {s : State} {m : MethodId} {args : Array Value} {below : List Frame} {meth : Method} {c : Code} {Qw : State → Prop}
variable {ρ : AR} {G : AG} {μ : Nat} {cc : ByteArray} {ml : Nat} {rt : Option FieldType} {own n0 n' gc gs : Nat} {ad0 : Nat → Nat}
theorem pre_at {ad : Nat → Nat} {av : List Value} {n : Nat} {h : AH} {H : Heap} {locs : List Loc} (hG : G.1 ≤ s.heap.size) (hH : HR ρ G ad n h H) (hV : VR G ad s H) (hS : va_S (Ab G) s.heap H locs) : ∀ U : State, U.heap = H → s.WarmedH U.vm → PreM ρ G ad av n h (av.map (cv ad)).toArray U := by
  intro U hU hW
  refine ⟨rfl, by rw [hU]; exact hH, by rw [hU]; exact hV.warm hW, by rw [hU]; exact Nat.le_trans hG hS.1⟩
theorem recv_at {ad : Nat → Nat} {n : Nat} {h : AH} {H : Heap} {b own' : Nat} (hH : HR ρ G ad n h H) (hV : VR G ad s H) (ho : own' < 11 ∨ own' = 12) (hq : (bif Nat.beq own' 12 || Nat.beq own' 14 then Nat.beq (SH b).1 20 else q_is n b own') = true) : ∃ cellB : Cell, H[ad b]? = some cellB ∧ cellB.vm.isStatics = false ∧ s.vm.findClass (CNx.getD own' "") = some cellB.cls := by
  rcases ho with ho | rfl
  · have e1 : (Nat.beq own' 12 || Nat.beq own' 14) = false := by
      rcases (show own' = 0 ∨ own' = 1 ∨ own' = 2 ∨ own' = 3 ∨ own' = 4 ∨ own' = 5 ∨ own' = 6 ∨ own' = 7 ∨ own' = 8 ∨ own' = 9 ∨ own' = 10 by omega) with rfl | rfl | rfl | rfl | rfl | rfl | rfl | rfl | rfl | rfl | rfl <;> rfl
    rw [e1] at hq
    obtain ⟨h1, h2⟩ := q_is_spec hq
    have hb : b < n := by
      rcases h2 with h2 | h2
      · exact h2
      · have := SH_hi h2
        omega
    have h3 := va_recv hV.1.1 hH.1 (vw_at ho) (obj_at hb h1 ho)
    have e2 : CNx.getD own' "" = (vwX own').1 := cn_vw ho
    rw [e2]
    exact h3
  · have h1 : (SH b).1 = 20 := Nat.eq_of_beq_eq_true hq
    obtain ⟨b1, b2⟩ := SH_20 h1
    obtain ⟨t, rfl⟩ : ∃ t, b = 1000 + t := ⟨b - 1000, by omega⟩
    obtain ⟨cell, g1, g2, g3, -⟩ := (hV.2.2.1 t (by omega)).1
    exact ⟨cell, g1, g2, g3⟩
set_option maxHeartbeats 4000000 in
set_option maxRecDepth 100000 in
theorem sd_k1 (F : FF p s m args meth c R μ cc ml rt own n0 n' gc gs) (hG : G.1 ≤ s.heap.size) {d : Nat} (hd1 : d + 1 ≤ R.frames) (hd2 : 64 * (d + 1) ≤ R.locals) (hSn : Snd l ρ G d) {τ : AS} {P : Prop} {μ' : Nat} {av : List Value} {nq : Nat} {hq : AH} {mk : Option Value → AH → AS} {n1 : Nat} (hs : k1 n' n1 τ = some (P, μ', av, nq, hq, mk)) (hp : P)
    (hC : Cl ρ d μ' av nq hq n1 (fun v h' => WA ρ G p l e R s m args below meth c Qw μ ml n0 n' gc gs ad0 (mk v h'))) : WA ρ G p l e R s m args below meth c Qw μ ml n0 n' gc gs ad0 τ := by
  obtain ⟨μ1, pc, lv, st, n, h⟩ := τ
  intro ad ls H locs hμ hl hH hV hS hn0 hn1 had
  dsimp only at hμ hl hH hn0 hn1 ⊢
  subst hμ
  obtain ⟨hx, hb, hml, hr, hlk, hown, hts, hck, hol, hnm, hfr, hlo, hRc, hRs⟩ := id F
  unfold k1 at hs
  dsimp only at hs
  cases hK : KT μ1 pc with
  | none => rw [hK] at hs; cases hs
  | some q =>
    obtain ⟨i, nx, x, y, v⟩ := q
    rw [hK] at hs
    dsimp only at hs
    obtain ⟨hnx, hd0, hi⟩ := chk_at (hck pc) hK
    cases hqo : q_ok x with
    | false => rw [hqo] at hs; cases hs
    | true =>
      rw [hqo] at hs
      try simp only [Bool.not_true, cond_false] at hs
      obtain ⟨cc', ml', rt', np', own', hMM⟩ := MM_of hqo
      have hnp := np_eq hqo hMM
      have hini : (Cond.initialized (myX x).cls).before args s = true := by
        rw [hMM.1.2.2]
        exact hts _ (IN_at hMM.2.2.1)
      cases i with
      | invokestatic j =>
        obtain ⟨rfl, hd⟩ := hnx rfl
        obtain ⟨xs, rest, rfl, hlen, hs⟩ := q_pop_some hs
        rw [List.append_nil] at hs
        obtain ⟨rfl, e2⟩ := Prod.mk.inj (Option.some.inj hs)
        obtain ⟨rfl, e3⟩ := Prod.mk.inj e2
        obtain ⟨rfl, e4⟩ := Prod.mk.inj e3
        obtain ⟨rfl, e5⟩ := Prod.mk.inj e4
        obtain ⟨rfl, rfl⟩ := Prod.mk.inj e5
        simp only [Bool.and_eq_true] at hp
        obtain ⟨⟨hp1, hp2⟩, hp3⟩ := hp
        have hn1' := Nat.le_of_ble_eq_true hp1
        obtain ⟨hnn, -, hMet⟩ := hSn _ _ _ _ _ _ ad hC
        have hM := hMet _ _ _ _ _ hMM
        have hroom : (rmA d n n1).frames + 1 ≤ R.frames ∧ 8 + (ml' + 11) + (rmA d n n1).locals ≤ R.locals := ⟨hd1, by have h6 := hMM.2.2.2.2.2.1; show 8 + (ml' + 11) + 64 * d ≤ _; omega⟩
        have hfit : gc + (n - n0) + (n1 - n) ≤ R.cells ∧ gs + (sl n - sl n0) + (sl n1 - sl n) ≤ R.slots := by
          have := sl_mono hn0
          have := sl_mono hnn
          have := sl_mono hn1'
          omega
        have hstk : ((xs ++ rest).map (cv ad)) = (xs.reverse.map (cv ad)).reverse ++ rest.map (cv ad) := by
          rw [List.map_append, List.map_reverse, List.reverse_reverse]
        have hcat : ((rest.map (cv ad)).map fun v => v.category).sum ≤ 8 := by rw [q_cat_sum]; exact Nat.le_of_ble_eq_true hp2
        have hlen2 : (xs.reverse.map (cv ad)).length = np' := by rw [List.length_map, List.length_reverse, hlen, hnp]
        rcases call_kd hqo hi with hk | hk
        · obtain ⟨pl, hw⟩ := ml_link hk
          obtain ⟨hw1, hw2⟩ := (Bool.and_eq_true _ _).mp hw
          have hlink : Cond.methodLink (cnX own) j (myX x) ∈ wAll := inAt_in hw1
          have hst : Cond.static (myX x) ∈ wAll := by
            have hw3 : (Nat.beq x m_L_rests || STx.any (fun r => Nat.beq r.1 x && decide (r.2 = myX x))) = true := hw2
            rw [Bool.or_eq_true] at hw3
            rcases hw3 with h9 | h9
            · rw [Nat.eq_of_beq_eq_true h9] at hqo
              exact absurd hqo (by decide)
            · exact any_st h9
          exact sd_back hG (va_runS (As := xs.reverse.map (cv ad)) (rest := rest.map (cv ad)) ⟨hx, hb, hml, hown, hts⟩ hM ⟨callB_of np' hts (good_ws hMM.2.1) rfl rfl rfl hini (hts _ hlink) hMM.2.2.2.2.1 hroom, hts _ hst⟩ ⟨PreM.blind, pre_at hG hH hV hS⟩ rfl hlen2 hl.1 hstk (lv_room hcat) hd hfit) hl hV hS hn0 hnn hn1' had hp3
        · obtain ⟨pl, hw⟩ := ml_link hk
          obtain ⟨hw1, hw2⟩ := (Bool.and_eq_true _ _).mp hw
          have hlink : va_Nw (Cond.methodLinkNest (cnX own) j (myX x) "SnapWed") s := hV.2.1 _ (nsAt_in ((Bool.and_eq_true _ _).mp hw1).1 ((Bool.and_eq_true _ _).mp hw1).2)
          have hst : Cond.static (myX x) ∈ wAll := by
            have hw3 : (Nat.beq x m_L_rests || STx.any (fun r => Nat.beq r.1 x && decide (r.2 = myX x))) = true := hw2
            rw [Bool.or_eq_true] at hw3
            rcases hw3 with h9 | h9
            · rw [Nat.eq_of_beq_eq_true h9] at hqo
              exact absurd hqo (by decide)
            · exact any_st h9
          exact sd_back hG (va_runSN (As := xs.reverse.map (cv ad)) (rest := rest.map (cv ad)) ⟨hx, hb, hml, hown, hts⟩ hM ⟨va_cnB np' hts (good_ws hMM.2.1) rfl rfl rfl hlink hini hMM.2.2.2.2.1 hroom, hts _ hst, trivial⟩ ⟨PreM.blind, pre_at hG hH hV hS⟩ rfl hlen2 hl.1 hstk (lv_room hcat) hd hfit) hl hV hS hn0 hnn hn1' had hp3
      | invokevirtual j =>
        obtain ⟨rfl, hd⟩ := hnx rfl
        obtain ⟨xs, rest, rfl, hlen, hs⟩ := q_pop_some hs
        rw [List.append_nil] at hs
        obtain ⟨rfl, e2⟩ := Prod.mk.inj (Option.some.inj hs)
        obtain ⟨rfl, e3⟩ := Prod.mk.inj e2
        obtain ⟨rfl, e4⟩ := Prod.mk.inj e3
        obtain ⟨rfl, e5⟩ := Prod.mk.inj e4
        obtain ⟨rfl, rfl⟩ := Prod.mk.inj e5
        simp only [Bool.and_eq_true] at hp
        obtain ⟨⟨⟨hp1, hp2⟩, hp3⟩, hp4⟩ := hp
        have hn1' := Nat.le_of_ble_eq_true hp1
        obtain ⟨hnn, -, hMet⟩ := hSn _ _ _ _ _ _ ad hC
        have hM := hMet _ _ _ _ _ hMM
        have hroom : (rmA d n n1).frames + 1 ≤ R.frames ∧ 8 + (ml' + 11) + (rmA d n n1).locals ≤ R.locals := ⟨hd1, by have h6 := hMM.2.2.2.2.2.1; show 8 + (ml' + 11) + 64 * d ≤ _; omega⟩
        have hfit : gc + (n - n0) + (n1 - n) ≤ R.cells ∧ gs + (sl n - sl n0) + (sl n1 - sl n) ≤ R.slots := by
          have := sl_mono hn0
          have := sl_mono hnn
          have := sl_mono hn1'
          omega
        have hcat : ((rest.map (cv ad)).map fun v => v.category).sum ≤ 8 := by rw [q_cat_sum]; exact Nat.le_of_ble_eq_true hp2
        rw [hMM.1.2.1] at hp4
        obtain ⟨av, hav⟩ : ∃ av, av = xs.reverse := ⟨_, rfl⟩
        have hxs : xs = av.reverse := by rw [hav, List.reverse_reverse]
        rw [← hav] at hM hp4
        have hstk0 : ((xs ++ rest).map (cv ad)) = (av.map (cv ad)).reverse ++ rest.map (cv ad) := by
          rw [List.map_append, hxs, List.map_reverse]
        have hlen1 : av.length = NPx x + 1 := by rw [hav, List.length_reverse, hlen]
        rcases av with _ | ⟨w, As⟩
        · simp at hlen1
        cases w with
        | ref b =>
          have hstk : ((xs ++ rest).map (cv ad)) = (As.map (cv ad)).reverse ++ .ref (ad b) :: rest.map (cv ad) := by
            rw [hstk0]
            simp [cv]
          have hlen2 : (As.map (cv ad)).length = np' := by
            rw [List.length_map, hnp]
            simpa using hlen1
          rcases call_kv hqo hi with hk | hk
          · obtain ⟨pl, hw⟩ := ml_link hk
            obtain ⟨hw1, hw2⟩ := (Bool.and_eq_true _ _).mp hw
            have hlink : Cond.methodLink (cnX own) j (myX x) ∈ wAll := inAt_in hw1
            have hw3 : (INx.any (fun r => Nat.beq r.1 x && decide (r.2 = myX x)) && SEx.any (fun r => Nat.beq r.1 x && decide (r.2 = myX x))) = true := hw2
            obtain ⟨hw4, hw5⟩ := (Bool.and_eq_true _ _).mp hw3
            have ho : own' < 11 ∨ own' = 12 := by
              have h2 := List.all_eq_true.mp MLk_own _ (inL hk)
              rw [Bool.and_eq_true] at h2
              have h3 := h2.2
              dsimp only at h3
              rw [hMM.1.2.1] at h3
              simp only [Bool.or_eq_true] at h3
              rcases h3 with (((h3 | h3) | h3) | h3) | h3
              · exact absurd h3 (by decide)
              · exact absurd h3 (by decide)
              · exact absurd h3 (by decide)
              · exact Or.inl (Nat.le_of_ble_eq_true h3)
              · exact Or.inr (Nat.eq_of_beq_eq_true h3)
            have hrec := recv_at hH hV ho hp4
            rw [← hMM.1.2.2] at hrec
            exact sd_back hG (va_runV (As := As.map (cv ad)) (rest := rest.map (cv ad)) ⟨hx, hb, hml, hown, hts⟩ hM ⟨callB_of np' hts (good_ws hMM.2.1) rfl rfl rfl hini (hts _ hlink) hMM.2.2.2.2.1 hroom, hts _ (any_in hw4), hts _ (any_se hw5)⟩ ⟨PreM.blind, hrec, pre_at (av := .ref b :: As) hG hH hV hS⟩ rfl hlen2 hl.1 hstk (lv_room hcat) hd hfit) hl hV hS hn0 hnn hn1' had hp3
          · obtain ⟨pl, hw⟩ := ml_link hk
            obtain ⟨hw1, hw2⟩ := (Bool.and_eq_true _ _).mp hw
            have hxo : x = m_Jx29ce0_ordinal_8abf5 := Nat.eq_of_beq_eq_true hw2
            subst hxo
            have hlink : Cond.methodLink (cnX own) j ⟨"SnapWed$Token", "ordinal", "()I"⟩ ∈ wAll := inAt_in hw1
            have ho14 : own' = 14 := hMM.1.2.1.symm.trans (by decide)
            subst ho14
            have h1 : (SH b).1 = 20 := Nat.eq_of_beq_eq_true hp4
            obtain ⟨b1, b2⟩ := SH_20 h1
            obtain ⟨t, htb⟩ : ∃ t : Nat, (1000 + t : Nat) = b := ⟨Nat.sub b 1000, Nat.add_sub_of_le b1⟩
            subst htb
            obtain ⟨cell, g1, g2, g3, -⟩ := (hV.2.2.1 t (by omega)).1
            have hnp0 : np' = 0 := hnp.trans (by decide)
            refine sd_back hG (va_runU (x := ⟨"SnapWed$Token", "ordinal", "()I"⟩) (C := "SnapWed$Token") (owner := "java/lang/Enum") (As := As.map (cv ad)) (rest := rest.map (cv ad)) ⟨hx, hb, hml, hown, hts⟩ hM (va_cwU np' hts ?_ rfl rfl rfl rfl ⟨by decide, by decide, by rw [hnp0]; decide +kernel⟩ hroom) ⟨PreM.blind, ⟨cell, g1, g2, g3⟩, pre_at (av := .ref (1000 + t) :: As) hG hH hV hS⟩ rfl hlen2 hl.1 hstk (lv_room hcat) hd hfit) hl hV hS hn0 hnn hn1' had hp3
            intro w hw9
            have hwm : w ∈ wAll := by
              unfold va_wsU at hw9
              rcases List.mem_append.mp hw9 with h9 | h9
              · simp only [List.mem_cons, List.not_mem_nil, or_false] at h9
                rcases h9 with rfl | rfl | rfl | rfl | rfl
                · exact hlink
                · exact or_sm
                · exact or_se
                · exact or_in
                · exact or_ini
              · exact (good_ws hMM.2.1 w h9).1
            exact ⟨hwm, wAll_good hwm⟩
        | _ => simp [q_rc] at hp4
      | invokespecial j =>
        obtain ⟨rfl, hd⟩ := hnx rfl
        obtain ⟨xs, rest, rfl, hlen, hs⟩ := q_pop_some hs
        rw [List.append_nil] at hs
        obtain ⟨rfl, e2⟩ := Prod.mk.inj (Option.some.inj hs)
        obtain ⟨rfl, e3⟩ := Prod.mk.inj e2
        obtain ⟨rfl, e4⟩ := Prod.mk.inj e3
        obtain ⟨rfl, e5⟩ := Prod.mk.inj e4
        obtain ⟨rfl, rfl⟩ := Prod.mk.inj e5
        simp only [Bool.and_eq_true] at hp
        obtain ⟨⟨⟨hp1, hp2⟩, hp3⟩, hp4⟩ := hp
        have hn1' := Nat.le_of_ble_eq_true hp1
        obtain ⟨hnn, -, hMet⟩ := hSn _ _ _ _ _ _ ad hC
        have hM := hMet _ _ _ _ _ hMM
        have hroom : (rmA d n n1).frames + 1 ≤ R.frames ∧ 8 + (ml' + 11) + (rmA d n n1).locals ≤ R.locals := ⟨hd1, by have h6 := hMM.2.2.2.2.2.1; show 8 + (ml' + 11) + 64 * d ≤ _; omega⟩
        have hfit : gc + (n - n0) + (n1 - n) ≤ R.cells ∧ gs + (sl n - sl n0) + (sl n1 - sl n) ≤ R.slots := by
          have := sl_mono hn0
          have := sl_mono hnn
          have := sl_mono hn1'
          omega
        have hcat : ((rest.map (cv ad)).map fun v => v.category).sum ≤ 8 := by rw [q_cat_sum]; exact Nat.le_of_ble_eq_true hp2
        rw [hMM.1.2.1] at hp4
        obtain ⟨av, hav⟩ : ∃ av, av = xs.reverse := ⟨_, rfl⟩
        have hxs : xs = av.reverse := by rw [hav, List.reverse_reverse]
        rw [← hav] at hM hp4
        have hstk0 : ((xs ++ rest).map (cv ad)) = (av.map (cv ad)).reverse ++ rest.map (cv ad) := by
          rw [List.map_append, hxs, List.map_reverse]
        have hlen1 : av.length = NPx x + 1 := by rw [hav, List.length_reverse, hlen]
        rcases av with _ | ⟨w, As⟩
        · simp at hlen1
        cases w with
        | ref b =>
          have hstk : ((xs ++ rest).map (cv ad)) = (As.map (cv ad)).reverse ++ .ref (ad b) :: rest.map (cv ad) := by
            rw [hstk0]
            simp [cv]
          have hlen2 : (As.map (cv ad)).length = np' := by
            rw [List.length_map, hnp]
            simpa using hlen1
          rcases call_kd hqo hi with hk | hk
          · obtain ⟨pl, hw⟩ := ml_link hk
            obtain ⟨hw1, hw2⟩ := (Bool.and_eq_true _ _).mp hw
            have hlink : Cond.methodLink (cnX own) j (myX x) ∈ wAll := inAt_in hw1
            have hw3 : (INx.any (fun r => Nat.beq r.1 x && decide (r.2 = myX x)) && decide ((myX x).name = "<init>")) = true := hw2
            obtain ⟨hw4, hw5⟩ := (Bool.and_eq_true _ _).mp hw3
            have hrt : rt' = none := init_ret (of_decide_eq_true hw5) hMM
            subst hrt
            exact sd_back hG (va_runI (As := As.map (cv ad)) (rest := rest.map (cv ad)) ⟨hx, hb, hml, hown, hts⟩ hM ⟨callB_of np' hts (good_ws hMM.2.1) rfl rfl rfl hini (hts _ hlink) hMM.2.2.2.2.1 hroom, of_decide_eq_true hw5, hts _ (any_in hw4)⟩ ⟨PreM.blind, pre_at (av := .ref b :: As) hG hH hV hS⟩ rfl hlen2 hl.1 hstk (lv_room hcat) hd hfit) hl hV hS hn0 hnn hn1' had hp3
          · obtain ⟨pl, hw⟩ := ml_link hk
            obtain ⟨hw1, hw2⟩ := (Bool.and_eq_true _ _).mp hw
            have hlink : va_Nw (Cond.methodLinkNest (cnX own) j (myX x) "SnapWed") s := hV.2.1 _ (nsAt_in ((Bool.and_eq_true _ _).mp hw1).1 ((Bool.and_eq_true _ _).mp hw1).2)
            have hw3 : (INx.any (fun r => Nat.beq r.1 x && decide (r.2 = myX x)) && decide ((myX x).name = "<init>")) = true := hw2
            obtain ⟨hw4, hw5⟩ := (Bool.and_eq_true _ _).mp hw3
            have hrt : rt' = none := init_ret (of_decide_eq_true hw5) hMM
            subst hrt
            exact sd_back hG (va_runIN (As := As.map (cv ad)) (rest := rest.map (cv ad)) ⟨hx, hb, hml, hown, hts⟩ hM ⟨va_cnB np' hts (good_ws hMM.2.1) rfl rfl rfl hlink hini hMM.2.2.2.2.1 hroom, of_decide_eq_true hw5, hts _ (any_in hw4)⟩ ⟨PreM.blind, pre_at (av := .ref b :: As) hG hH hV hS⟩ rfl hlen2 hl.1 hstk (lv_room hcat) hd hfit) hl hV hS hn0 hnn hn1' had hp3
        | _ => simp [q_rc] at hp4
      | _ => simp at hs
end SND
