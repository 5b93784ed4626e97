section
variable {d : Nat} {h h' : AH} {T : ST'} {K : TKs} {Q : Option Value → AH → Prop}
theorem ad_Y {x : TK} {v : Int64} {s : Int32} (hK : TkM h K) (hs : s = nI (srt x.1)) (h2 : x.1 = 2 → v = lN64 x.2.2.1) (hl : x.2.2.2 ≠ [] → v = lN64 (pkM x.2.2.2)) (h3 : srt x.1 = 3 → v = lN64 (TKv.getD x.1 0)) : TkM (wJ (wI (wI h 238 K.1 (nI x.2.1)) 237 K.1 s) 239 K.1 v) (psh K x) := fun i hi => by
  have hi : i < K.1 + 1 := hi
  show TkY _ i (if i = K.1 then x else K.2 i)
  have e7 : hI (wJ (wI (wI h 238 K.1 (nI x.2.1)) 237 K.1 s) 239 K.1 v) 237 i = if i = K.1 then s else hI h 237 i := wI_at (wI h 238 K.1 (nI x.2.1)) 237 K.1 s i
  have e8 : hI (wJ (wI (wI h 238 K.1 (nI x.2.1)) 237 K.1 s) 239 K.1 v) 238 i = if i = K.1 then nI x.2.1 else hI h 238 i := wI_at h 238 K.1 (nI x.2.1) i
  have e9 : hJ (wJ (wI (wI h 238 K.1 (nI x.2.1)) 237 K.1 s) 239 K.1 v) 239 i = if i = K.1 then v else hJ h 239 i := wJ_at (wI (wI h 238 K.1 (nI x.2.1)) 237 K.1 s) 239 K.1 v i
  unfold TkY
  rw [e7, e8, e9]
  by_cases e : i = K.1
  · rw [if_pos e, if_pos e, if_pos e, if_pos e]; exact ⟨hs, rfl, h2, hl, h3⟩
  · rw [if_neg e, if_neg e, if_neg e, if_neg e]; exact hK i (by omega)
theorem ad_E {t : Nat} (hK : TkM h K) : TkM (wI (wI (wI (wI h 237 K.1 0) 238 K.1 (nI t)) 235 7 0) 235 8 0) (psh K (0, t, 0, [])) := fun i hi => by
  have hi : i < K.1 + 1 := hi
  show TkY _ i (if i = K.1 then (0, t, 0, []) else K.2 i)
  have e7 : hI (wI (wI (wI (wI h 237 K.1 0) 238 K.1 (nI t)) 235 7 0) 235 8 0) 237 i = if i = K.1 then 0 else hI h 237 i := wI_at h 237 K.1 0 i
  have e8 : hI (wI (wI (wI (wI h 237 K.1 0) 238 K.1 (nI t)) 235 7 0) 235 8 0) 238 i = if i = K.1 then nI t else hI h 238 i := wI_at (wI h 237 K.1 0) 238 K.1 (nI t) i
  have e9 : hJ (wI (wI (wI (wI h 237 K.1 0) 238 K.1 (nI t)) 235 7 0) 235 8 0) 239 i = hJ h 239 i := rfl
  unfold TkY
  rw [e7, e8, e9]
  by_cases e : i = K.1
  · rw [if_pos e, if_pos e, if_pos e]; exact ⟨rfl, rfl, fun e2 => absurd (show 0 = 2 from e2) (by decide), fun e2 => absurd rfl e2, fun e3 => absurd (show srt 0 = 3 from e3) (by decide)⟩
  · rw [if_neg e, if_neg e, if_neg e]; exact hK i (by omega)
theorem psh_W {x : TK} (h : TkW K) (h1 : (srt x.1 = 1 → LtO x.2.2.2 ∧ x.1 = tokW x.2.2.2) ∧ (srt x.1 ≠ 1 → x.2.2.2 = [])) : TkW (psh K x) := fun i hi => by
  have hi : i < K.1 + 1 := hi
  show (srt (if i = K.1 then x else K.2 i).1 = 1 → LtO (if i = K.1 then x else K.2 i).2.2.2 ∧ (if i = K.1 then x else K.2 i).1 = tokW (if i = K.1 then x else K.2 i).2.2.2) ∧ (srt (if i = K.1 then x else K.2 i).1 ≠ 1 → (if i = K.1 then x else K.2 i).2.2.2 = [])
  by_cases e : i = K.1
  · rw [if_pos e]; exact h1
  · rw [if_neg e]; exact h i (by omega)
theorem l_mul37 {v c : Nat} : (37 : Int64) * lN64 v + (nI c).toInt64 = lN64 (37 * v + c) ∨ ¬ c < 2 ^ 31 := by
  by_cases hc : c < 2 ^ 31
  · left
    rw [nI_l hc]
    show lN 37 * lN v + lN c = lN (37 * v + c)
    rw [lN_mul, lN_add]
  · exact Or.inr hc
theorem l_m37 {v c : Nat} (hc : c < 256) : (37 : Int64) * lN64 v + (nI c).toInt64 = lN64 (37 * v + c) := by
  rcases l_mul37 (v := v) (c := c) with e | e
  · exact e
  · omega
theorem l_num2 {v c : Nat} (h1 : 48 ≤ c) (h2 : c < 256) : (10 : Int64) * lN64 v + (nI c).toInt64 - 48 = lN64 (10 * v + (c - 48)) := by
  rw [← l_num h1 h2, Int64.mul_comm]
/-- what the model's cutting keeps -/
def ctI (h : AH) (T : ST') (g : AH) (n p : Nat) (K : TKs) : Prop := Fr ytk h g ∧ hI g 235 3 = nI T.1 ∧ hI g 235 2 = 0 ∧ (∀ k, k ≠ 2 → k ≠ 3 → hI g 235 k = hI h 235 k) ∧ TkM g K ∧ TkO K ∧ TkW K ∧ K.1 = n ∧ n ≤ p ∧ p ≤ T.1 ∧ cutA T T.1 0 K0 = cutA T (T.1 - p) p K
theorem ct_nx {x : TK} {v : Int64} {s : Int32} {g : AH} {n p q : Nat} (hp : p < T.1) (hb : blk (T.2 p) = false) (c : ctI h T g n p K) (ex : (tokA T p).1 = x) (eq : (tokA T p).2 = q) (es : x.2.1 = p) (hs : s = nI (srt x.1)) (h2 : x.1 = 2 → v = lN64 x.2.2.1) (hl : x.2.2.2 ≠ [] → v = lN64 (pkM x.2.2.2)) (h3 : srt x.1 = 3 → v = lN64 (TKv.getD x.1 0)) (hw : (srt x.1 = 1 → LtO x.2.2.2 ∧ x.1 = tokW x.2.2.2) ∧ (srt x.1 ≠ 1 → x.2.2.2 = [])) : ctI h T (wJ (wI (wI g 238 n (nI p)) 237 n s) 239 n v) (n + 1) q (psh K x) ∧ T.1 - q < T.1 - p := by
  obtain ⟨c1, c2, c3, c4, c5, c6, c7, c8, c9, c10, c11⟩ := c
  have tg := tokA_gt hp
  rw [eq] at tg
  subst c8
  rw [← es]
  refine ⟨⟨((c1.wI rfl).wI rfl).wJ rfl, c2, c3, c4, ad_Y c5 hs h2 hl h3, psh_O c6 (by rw [← ex]; exact tokA_lt), psh_W c7 hw, rfl, by omega, tg.2, ?_⟩, by omega⟩
  rw [c11, cut_t hp hb, ex, eq]
theorem m_cutAll (hT : TapM h T) (hO : TapOK T) (h1 : ∀ h', Fr ytk h h' → (∀ k, k ≠ 2 → k ≠ 3 → k ≠ 7 → k ≠ 8 → hI h' 235 k = hI h 235 k) → hI h' 235 2 = 0 → hI h' 235 7 = 0 → hI h' 235 8 = 0 → TkM h' (allT T) → TkW (allT T) → Q none h') : Rc (d + 4) m_X13_cutAll [.ref 235] h Q := by
  have o1 := hO.1
  have e2 := hT.1
  refine R_in rfl rfl ?_
  refine R_gs 17 rfl ?_
  try rw [e2]
  refine w_meas (W := fun (s : AH × Nat × Nat × TKs) => ∀ x3 x4 x5 x6 : Option Value, Rw (d + 3) Q (m_X13_cutAll, 17, [some (.ref 235), some (.int (nI s.2.1)), some (.int (nI s.2.2.1)), x3, x4, x5, x6], [], 262, s.1)) (fun s => ctI h T s.1 s.2.1 s.2.2.1 s.2.2.2) (fun s => T.1 - s.2.2.1) (s0 := (wI (wI h 235 3 (nI T.1)) 235 2 0, 0, 0, K0)) ⟨((Fr.refl _ h).wI rfl).wI rfl, rfl, rfl, fun k h2 h3 => ((wI_at _ _ _ _ _).trans (if_neg h2)).trans ((wI_at _ _ _ _ _).trans (if_neg h3)), fun i hi => absurd hi (Nat.not_lt_zero i), fun i hi => absurd hi (Nat.not_lt_zero i), fun i hi => absurd hi (Nat.not_lt_zero i), rfl, Nat.zero_le _, Nat.zero_le _, rfl⟩ (fun s hi w => ?_) none none none none
  ·
    intro x3 x4 x5 x6
    obtain ⟨g, n, p, K⟩ := s
    dsimp only at hi ⊢
    have hi' := hi
    obtain ⟨c1, c2, c3, c4, c5, c6, c7, c8, c9, c10, c11⟩ := hi'
    have tT : ∀ i, i < T.1 → hI g 236 i = nI (T.2 i) := fun i hi => (congrFun (c1.I rfl) i).trans (hT.2 i hi)
    refine R_gs 22 rfl ?_
    try rw [c2]
    refine W_b rfl (fun hc22 => ?_) (fun hc22 => ?_)
    ·
      rw [nI_leI (by omega) (by omega)] at hc22
      refine R_gs 285 rfl ?_
      refine R_is rfl rfl (ix_nI _) (by omega) ?_
      refine R_gs 295 rfl ?_
      try rw [c2]
      rw [show hI (wI g 237 n 0) 235 3 = nI T.1 from c2]
      refine R_is rfl rfl (ix_nI _) (by omega) ?_
      refine R_gs 306 rfl ?_
      refine W_f rfl (by first | rfl | exact ⟨rfl, by first | decide | assumption | exact Or.inl rfl | exact Or.inr rfl | exact b2i_01 _⟩) ?_
      have eK : cutA T T.1 0 K0 = K := (c11.trans (cut_e (by omega)))
      subst c8
      have tE := ad_E (t := T.1) c5
      have tW : TkW (psh K (0, T.1, 0, [])) := psh_W c7 ⟨fun e3 => absurd (show srt 0 = 1 from e3) (by decide), fun _ => rfl⟩
      have eA : allT T = psh K (0, T.1, 0, []) := (by unfold allT; rw [eK])
      rw [← eA] at tE tW
      refine h1 _ ((((c1.wI rfl).wI rfl).wI rfl).wI rfl) (fun k k2 k3 k7 k8 => ?_) c3 rfl rfl tE tW
      exact ((wI_at _ _ _ _ _).trans (if_neg k8)).trans (((wI_at _ _ _ _ _).trans (if_neg k7)).trans (c4 k k2 k3))
    ·
      rw [nI_leI (by omega) (by omega)] at hc22
      refine R_gs 30 rfl ?_
      have hp : p < T.1 := (by omega)
      have tb := tap_lt hO hp
      refine R_il rfl rfl (ix_nI _) (by omega) (tT p hp) ?_
      refine R_gs 35 rfl ?_
      refine W_b rfl (fun hc35 => ?_) (fun hc35 => ?_)
      ·
        rw [show (nI (T.2 p) = 10 ↔ T.2 p = 10) from nI_eq (b := 10) (by omega) (by omega)] at hc35
        have hb : blk (T.2 p) = true := (by unfold blk; rw [decide_eq_true hc35, Bool.or_true])
        refine R_gs 17 rfl ?_
        rw [nI_1]; exact w (g, n, p + 1, K) ⟨c1, c2, c3, c4, c5, c6, c7, c8, by dsimp only; omega, by dsimp only; omega, c11.trans (cut_b hp hb)⟩ (by dsimp only; omega) _ _ _ _
      ·
        rw [show (nI (T.2 p) = 10 ↔ T.2 p = 10) from nI_eq (b := 10) (by omega) (by omega)] at hc35
        refine R_gs 41 rfl ?_
        refine W_b rfl (fun hc41 => ?_) (fun hc41 => ?_)
        ·
          rw [show (nI (T.2 p) = 32 ↔ T.2 p = 32) from nI_eq (b := 32) (by omega) (by omega)] at hc41
          have hb : blk (T.2 p) = true := (by unfold blk; rw [decide_eq_true hc41]; rfl)
          refine R_gs 17 rfl ?_
          rw [nI_1]; exact w (g, n, p + 1, K) ⟨c1, c2, c3, c4, c5, c6, c7, c8, by dsimp only; omega, by dsimp only; omega, c11.trans (cut_b hp hb)⟩ (by dsimp only; omega) _ _ _ _
        ·
          rw [show (nI (T.2 p) = 32 ↔ T.2 p = 32) from nI_eq (b := 32) (by omega) (by omega)] at hc41
          have hb : blk (T.2 p) = false := (by unfold blk; rw [decide_eq_false hc41, decide_eq_false hc35]; rfl)
          refine R_gs 62 rfl ?_
          refine R_is rfl rfl (ix_nI _) (by omega) ?_
          refine R_gs 64 rfl ?_
          refine R_k rfl rfl (m_isLetter (by omega) (fun hx64 => ?_) (fun hx64 => ?_))
          ·
            refine W_bf rfl (by decide) ?_
            refine w_meas (W := fun (s : Nat × Int64) => Rw (d + 3) Q (m_X13_cutAll, 70, [some (.ref 235), some (.int (nI n)), some (.int (nI s.1)), some (.int (nI (T.2 p))), some (.int (nI p)), some (.long s.2), none], [], 262, wI g 238 n (nI p))) (fun s => p ≤ s.1 ∧ s.1 ≤ T.1 ∧ rnE T isL p = rnE T isL s.1 ∧ (s.1 - p ≤ 8 → s.2 = lN64 (pkM (lts T p s.1)))) (fun s => T.1 - s.1) (s0 := (p, 0)) ⟨Nat.le_refl _, by dsimp only; omega, rfl, fun _ => by rw [lts_0]; rfl⟩ (fun s hi2 w2 => ?_)
            ·
              obtain ⟨e, v⟩ := s
              obtain ⟨i1, i2, i3, i4⟩ := hi2
              dsimp only at i1 i2 i3 i4 ⊢
              refine R_gs 75 rfl ?_
              try rw [c2]
              rw [show hI (wI g 238 n (nI p)) 235 3 = nI T.1 from c2]
              refine W_b rfl (fun hc75 => ?_) (fun hc75 => ?_)
              ·
                rw [nI_leI (by omega) (by omega)] at hc75
                refine R_gs 140 rfl ?_
                have ee : rnE T isL p = e := (i3.trans (rn_f (Or.inl (by omega))))
                rw [nI_sub i1]
                refine W_b rfl (fun hc140 => ?_) (fun hc140 => ?_)
                ·
                  rw [show (nI (e - p) ≤ 8 ↔ e - p ≤ 8) from nI_leI (b := 8) (by omega) (by omega)] at hc140
                  refine R_gs 148 rfl ?_
                  refine R_is rfl rfl (ix_nI _) (by omega) ?_
                  refine R_gs 272 rfl ?_
                  refine R_ls rfl rfl (ix_nI _) (by omega) ?_
                  have tA : tokA T p = ((tokW (lts T p e), p, 0, lts T p e), e) := (by unfold tokA; rw [if_pos hx64, ee, if_neg (by omega)])
                  have lo := lts_O hp hx64 (by rw [ee]; omega)
                  rw [ee] at lo
                  have ts := tokW_s lo
                  have nx := ct_nx (v := v) (s := 1) hp hb hi (x := (tokW (lts T p e), p, 0, lts T p e)) (by rw [tA]) (by rw [tA]) rfl (by rw [ts.1]; rfl) (fun e2 => absurd e2 (tokW_ne2 lo)) (fun _ => i4 (by omega)) (fun e3 => absurd (ts.1.symm.trans e3) (by decide)) ⟨fun _ => ⟨lo, rfl⟩, fun e3 => absurd ts.1 e3⟩
                  refine R_gs 17 rfl ?_
                  rw [nI_1]; exact w (_, n + 1, _, _) nx.1 nx.2 _ _ _ _
                ·
                  rw [show (nI (e - p) ≤ 8 ↔ e - p ≤ 8) from nI_leI (b := 8) (by omega) (by omega)] at hc140
                  refine R_gs 148 rfl ?_
                  refine R_is rfl rfl (ix_nI _) (by omega) ?_
                  refine R_gs 272 rfl ?_
                  refine R_ls rfl rfl (ix_nI _) (by omega) ?_
                  have tA : tokA T p = ((1, p, 0, []), e) := (by unfold tokA; rw [if_pos hx64, ee, if_pos (by omega)])
                  have nx := ct_nx (v := v) (s := 4) hp hb hi (x := (1, p, 0, [])) (by rw [tA]) (by rw [tA]) rfl rfl (fun e2 => absurd (show 1 = 2 from e2) (by decide)) (fun e2 => absurd rfl e2) (fun e3 => absurd (show srt 1 = 3 from e3) (by decide)) ⟨fun e3 => absurd (show srt 1 = 1 from e3) (by decide), fun _ => rfl⟩
                  refine R_gs 17 rfl ?_
                  rw [nI_1]; exact w (_, n + 1, _, _) nx.1 nx.2 _ _ _ _
              ·
                rw [nI_leI (by omega) (by omega)] at hc75
                refine R_gs 83 rfl ?_
                refine R_il rfl rfl (ix_nI _) (by omega) (tT e (by omega)) ?_
                refine R_k rfl rfl (m_isLetter (by have := tap_lt hO (i := e) (by omega); omega) (fun hx84 => ?_) (fun hx84 => ?_))
                ·
                  refine W_bf rfl (by decide) ?_
                  refine R_gs 96 rfl ?_
                  rw [nI_sub i1]
                  refine W_b rfl (fun hc96 => ?_) (fun hc96 => ?_)
                  ·
                    rw [show ((8 : Int32) ≤ nI (e - p) ↔ 8 ≤ e - p) from nI_leI (a := 8) (by omega) (by omega)] at hc96
                    refine R_gs 70 rfl ?_
                    rw [nI_1]; exact w2 (e + 1, _) ⟨by dsimp only; omega, by dsimp only; omega, by dsimp only; rw [i3, rn_t (by omega) hx84], fun h9 => by dsimp only at h9; omega⟩ (by dsimp only; omega)
                  ·
                    rw [show ((8 : Int32) ≤ nI (e - p) ↔ 8 ≤ e - p) from nI_leI (a := 8) (by omega) (by omega)] at hc96
                    refine R_gs 110 rfl ?_
                    refine R_il rfl rfl (ix_nI _) (by omega) (tT e (by omega)) ?_
                    refine R_k rfl rfl (m_rank hx84 ?_)
                    refine R_gs 70 rfl ?_
                    rw [nI_1]; refine w2 (e + 1, _) ⟨by dsimp only; omega, by dsimp only; omega, by dsimp only; rw [i3, rn_t (by omega) hx84], fun _ => ?_⟩ (by dsimp only; omega)
                    dsimp only; rw [i4 (by omega), l_m37 (by have := tap_lt hO (i := e) (by omega); omega), ← pkM_s, ← lts_s i1]
                ·
                  refine W_bt rfl (by decide) ?_
                  refine R_gs 140 rfl ?_
                  have ee : rnE T isL p = e := (i3.trans (rn_f (Or.inr hx84)))
                  rw [nI_sub i1]
                  refine W_b rfl (fun hc140 => ?_) (fun hc140 => ?_)
                  ·
                    rw [show (nI (e - p) ≤ 8 ↔ e - p ≤ 8) from nI_leI (b := 8) (by omega) (by omega)] at hc140
                    refine R_gs 148 rfl ?_
                    refine R_is rfl rfl (ix_nI _) (by omega) ?_
                    refine R_gs 272 rfl ?_
                    refine R_ls rfl rfl (ix_nI _) (by omega) ?_
                    have tA : tokA T p = ((tokW (lts T p e), p, 0, lts T p e), e) := (by unfold tokA; rw [if_pos hx64, ee, if_neg (by omega)])
                    have lo := lts_O hp hx64 (by rw [ee]; omega)
                    rw [ee] at lo
                    have ts := tokW_s lo
                    have nx := ct_nx (v := v) (s := 1) hp hb hi (x := (tokW (lts T p e), p, 0, lts T p e)) (by rw [tA]) (by rw [tA]) rfl (by rw [ts.1]; rfl) (fun e2 => absurd e2 (tokW_ne2 lo)) (fun _ => i4 (by omega)) (fun e3 => absurd (ts.1.symm.trans e3) (by decide)) ⟨fun _ => ⟨lo, rfl⟩, fun e3 => absurd ts.1 e3⟩
                    refine R_gs 17 rfl ?_
                    rw [nI_1]; exact w (_, n + 1, _, _) nx.1 nx.2 _ _ _ _
                  ·
                    rw [show (nI (e - p) ≤ 8 ↔ e - p ≤ 8) from nI_leI (b := 8) (by omega) (by omega)] at hc140
                    refine R_gs 148 rfl ?_
                    refine R_is rfl rfl (ix_nI _) (by omega) ?_
                    refine R_gs 272 rfl ?_
                    refine R_ls rfl rfl (ix_nI _) (by omega) ?_
                    have tA : tokA T p = ((1, p, 0, []), e) := (by unfold tokA; rw [if_pos hx64, ee, if_pos (by omega)])
                    have nx := ct_nx (v := v) (s := 4) hp hb hi (x := (1, p, 0, [])) (by rw [tA]) (by rw [tA]) rfl rfl (fun e2 => absurd (show 1 = 2 from e2) (by decide)) (fun e2 => absurd rfl e2) (fun e3 => absurd (show srt 1 = 3 from e3) (by decide)) ⟨fun e3 => absurd (show srt 1 = 1 from e3) (by decide), fun _ => rfl⟩
                    refine R_gs 17 rfl ?_
                    rw [nI_1]; exact w (_, n + 1, _, _) nx.1 nx.2 _ _ _ _
          ·
            refine W_bt rfl (by decide) ?_
            refine R_gs 153 rfl ?_
            refine R_k rfl rfl (m_isDigit (by omega) (fun hx153 => ?_) (fun hx153 => ?_))
            ·
              refine W_bf rfl (by decide) ?_
              refine w_meas (W := fun (s : Nat × Int64) => Rw (d + 3) Q (m_X13_cutAll, 159, [some (.ref 235), some (.int (nI n)), some (.int (nI s.1)), some (.int (nI (T.2 p))), some (.int (nI p)), some (.long s.2), none], [], 262, wI g 238 n (nI p))) (fun s => p ≤ s.1 ∧ s.1 ≤ T.1 ∧ rnE T isD p = rnE T isD s.1 ∧ (s.1 - p ≤ 4 → s.2 = lN64 (nuN (lts T p s.1)))) (fun s => T.1 - s.1) (s0 := (p, 0)) ⟨Nat.le_refl _, by dsimp only; omega, rfl, fun _ => by rw [lts_0]; rfl⟩ (fun s hi2 w2 => ?_)
              ·
                obtain ⟨e, v⟩ := s
                obtain ⟨i1, i2, i3, i4⟩ := hi2
                dsimp only at i1 i2 i3 i4 ⊢
                refine R_gs 164 rfl ?_
                try rw [c2]
                rw [show hI (wI g 238 n (nI p)) 235 3 = nI T.1 from c2]
                refine W_b rfl (fun hc164 => ?_) (fun hc164 => ?_)
                ·
                  rw [nI_leI (by omega) (by omega)] at hc164
                  refine R_gs 228 rfl ?_
                  have ee : rnE T isD p = e := (i3.trans (rn_f (Or.inl (by omega))))
                  rw [nI_sub i1]
                  refine W_b rfl (fun hc228 => ?_) (fun hc228 => ?_)
                  ·
                    rw [show (nI (e - p) ≤ 4 ↔ e - p ≤ 4) from nI_leI (b := 4) (by omega) (by omega)] at hc228
                    refine R_gs 236 rfl ?_
                    refine R_is rfl rfl (ix_nI _) (by omega) ?_
                    refine R_gs 272 rfl ?_
                    refine R_ls rfl rfl (ix_nI _) (by omega) ?_
                    have tA : tokA T p = ((2, p, nuN (lts T p e), []), e) := (by unfold tokA; rw [if_neg (by rw [hx64]; decide), if_pos hx153, ee, if_neg (by omega)])
                    have nx := ct_nx (v := v) (s := 2) hp hb hi (x := (2, p, nuN (lts T p e), [])) (by rw [tA]) (by rw [tA]) rfl rfl (fun _ => i4 (by omega)) (fun e2 => absurd rfl e2) (fun e3 => absurd (show srt 2 = 3 from e3) (by decide)) ⟨fun e3 => absurd (show srt 2 = 1 from e3) (by decide), fun _ => rfl⟩
                    refine R_gs 17 rfl ?_
                    rw [nI_1]; exact w (_, n + 1, _, _) nx.1 nx.2 _ _ _ _
                  ·
                    rw [show (nI (e - p) ≤ 4 ↔ e - p ≤ 4) from nI_leI (b := 4) (by omega) (by omega)] at hc228
                    refine R_gs 236 rfl ?_
                    refine R_is rfl rfl (ix_nI _) (by omega) ?_
                    refine R_gs 272 rfl ?_
                    refine R_ls rfl rfl (ix_nI _) (by omega) ?_
                    have tA : tokA T p = ((1, p, 0, []), e) := (by unfold tokA; rw [if_neg (by rw [hx64]; decide), if_pos hx153, ee, if_pos (by omega)])
                    have nx := ct_nx (v := v) (s := 4) hp hb hi (x := (1, p, 0, [])) (by rw [tA]) (by rw [tA]) rfl rfl (fun e2 => absurd (show 1 = 2 from e2) (by decide)) (fun e2 => absurd rfl e2) (fun e3 => absurd (show srt 1 = 3 from e3) (by decide)) ⟨fun e3 => absurd (show srt 1 = 1 from e3) (by decide), fun _ => rfl⟩
                    refine R_gs 17 rfl ?_
                    rw [nI_1]; exact w (_, n + 1, _, _) nx.1 nx.2 _ _ _ _
                ·
                  rw [nI_leI (by omega) (by omega)] at hc164
                  refine R_gs 172 rfl ?_
                  refine R_il rfl rfl (ix_nI _) (by omega) (tT e (by omega)) ?_
                  refine R_k rfl rfl (m_isDigit (by have := tap_lt hO (i := e) (by omega); omega) (fun hx173 => ?_) (fun hx173 => ?_))
                  ·
                    refine W_bf rfl (by decide) ?_
                    refine R_gs 184 rfl ?_
                    rw [nI_sub i1]
                    refine W_b rfl (fun hc184 => ?_) (fun hc184 => ?_)
                    ·
                      rw [show ((4 : Int32) ≤ nI (e - p) ↔ 4 ≤ e - p) from nI_leI (a := 4) (by omega) (by omega)] at hc184
                      refine R_gs 159 rfl ?_
                      rw [nI_1]; exact w2 (e + 1, _) ⟨by dsimp only; omega, by dsimp only; omega, by dsimp only; rw [i3, rn_t (by omega) hx173], fun h9 => by dsimp only at h9; omega⟩ (by dsimp only; omega)
                    ·
                      rw [show ((4 : Int32) ≤ nI (e - p) ↔ 4 ≤ e - p) from nI_leI (a := 4) (by omega) (by omega)] at hc184
                      refine R_gs 198 rfl ?_
                      refine R_il rfl rfl (ix_nI _) (by omega) (tT e (by omega)) ?_
                      refine R_gs 159 rfl ?_
                      have hdd : 48 ≤ T.2 e := (by simp only [isD, Bool.and_eq_true, decide_eq_true_eq] at hx173; exact hx173.1)
                      rw [nI_1]; refine w2 (e + 1, _) ⟨by dsimp only; omega, by dsimp only; omega, by dsimp only; rw [i3, rn_t (by omega) hx173], fun _ => ?_⟩ (by dsimp only; omega)
                      dsimp only; rw [i4 (by omega), l_num2 hdd (by have := tap_lt hO (i := e) (by omega); omega), ← nuN_s, ← lts_s i1]
                  ·
                    refine W_bt rfl (by decide) ?_
                    refine R_gs 228 rfl ?_
                    have ee : rnE T isD p = e := (i3.trans (rn_f (Or.inr hx173)))
                    rw [nI_sub i1]
                    refine W_b rfl (fun hc228 => ?_) (fun hc228 => ?_)
                    ·
                      rw [show (nI (e - p) ≤ 4 ↔ e - p ≤ 4) from nI_leI (b := 4) (by omega) (by omega)] at hc228
                      refine R_gs 236 rfl ?_
                      refine R_is rfl rfl (ix_nI _) (by omega) ?_
                      refine R_gs 272 rfl ?_
                      refine R_ls rfl rfl (ix_nI _) (by omega) ?_
                      have tA : tokA T p = ((2, p, nuN (lts T p e), []), e) := (by unfold tokA; rw [if_neg (by rw [hx64]; decide), if_pos hx153, ee, if_neg (by omega)])
                      have nx := ct_nx (v := v) (s := 2) hp hb hi (x := (2, p, nuN (lts T p e), [])) (by rw [tA]) (by rw [tA]) rfl rfl (fun _ => i4 (by omega)) (fun e2 => absurd rfl e2) (fun e3 => absurd (show srt 2 = 3 from e3) (by decide)) ⟨fun e3 => absurd (show srt 2 = 1 from e3) (by decide), fun _ => rfl⟩
                      refine R_gs 17 rfl ?_
                      rw [nI_1]; exact w (_, n + 1, _, _) nx.1 nx.2 _ _ _ _
                    ·
                      rw [show (nI (e - p) ≤ 4 ↔ e - p ≤ 4) from nI_leI (b := 4) (by omega) (by omega)] at hc228
                      refine R_gs 236 rfl ?_
                      refine R_is rfl rfl (ix_nI _) (by omega) ?_
                      refine R_gs 272 rfl ?_
                      refine R_ls rfl rfl (ix_nI _) (by omega) ?_
                      have tA : tokA T p = ((1, p, 0, []), e) := (by unfold tokA; rw [if_neg (by rw [hx64]; decide), if_pos hx153, ee, if_pos (by omega)])
                      have nx := ct_nx (v := v) (s := 4) hp hb hi (x := (1, p, 0, [])) (by rw [tA]) (by rw [tA]) rfl rfl (fun e2 => absurd (show 1 = 2 from e2) (by decide)) (fun e2 => absurd rfl e2) (fun e3 => absurd (show srt 1 = 3 from e3) (by decide)) ⟨fun e3 => absurd (show srt 1 = 1 from e3) (by decide), fun _ => rfl⟩
                      refine R_gs 17 rfl ?_
                      rw [nI_1]; exact w (_, n + 1, _, _) nx.1 nx.2 _ _ _ _
            ·
              refine W_bt rfl (by decide) ?_
              refine R_gs 250 rfl ?_
              refine R_k rfl rfl (m_isSignOf (by omega) (fun hx250 => ?_) (fun hx250 => ?_))
              ·
                refine W_bf rfl (by decide) ?_
                refine R_gs 261 rfl ?_
                have t0 : 0 < T.2 p := (by rcases hO.2 p hp with e | e <;> omega)
                have tS := tokS_s (T.2 p) tb (by rw [hx64, hx153, decide_eq_false (by omega)]; rfl)
                have tA : tokA T p = ((tokS (T.2 p), p, 0, []), p + 1) := (by unfold tokA; rw [if_neg (by rw [hx64]; decide), if_neg (by rw [hx153]; decide)])
                refine R_is rfl rfl (ix_nI _) (by omega) ?_
                refine R_gs 272 rfl ?_
                refine R_ls rfl rfl (ix_nI _) (by omega) ?_
                have nx := ct_nx (v := (nI (T.2 p)).toInt64) (s := 3) hp hb hi (x := (tokS (T.2 p), p, 0, [])) (by rw [tA]) (by rw [tA]) rfl (by rw [tS.1, if_pos hx250]; rfl) (fun e2 => absurd e2 (tokS_ne2 t0)) (fun e2 => absurd rfl e2) (fun _ => by rw [tS.2 hx250, nI_l (by omega)]; rfl) ⟨fun e3 => absurd (tS.1.symm.trans e3) (by rw [if_pos hx250]; decide), fun _ => rfl⟩
                refine R_gs 17 rfl ?_
                rw [nI_1, nI_1]; exact w (_, n + 1, _, _) nx.1 nx.2 _ _ _ _
              ·
                refine W_bt rfl (by decide) ?_
                refine R_gs 261 rfl ?_
                have t0 : 0 < T.2 p := (by rcases hO.2 p hp with e | e <;> omega)
                have tS := tokS_s (T.2 p) tb (by rw [hx64, hx153, decide_eq_false (by omega)]; rfl)
                have tA : tokA T p = ((tokS (T.2 p), p, 0, []), p + 1) := (by unfold tokA; rw [if_neg (by rw [hx64]; decide), if_neg (by rw [hx153]; decide)])
                refine R_is rfl rfl (ix_nI _) (by omega) ?_
                refine R_gs 272 rfl ?_
                refine R_ls rfl rfl (ix_nI _) (by omega) ?_
                have nx := ct_nx (v := (nI (T.2 p)).toInt64) (s := 4) hp hb hi (x := (tokS (T.2 p), p, 0, [])) (by rw [tA]) (by rw [tA]) rfl (by rw [tS.1, hx250]; rfl) (fun e2 => absurd e2 (tokS_ne2 t0)) (fun e2 => absurd rfl e2) (fun e3 => absurd (tS.1.symm.trans e3) (by rw [hx250]; decide)) ⟨fun e3 => absurd (tS.1.symm.trans e3) (by rw [hx250]; decide), fun _ => rfl⟩
                refine R_gs 17 rfl ?_
                rw [nI_1, nI_1]; exact w (_, n + 1, _, _) nx.1 nx.2 _ _ _ _
end
