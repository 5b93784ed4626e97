theorem st_4 : ∀ t, t < 38 → stPt t = (decide (t = 2) || (decide (t = 27) || (decide (t = 4) || (decide (35 ≤ t) && decide (t ≤ 37))))) := by decide +kernel
theorem fact_m : ∀ t, t < 38 → 35 ≤ t → mea t = -1 - nI (t - 35) := by decide +kernel
section
variable {d k : Nat} {h h' : AH} {K : TKs} {s : RS} {c0 : List Int32} {Q : Option Value → AH → Prop}
theorem wh_ft (hf : s.2 = 0) (t1 : tk K s.1 < 38) : ((0 : Int32) ≤ wh K 23 3 s ↔ 35 ≤ tk K s.1) ∧ (35 ≤ tk K s.1 → wh K 23 3 s = nI (tk K s.1 - 35)) := by
  by_cases e2 : 35 ≤ tk K s.1
  · rw [wh_y 3 (tk K s.1 - 35) (by omega) (by omega) (by unfold tz tw; rw [decide_eq_true hf, decide_eq_true (by rw [if_neg (by omega)]; omega)]; rfl)]
    exact ⟨⟨fun _ => e2, fun _ => nI_pos' (by omega)⟩, fun _ => rfl⟩
  · rw [wh_n (K := K) (s := s) (a := 23) 3 (fun k hk => by
      cases hz : tz K (tw (23 + k)) s with
      | false => rfl
      | true =>
        have := (tz_t hz).2
        unfold tw at this
        rw [if_neg (by omega)] at this
        exact absurd (by omega) e2)]
    exact ⟨⟨fun e3 => absurd e3 (by decide), fun e3 => absurd e3 e2⟩, fun e3 => absurd e3 e2⟩
/-- where a part's own text begins, in the model -/
def P69 (K : TKs) (k d : Nat) (v : Int32) (X : EX) : Prop := ∀ (h : AH) (s : RS) (c0 : List Int32) (Q : Option Value → AH → Prop), MF h K s → EmM h k c0 → k + c0.length ≤ s.1 → s.2 = 0 → stPt (tk K s.1) = true → (∀ h', YR k h h' → MF h' K (X s).1 → EmM h' k (c0 ++ (X s).2) → Q none h') → Rw d Q (m_X13_takePart, 69, [some (.ref 235), some (.int v), some (.int (b2i (decide (tk K s.1 = 2)))), some (.int (wh K 23 3 s))], [], 262, h)
theorem p69_0 (kO : TokOK K) : P69 K k (d + 2) 5 (eP K 0) := by
  intro h s c0 Q c hl hn hf hp h1
  have e0 : eP K 0 s = (bl K true 5 s, []) := (by show (bl K true 5 (bl K (!stPt (tk K s.1)) 1 s), ([] : List Int32)) = _; rw [hp, show (!true) = false from rfl, bl_n (s := s) (k := 1) (Or.inl rfl)])
  rw [e0] at h1
  dsimp only at h1
  rw [List.append_nil] at h1
  refine R_gs 71 rfl ?_
  refine W_bt rfl (rfl) ?_
  refine R_gs 76 rfl ?_
  refine R_k rfl rfl (m_wrong kO (k := 5) (by decide) c (fun h2 m2 c2 => ?_))
  refine R_gs 83 rfl ?_
  refine W_bf rfl (fun e => absurd (c2.fl.mp e) (by rw [bl_y hf]; dsimp only; omega)) ?_
  refine W_f rfl (by first | rfl | exact ⟨rfl, by first | decide | assumption | exact Or.inl rfl | exact Or.inr rfl | exact b2i_01 _⟩) ?_
  exact h1 _ m2.y c2 (hl.mr m2)
theorem p69_S {a : Nat} (kO : TokOK K) (ha : a + 1 ≤ 5) (HP : CY K k (d + 3) m_X13_takePart [.ref 235, .int (nI (5 - a))] (eP K a)) (HJ : CY K k (d + 3) m_X13_all [.ref 235, .int (nI (5 - a))] (eJ K (eP K a) 0)) : P69 K k (d + 3) (nI (5 - (a + 1))) (eP K (a + 1)) := by
  intro h s c0 Q c hl hn hf hp h1
  have hs := c.2.1
  have k1 := kO.1
  have t1 : tk K s.1 < 38 := (c.tg kO).1
  have er : nI (5 - (a + 1)) + 1 = nI (5 - a) := (by rw [nI_1]; congr 1; omega)
  have oP := eP_o kO a
  have tg2 : tk K s.1 = 2 → tn K s.1 ≤ 9999 := (c.tg kO).2.2.1
  obtain ⟨sp1, sp2⟩ := sp_1 kO hs hf (stPt_0 _ hp)
  have eS : sp K (bl K (!stPt (tk K s.1)) 1 s) = (s.1 + 1, 0) := (by rw [hp, show (!true) = false from rfl, bl_n (Or.inl rfl)]; exact sp1)
  have s4 := st_4 _ t1
  rw [hp] at s4
  unfold eP at h1
  dsimp only at h1
  rw [eS, if_pos rfl] at h1
  refine R_gs 71 rfl ?_
  refine W_bf rfl (fun e => absurd ((nI_eq (b := 5) (by omega) (by omega)).mp e) (by omega)) ?_
  refine R_gs 83 rfl ?_
  refine W_bt rfl (c.fl.mpr hf) ?_
  refine R_gs 90 rfl ?_
  refine R_k rfl rfl (m_hasWord (w := 20) kO (by decide) c (fun h2 m2 c2 => ?_))
  rw [show tw 20 = 27 from rfl] at c2 ⊢
  refine W_b rfl (fun hc93 => ?_) (fun hc93 => ?_)
  ·
    rw [b2i0] at hc93
    rw [hs_no hc93] at c2
    have q27 : ¬ tk K s.1 = 27 := fun e => tz_f hc93 ⟨hf, e⟩
    rw [if_neg q27] at h1
    refine R_gs 115 rfl ?_
    refine R_k rfl rfl (m_hasSign (t := 4) kO (by decide) (by decide) c2 (fun h3 m3 c3 => ?_))
    refine W_b rfl (fun hc118 => ?_) (fun hc118 => ?_)
    ·
      rw [b2i0] at hc118
      rw [hs_no hc118] at c3
      have q4 : ¬ tk K s.1 = 4 := fun e => tz_f hc118 ⟨hf, e⟩
      rw [if_neg q4] at h1
      have M3 := m2.trans m3
      refine R_gs 139 rfl ?_
      refine W_b rfl (fun hc139 => ?_) (fun hc139 => ?_)
      ·
        rw [b2i0] at hc139
        have q2 := of_decide_eq_false hc139
        rw [if_neg q2] at h1
        rw [decide_eq_false q2, decide_eq_false q27, decide_eq_false q4, Bool.false_or, Bool.false_or, Bool.false_or, eq_comm, Bool.and_eq_true, decide_eq_true_eq] at s4
        refine R_gs 148 rfl ?_
        refine W_bt rfl ((by rw [hc139]; rfl)) ?_
        refine R_gs 165 rfl ?_
        have wf := wh_ft hf t1
        refine R_k rfl rfl (m_emit (o := 2) (a := wh K 23 3 s) (v := mea (tk K s.1)) (Or.inr (Or.inl ⟨rfl, tk K s.1 - 35, by omega, wf.2 s4.1, fact_m _ t1 s4.1⟩)) c3 (hl.mr M3) (by omega) (fun h4 y4 f4 e4 => ?_))
        refine R_gs 178 rfl ?_
        refine W_f rfl (by first | rfl | exact ⟨rfl, by first | decide | assumption | exact Or.inl rfl | exact Or.inr rfl | exact b2i_01 _⟩) ?_
        have fx := f4.nx (t := tk K s.1) kO (stPt_0 _ hp) (by unfold tz; rw [decide_eq_true hf, decide_eq_true rfl]; rfl)
        rw [sp1] at fx
        exact h1 _ ((M3.y.trans y4).trans (MR.w7 _ _).y) fx (e4.mr (MR.w7 _ _))
      ·
        rw [b2i0] at hc139
        rw [Bool.not_eq_false] at hc139
        have q2 := of_decide_eq_true hc139
        rw [if_pos q2] at h1
        refine R_gs 148 rfl ?_
        refine W_bf rfl ((by rw [hc139]; decide)) ?_
        refine R_gs 159 rfl ?_
        refine R_ll rfl rfl (j := s.1) c3.2.2.1 (by omega) (v := lN64 (tn K s.1)) ((c3.1 s.1 hs).2.2.1 q2) ?_
        refine R_gs 165 rfl ?_
        rw [l64_i]
        refine R_k rfl rfl (m_emit (o := 1) (a := nI (tn K s.1)) (v := nI (tn K s.1)) (Or.inl ⟨rfl, rfl, nI_pos' (by have := tg2 q2; omega)⟩) c3 (hl.mr M3) (by omega) (fun h4 y4 f4 e4 => ?_))
        refine R_gs 178 rfl ?_
        refine W_f rfl (by first | rfl | exact ⟨rfl, by first | decide | assumption | exact Or.inl rfl | exact Or.inr rfl | exact b2i_01 _⟩) ?_
        have fx := f4.nx (t := tk K s.1) kO (stPt_0 _ hp) (by unfold tz; rw [decide_eq_true hf, decide_eq_true rfl]; rfl)
        rw [sp1] at fx
        exact h1 _ ((M3.y.trans y4).trans (MR.w7 _ _).y) fx (e4.mr (MR.w7 _ _))
    ·
      rw [b2i0] at hc118
      rw [Bool.not_eq_false] at hc118
      have q4 := (tz_t hc118).2
      rw [if_pos q4] at h1
      rw [hs_sp kO hs (by decide) hc118, sp1] at c3
      have M3 := m2.trans m3
      refine R_gs 125 rfl ?_
      rw [er]
      refine R_k rfl rfl (HJ _ (s.1 + 1, 0) c0 _ c3 (hl.mr M3) (by dsimp only; omega) (fun h4 y4 f4 e4 => ?_))
      refine R_gs 131 rfl ?_
      refine R_k rfl rfl (m_takeSign (t := 5) kO (by decide) (by decide) f4 (fun h5 m5 f5 => ?_))
      refine R_gs 178 rfl ?_
      refine W_f rfl (by first | rfl | exact ⟨rfl, by first | decide | assumption | exact Or.inl rfl | exact Or.inr rfl | exact b2i_01 _⟩) ?_
      exact h1 _ ((M3.y.trans y4).trans m5.y) f5 (e4.mr m5)
  ·
    rw [b2i0] at hc93
    rw [Bool.not_eq_false] at hc93
    have q27 := (tz_t hc93).2
    rw [if_pos q27] at h1
    rw [hs_sp kO hs (by decide) hc93, sp1] at c2
    refine R_gs 100 rfl ?_
    rw [er]
    refine R_k rfl rfl (HP _ (s.1 + 1, 0) c0 _ c2 (hl.mr m2) (by dsimp only; omega) (fun h3 y3 f3 e3 => ?_))
    have o3 := oP (s.1 + 1, 0) sp2
    dsimp only at o3
    refine R_gs 106 rfl ?_
    refine R_k rfl rfl (m_emit (o := 3) (a := 0) (v := -4) (by unfold StepM; decide) f3 e3 (by rw [List.length_append]; omega) (fun h4 y4 f4 e4 => ?_))
    refine R_gs 178 rfl ?_
    refine W_f rfl (by first | rfl | exact ⟨rfl, by first | decide | assumption | exact Or.inl rfl | exact Or.inr rfl | exact b2i_01 _⟩) ?_
    exact h1 _ ((m2.y.trans y3).trans y4) f4 (by dsimp only; rw [← List.append_assoc]; exact e4)
theorem cy_part {v : Int32} {X : EX} (kO : TokOK K) (XF : ∀ s : RS, ¬ s.2 = 0 → X s = (s, [])) (XN : ∀ s : RS, s.2 = 0 → stPt (tk K s.1) = false → X s = (bl K true 1 s, [])) (H : P69 K k (d + 2) v X) : CY K k (d + 3) m_X13_takePart [.ref 235, .int v] X := by
  intro h s c0 Q c hl hn h1
  have hs := c.2.1
  have k1 := kO.1
  have t1 : tk K s.1 < 38 := (c.tg kO).1
  have y1 := (c.1 s.1 c.2.1).1
  have sl : srt (tk K s.1) ≤ 4 := (by unfold srt; repeat (first | omega | split))
  have sr : srt (tk K s.1) = 2 ↔ tk K s.1 = 2 := sr2 _ t1
  have s4 := st_4 _ t1
  refine R_in rfl rfl ?_
  refine R_gs 4 rfl ?_
  refine W_b rfl (fun hc4 => ?_) (fun hc4 => ?_)
  ·
    rw [c.fl] at hc4
    have wf := wh_ft hc4 t1
    refine R_gs 16 rfl ?_
    refine R_il rfl rfl (j := s.1) c.2.2.1 (by omega) y1 ?_
    refine R_gs 18 rfl ?_
    refine R_j 26 (decide (tk K s.1 = 2)) rfl (by rw [decide_eq_true_eq, ← sr]; exact (show (nI (srt (K.2 s.1).1) = 2 ↔ srt (tk K s.1) = 2) from nI_eq (b := 2) (by have : srt (K.2 s.1).1 ≤ 4 := sl; omega) (by omega)).symm) rfl rfl ?_
    refine R_gs 31 rfl ?_
    refine R_k rfl rfl (m_wordHere kO (a := 23) (m := 3) (by omega) c ?_)
    refine R_gs 36 rfl ?_
    refine W_b rfl (fun hc36 => ?_) (fun hc36 => ?_)
    ·
      rw [wf.1] at hc36
      exact H _ s c0 _ c hl hn hc4 (by first | (rw [s4, decide_eq_true hc36, decide_eq_true (show tk K s.1 ≤ 37 by omega)]; simp) | (rw [s4]; rw [Bool.not_eq_false] at hc40; rw [hc40]; rfl) | (rw [s4]; rw [Bool.not_eq_false] at hc49; rw [decide_eq_true (tz_t hc49).2]; simp) | (rw [s4]; rw [Bool.not_eq_false] at hc58; rw [decide_eq_true (tz_t hc58).2]; simp)) h1
    ·
      rw [wf.1] at hc36
      refine R_gs 40 rfl ?_
      refine W_b rfl (fun hc40 => ?_) (fun hc40 => ?_)
      ·
        rw [b2i0] at hc40
        refine R_gs 46 rfl ?_
        refine R_k rfl rfl (m_isSign (t := 4) kO (by decide) (by decide) c ?_)
        refine W_b rfl (fun hc49 => ?_) (fun hc49 => ?_)
        ·
          rw [b2i0] at hc49
          refine R_gs 55 rfl ?_
          refine R_k rfl rfl (m_isWord (w := 20) kO (by decide) c ?_)
          rw [show tw 20 = 27 from rfl]
          refine W_b rfl (fun hc58 => ?_) (fun hc58 => ?_)
          ·
            rw [b2i0] at hc58
            refine R_gs 63 rfl ?_
            have np : stPt (tk K s.1) = false := (by rw [s4, hc40, decide_eq_false (fun e => tz_f hc58 ⟨hc4, e⟩), decide_eq_false (fun e => tz_f hc49 ⟨hc4, e⟩), decide_eq_false hc36]; rfl)
            rw [XN s hc4 np] at h1
            refine R_k rfl rfl (m_wrong kO (k := 1) (by decide) c (fun h2 m2 c2 => ?_))
            refine R_gs 83 rfl ?_
            refine W_bf rfl (fun e => absurd (c2.fl.mp e) (by rw [bl_y hc4]; dsimp only; omega)) ?_
            refine W_f rfl (by first | rfl | exact ⟨rfl, by first | decide | assumption | exact Or.inl rfl | exact Or.inr rfl | exact b2i_01 _⟩) ?_
            exact h1 _ m2.y c2 (by rw [List.append_nil]; exact hl.mr m2)
          ·
            rw [b2i0] at hc58
            exact H _ s c0 _ c hl hn hc4 (by first | (rw [s4, decide_eq_true hc36, decide_eq_true (show tk K s.1 ≤ 37 by omega)]; simp) | (rw [s4]; rw [Bool.not_eq_false] at hc40; rw [hc40]; rfl) | (rw [s4]; rw [Bool.not_eq_false] at hc49; rw [decide_eq_true (tz_t hc49).2]; simp) | (rw [s4]; rw [Bool.not_eq_false] at hc58; rw [decide_eq_true (tz_t hc58).2]; simp)) h1
        ·
          rw [b2i0] at hc49
          exact H _ s c0 _ c hl hn hc4 (by first | (rw [s4, decide_eq_true hc36, decide_eq_true (show tk K s.1 ≤ 37 by omega)]; simp) | (rw [s4]; rw [Bool.not_eq_false] at hc40; rw [hc40]; rfl) | (rw [s4]; rw [Bool.not_eq_false] at hc49; rw [decide_eq_true (tz_t hc49).2]; simp) | (rw [s4]; rw [Bool.not_eq_false] at hc58; rw [decide_eq_true (tz_t hc58).2]; simp)) h1
      ·
        rw [b2i0] at hc40
        exact H _ s c0 _ c hl hn hc4 (by first | (rw [s4, decide_eq_true hc36, decide_eq_true (show tk K s.1 ≤ 37 by omega)]; simp) | (rw [s4]; rw [Bool.not_eq_false] at hc40; rw [hc40]; rfl) | (rw [s4]; rw [Bool.not_eq_false] at hc49; rw [decide_eq_true (tz_t hc49).2]; simp) | (rw [s4]; rw [Bool.not_eq_false] at hc58; rw [decide_eq_true (tz_t hc58).2]; simp)) h1
  ·
    rw [c.fl] at hc4
    refine W_f rfl (by first | rfl | exact ⟨rfl, by first | decide | assumption | exact Or.inl rfl | exact Or.inr rfl | exact b2i_01 _⟩) ?_
    rw [XF s hc4] at h1; exact h1 _ (YR.refl h) c (by rw [List.append_nil]; exact hl)
theorem eP_n : ∀ a, s.2 = 0 → stPt (tk K s.1) = false → eP K a s = (bl K true 1 s, [])
  | 0, hf, hp => by
    show (bl K true 5 (bl K (!stPt (tk K s.1)) 1 s), ([] : List Int32)) = _
    rw [hp, show (!false) = true from rfl, bl_n (s := bl K true 1 s) (Or.inr (by rw [bl_y hf]; dsimp only; omega))]
  | a + 1, hf, hp => by
    have e : ¬ (bl K true 1 s).2 = 0 := by rw [bl_y hf]; dsimp only; omega
    unfold eP
    dsimp only
    rw [hp, show (!false) = true from rfl, sp_n e, if_neg e]
theorem cy_J {v : Int32} {P : EX} (kO : TokOK K) (o : EXo K P) (HP : CY K k (d + 3) m_X13_takePart [.ref 235, .int v] P) : CY K k (d + 7) m_X13_all [.ref 235, .int v] (eJ K P 0) := by
  have o3 := JL_o (m := 1000) kO (by omega : 3 < 4) o
  have o2 := JL_o (m := 1000) kO (by omega : 2 < 4) o3
  have o1 := JL_o (m := 1) kO (by omega : 1 < 4) o2
  exact cy_all (d := d + 3) kO o1 (cy_test (d := d + 2) kO o2 (cy_sums (d := d + 1) kO o3 (cy_products (d := d) kO o HP)))
theorem cy_P (kO : TokOK K) : ∀ a, a ≤ 5 → CY K k (d + 3 + 6 * a) m_X13_takePart [.ref 235, .int (nI (5 - a))] (eP K a)
  | 0, _ => cy_part (d := d) kO (fun s => eP_f 0) (fun s => eP_n 0) (p69_0 kO)
  | a + 1, ha => by
    have ih := cy_P kO a (by omega)
    have j := cy_J (d := d + 6 * a) kO (eP_o kO a) (ih.le (by omega))
    exact (cy_part (d := d + 6 * a + 5) kO (fun s => eP_f (a + 1)) (fun s => eP_n (a + 1)) (p69_S (d := d + 6 * a + 4) kO ha (ih.le (by omega)) (j.le (by omega)))).le (by omega)
theorem cy_E (kO : TokOK K) : CY K k (d + 37) m_X13_all [.ref 235, .int 0] (eE K) := cy_J (d := d + 30) kO (eP_o kO 5) ((cy_P (d := d) kO 5 (by omega)).le (by omega))
end
