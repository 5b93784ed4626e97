section
variable {d k n : Nat} {h h' g : AH} {K : TKs} {s : RS} {D : PD} {N : SN'} {X : EX} {Q : Option Value → AH → Prop}
theorem jl_f {l m : Nat} {z : RS × List Int32} (hz : ¬ z.1.2 = 0) : jl K X l m z = z := jl_e (Or.inr (fun e => hz e.1))
theorem JL_f {l m : Nat} (hX : X s = (s, [])) (hf : ¬ s.2 = 0) : JL K l m X s = (s, []) := by
  unfold JL
  rw [hX]; exact jl_f hf
theorem eE_f (hf : ¬ s.2 = 0) : eE K s = (s, []) := by
  have e4 := eP_f (K := K) (s := s) 5 hf
  exact JL_f (JL_f (JL_f (JL_f e4 hf) hf) hf) hf
theorem pdm_C {n' : Nat} {c : List Int32} (hk : k ≤ 1) (p : PdM h D n) (e1 : ∀ j, hI g 241 j = if j = 103 + k then nI n else hI h 241 j) (e2 : ∀ j, j < 1100 + n → hI g 242 j = hI h 242 j ∧ hI g 243 j = hI h 243 j) (f5 : hJ g 245 = hJ h 245) (f7 : hI g 247 = hI h 247) (g19 : hI g 235 19 = hI h 235 19) (g20 : hI g 235 20 = hI h 235 20 ||| nI (2 ^ k)) (g13 : hI g 235 13 = nI n') (hn : n + c.length < n') (cr : CodeR g n c) : PdM g (setC D k c) n' := by
  obtain ⟨c1, c2, c3, c4, c5, c6, c7, c8, c9, c10, c11⟩ := p
  have up : ∀ j df l, j ≠ 103 + k → LwM h j n df l → LwM g j n' df l := fun j df l hj q => by
    rcases q with ⟨q1, q2, q3⟩ | ⟨q1, i, q2, q3, q4, q5⟩
    · exact Or.inl ⟨q1, by rw [e1, if_neg hj]; exact q2, q3⟩
    · refine Or.inr ⟨q1, i, by rw [e1, if_neg hj]; exact q2, by omega, fun u hu => ?_, ?_⟩
      · rw [(e2 _ (by omega)).1, (e2 _ (by omega)).2]; exact q4 u hu
      · rw [(e2 _ (by omega)).1]; exact q5
  have own : LwM g (103 + k) n' (if k = 0 then [1] else [1, -1, -9, -2, -9]) (c, true) := Or.inr ⟨rfl, n, by rw [e1, if_pos rfl], hn, cr⟩
  refine ⟨by rw [e1, if_neg (by omega)]; exact c1, by rw [e1, if_neg (by omega)]; exact c2, by rw [e1, if_neg (by omega)]; exact c3, by rw [e1, if_neg (by omega)]; exact c4, fun q hq => ?_, fun q hq => ⟨fun w hw => ?_, fun u hu => ?_⟩, ⟨g19.trans c7.1, fun i hi => ?_⟩, ⟨?_, ?_⟩, g13, ?_, ?_⟩
  · rw [e1, e1, e1, if_neg (by omega), if_neg (by omega), if_neg (by omega)]; exact c5 q hq
  · rw [e1, if_neg (by omega)]; exact (c6 q hq).1 w hw
  · rw [e1, if_neg (by omega)]; exact (c6 q hq).2 u hu
  · have := c7.2 i hi
    simp only [if_true] at this ⊢
    rw [f5, f7]; exact this
  · rw [g20, pb_or (by omega) (by omega)]
    show _ = (if k = 0 then (c, true) else dC D).2
    by_cases e : k = 0
    · subst e; rw [if_pos rfl, decide_eq_true rfl, Bool.or_true]
    · rw [if_neg e, decide_eq_false (by omega), Bool.or_false]; exact c8.1
  · rw [g20, pb_or (by omega) (by omega)]
    show _ = (if k = 0 then dD D else (c, true)).2
    by_cases e : k = 0
    · subst e; rw [if_pos rfl, decide_eq_false (by omega), Bool.or_false]; exact c8.2
    · rw [if_neg e, decide_eq_true (by omega), Bool.or_true]
  · show LwM g 103 n' [1] (if k = 0 then (c, true) else dC D)
    by_cases e : k = 0
    · subst e; rw [if_pos rfl]; exact own
    · rw [if_neg e]; exact up 103 _ _ (by omega) c10
  · show LwM g 104 n' [1, -1, -9, -2, -9] (if k = 0 then dD D else (c, true))
    by_cases e : k = 0
    · subst e; rw [if_pos rfl]; exact up 104 _ _ (by omega) c11
    · have : k = 1 := by omega
      subst this; exact own
theorem wh_on (hf : s.2 = 0) : (wh K 8 2 s = -1 ∧ ¬ tk K s.1 = 15 ∧ ¬ tk K s.1 = 16) ∨ (∃ k, k ≤ 1 ∧ wh K 8 2 s = nI k ∧ tk K s.1 = 15 + k) := by
  by_cases e2 : 15 ≤ tk K s.1 ∧ tk K s.1 ≤ 16
  · right
    refine ⟨tk K s.1 - 15, by omega, wh_y 2 (tk K s.1 - 15) (by omega) (by omega) ?_, by omega⟩
    unfold tz tw; rw [decide_eq_true hf, decide_eq_true (by rw [if_pos (by omega)]; omega)]; rfl
  · left
    refine ⟨wh_n (K := K) (s := s) (a := 8) 2 (fun k hk => ?_), by omega, by omega⟩
    cases hz : tz K (tw (8 + k)) s with
    | false => rfl
    | true =>
      have := (tz_t hz).2
      unfold tw at this
      rw [if_pos (by omega)] at this
      exact absurd (by omega) e2
theorem lnL_k {k : Nat} (hk : k ≤ 1) : lnA K s D = lnA K s D := rfl
theorem lnA_law {k : Nat} (hk : k ≤ 1) (ht : tk K s.1 = 15 + k) : lnA K s D = ((eE K (sp K (bl K (if k = 0 then (dC D).2 else (dD D).2) 3 s))).1, setC D k (eE K (sp K (bl K (if k = 0 then (dC D).2 else (dD D).2) 3 s))).2) := by
  rcases Nat.eq_zero_or_pos k with e | e
  · subst e; rw [lnA_15 ht, lnL_0, if_pos rfl]
  · have : k = 1 := by omega
    subst this; rw [lnA_16 ht, lnL_1, if_neg (by decide)]
theorem m_readOnce (kO : TokOK K) (hf : s.2 = 0) (ht : tk K s.1 ≠ 7 ∧ tk K s.1 ≠ 8 ∧ tk K s.1 ≠ 9 ∧ tk K s.1 ≠ 12 ∧ tk K s.1 ≠ 13 ∧ tk K s.1 ≠ 14) (c : MF h K s) (p : PdM h D n) (hn : n ≤ s.1) (h1 : ∀ h', YV h h' → MF h' K (lnA K s D).1 → ((lnA K s D).1.2 = 0 → ∃ n, n ≤ (lnA K s D).1.1 ∧ PdM h' (lnA K s D).2 n) → Q none h') : Rc (d + 38) m_X13_readOnce [.ref 235] h Q := by
  have hs := c.2.1
  have k1 := kO.1
  have bz : ∀ k, 0 < k → ¬ (bl K true k s).2 = 0 := fun k hk => by rw [bl_y hf]; dsimp only; omega
  rcases wh_on (K := K) hf with ⟨w1, w2, w3⟩ | ⟨k, hk, w1, w2⟩
  · rw [lnA_d ⟨ht.1, ht.2.1, ht.2.2.1, ht.2.2.2.1, ht.2.2.2.2.1, ht.2.2.2.2.2, w2, w3⟩] at h1
    refine R_in rfl rfl ?_
    refine R_gs 4 rfl ?_
    refine R_k rfl rfl (m_wordHere kO (a := 8) (m := 2) (by omega) c ?_)
    rw [w1]
    refine R_gs 9 rfl ?_
    refine W_bf rfl (by decide) ?_
    refine R_gs 14 rfl ?_
    refine R_k rfl rfl (m_wrong kO (k := 1) (by decide) c (fun h2 m2 c2 => ?_))
    refine R_gs 41 rfl ?_
    refine W_bf rfl (fun e => bz 1 (by omega) (c2.fl.mp e)) ?_
    refine W_f rfl (by first | rfl | exact ⟨rfl, by first | decide | assumption | exact Or.inl rfl | exact Or.inr rfl | exact b2i_01 _⟩) ?_
    exact h1 _ m2.v c2 (fun e => absurd e (bz 1 (by omega)))
  · rw [lnA_law hk w2] at h1
    have b8 : bt (hI h 235 20) k = (if k = 0 then (dC D).2 else (dD D).2) := (by
      rcases Nat.eq_zero_or_pos k with e | e
      · subst e; exact p.2.2.2.2.2.2.2.1.1
      · have : k = 1 := by omega
        subst this; exact p.2.2.2.2.2.2.2.1.2)
    have e13 : hI h 235 13 = nI n := p.2.2.2.2.2.2.2.2.1
    rw [← b8] at h1
    have tz1 : tz K (15 + k) s = true := (by unfold tz; rw [decide_eq_true hf, decide_eq_true w2]; rfl)
    obtain ⟨q1, q2⟩ := sp_tz kO hs (by omega : 15 + k ≠ 0) tz1
    refine R_in rfl rfl ?_
    refine R_gs 4 rfl ?_
    refine R_k rfl rfl (m_wordHere kO (a := 8) (m := 2) (by omega) c ?_)
    rw [w1]
    refine R_gs 9 rfl ?_
    refine W_bt rfl (nI_pos' (by omega)) ?_
    refine R_gs 29 rfl ?_
    rw [sh_and (by omega)]
    refine W_b rfl (fun hc29 => ?_) (fun hc29 => ?_)
    ·
      rw [if_one] at hc29
      rw [hc29, sp_n (bz 3 (by omega)), eE_f (bz 3 (by omega))] at h1
      refine R_gs 34 rfl ?_
      refine R_k rfl rfl (m_wrong kO (k := 3) (by decide) c (fun h2 m2 c2 => ?_))
      refine R_gs 41 rfl ?_
      refine W_bf rfl (fun e => bz 3 (by omega) (c2.fl.mp e)) ?_
      refine W_f rfl (by first | rfl | exact ⟨rfl, by first | decide | assumption | exact Or.inl rfl | exact Or.inr rfl | exact b2i_01 _⟩) ?_
      exact h1 _ m2.v c2 (fun e => absurd e (bz 3 (by omega)))
    ·
      rw [if_one] at hc29
      rw [Bool.not_eq_true] at hc29
      rw [hc29, bl_n (s := s) (k := 3) (Or.inl rfl), q1] at h1
      refine R_gs 41 rfl ?_
      refine W_bt rfl (c.fl.mpr hf) ?_
      refine R_gs 79 rfl ?_
      refine R_is rfl rfl (j := 103 + k) (ix_add (ix_lit 103) (ix_nI _)) (by omega) ?_
      refine R_gs 82 rfl ?_
      rw [show hI (wI (wI h 235 20 (hI h 235 20 ||| (1 : Int32) <<< (nI k &&& 31))) 235 7 (hI (wI h 235 20 (hI h 235 20 ||| (1 : Int32) <<< (nI k &&& 31))) 235 7 + 1)) 235 13 = nI n from e13, or_if _ _ (by omega)]
      have f2 : MF (wI (wI (wI h 235 20 (hI h 235 20 ||| nI (2 ^ k))) 235 7 (hI h 235 7 + 1)) 241 (103 + k) (nI n)) K (s.1 + 1, 0) := ⟨fun i hi => c.1 i hi, q2, (by show hI h 235 7 + 1 = _; rw [c.2.2.1, nI_1]), (by show hI h 235 8 = _; rw [c.2.2.2.1, hf]), Nat.zero_le _, fun w hw => c.2.2.2.2.2 w hw⟩
      refine R_k rfl rfl (cy_E (k := n) kO _ (s.1 + 1, 0) [] _ f2 ⟨by show hI h 235 13 = _; rw [e13]; rfl, fun i hi => absurd hi (Nat.not_lt_zero i)⟩ (by dsimp only [List.length_nil]; omega) (fun h3 y3 f3 e3 => ?_))
      rw [List.nil_append] at e3
      have o3 := eE_o kO (s.1 + 1, 0) q2
      obtain ⟨zz, ezz⟩ : ∃ zz, zz = eE K (s.1 + 1, 0) := ⟨_, rfl⟩
      rw [← ezz] at f3 e3 o3 h1
      dsimp only at o3 h1
      refine R_gs 88 rfl ?_
      refine R_k rfl rfl (m_emit0 (n := n + zz.2.length) e3.1 (by omega) ?_)
      refine W_f rfl (by first | rfl | exact ⟨rfl, by first | decide | assumption | exact Or.inl rfl | exact Or.inr rfl | exact b2i_01 _⟩) ?_
      have y0 : YV h (wI (wI (wI h 235 20 (hI h 235 20 ||| nI (2 ^ k))) 235 7 (hI h 235 7 + 1)) 241 (103 + k) (nI n)) := ⟨((((Fr.refl _ h).wI rfl).wI rfl).wI rfl), fun j hj => (wI_at _ _ _ _ _).trans (if_neg (by omega)), fun _ _ => ⟨rfl, rfl⟩, fun j a1 a2 a3 a4 a5 => by show hI (wI (wI h 235 20 _) 235 7 _) 235 j = _; rw [wI_at, if_neg a1, wI_at, if_neg a5]⟩
      have y4 : YR (n + zz.2.length) h3 (wI (wI (wI h3 242 (1100 + (n + zz.2.length)) 0) 243 (1100 + (n + zz.2.length)) 0) 235 13 (hI h3 235 13 + 1)) := ⟨((((Fr.refl _ h3).wI rfl).wI rfl).wI rfl), fun j h7 h8 h13 => (wI_at _ _ _ _ _).trans (if_neg h13), fun j hj => ⟨(wI_at h3 242 (1100 + (n + zz.2.length)) 0 j).trans (if_neg (by omega)), (wI_at (wI h3 242 (1100 + (n + zz.2.length)) 0) 243 (1100 + (n + zz.2.length)) 0 j).trans (if_neg (by omega))⟩⟩
      refine h1 _ ((y0.trans y3.v).trans y4.v) (f3.fr (X := yem) y4.1 rfl rfl rfl rfl rfl rfl) (fun _ => ⟨n + zz.2.length + 1, by omega, pdm_C hk p (fun j => ?_) (fun j hj => ?_) (y3.1.J rfl) (y3.1.I rfl) (y3.2.1 19 (by decide) (by decide) (by decide)) (y3.2.1 20 (by decide) (by decide) (by decide)) ?_ (by omega) ⟨fun i hi => ?_, ?_⟩⟩)
      · show hI h3 241 j = _; rw [y3.1.I (b := 241) rfl]; exact wI_at _ _ _ _ _
      · exact ⟨(y4.2.2 j (by omega)).1.trans (y3.2.2 j hj).1, (y4.2.2 j (by omega)).2.trans (y3.2.2 j hj).2⟩
      · show hI h3 235 13 + 1 = _; rw [e3.1, nI_1]
      · rw [(y4.2.2 _ (by omega)).1, (y4.2.2 _ (by omega)).2]; exact e3.2 i hi
      · exact (wI_at h3 242 (1100 + (n + zz.2.length)) 0 _).trans (if_pos rfl)
theorem m_readLine (kO : TokOK K) (hf : s.2 = 0) (c : MF h K s) (p : PdM h D n) (hn : n ≤ s.1) (o : PdO D) (oB : PdB D) (hM : dM D = dP D) (h1 : ∀ h', YV h h' → MF h' K (lnA K s D).1 → ((lnA K s D).1.2 = 0 → ∃ n, n ≤ (lnA K s D).1.1 ∧ PdM h' (lnA K s D).2 n) → Q none h') : Rc (d + 39) m_X13_readLine [.ref 235] h Q := by
  have z : ∀ t, tz K t s = true → tk K s.1 = t := fun t hz => (tz_t hz).2
  have zn : ∀ t, tz K t s = false → tk K s.1 ≠ t := fun t hz e => tz_f hz ⟨hf, e⟩
  refine R_in rfl rfl ?_
  refine R_gs 2 rfl ?_
  refine R_k rfl rfl (m_isWord (w := 0) kO (by decide) c ?_)
  rw [show tw 0 = 7 from rfl]
  refine W_b rfl (fun hc5 => ?_) (fun hc5 => ?_)
  ·
    rw [b2i0] at hc5
    refine R_gs 20 rfl ?_
    refine R_k rfl rfl (m_isWord (w := 1) kO (by decide) c ?_)
    rw [show tw 1 = 8 from rfl]
    refine W_b rfl (fun hc23 => ?_) (fun hc23 => ?_)
    ·
      rw [b2i0] at hc23
      refine R_gs 39 rfl ?_
      refine R_k rfl rfl (m_isWord (w := 2) kO (by decide) c ?_)
      rw [show tw 2 = 9 from rfl]
      refine W_b rfl (fun hc42 => ?_) (fun hc42 => ?_)
      ·
        rw [b2i0] at hc42
        refine R_gs 54 rfl ?_
        refine R_k rfl rfl (m_isWord (w := 5) kO (by decide) c ?_)
        rw [show tw 5 = 12 from rfl]
        refine W_b rfl (fun hc57 => ?_) (fun hc57 => ?_)
        ·
          rw [b2i0] at hc57
          refine R_gs 70 rfl ?_
          refine R_k rfl rfl (m_isWord (w := 6) kO (by decide) c ?_)
          rw [show tw 6 = 13 from rfl]
          refine W_b rfl (fun hc73 => ?_) (fun hc73 => ?_)
          ·
            rw [b2i0] at hc73
            refine R_gs 86 rfl ?_
            refine R_k rfl rfl (m_isWord (w := 7) kO (by decide) c ?_)
            rw [show tw 7 = 14 from rfl]
            refine W_b rfl (fun hc89 => ?_) (fun hc89 => ?_)
            ·
              rw [b2i0] at hc89
              refine R_gs 100 rfl ?_
              refine R_k rfl rfl (m_readOnce kO hf ⟨zn _ hc5, zn _ hc23, zn _ hc42, zn _ hc57, zn _ hc73, zn _ hc89⟩ c p hn (fun h2 v2 c2 e2 => ?_))
              refine W_f rfl (by first | rfl | exact ⟨rfl, by first | decide | assumption | exact Or.inl rfl | exact Or.inr rfl | exact b2i_01 _⟩) ?_
              exact h1 _ v2 c2 e2
            ·
              rw [b2i0] at hc89
              rw [Bool.not_eq_false] at hc89
              rw [lnA_14 (z _ hc89)] at h1
              refine R_gs 93 rfl ?_
              refine R_k rfl rfl (m_readKept kO (z _ hc89) hf c p hn o (fun h2 v2 c2 e2 => ?_))
              refine R_gs 103 rfl ?_
              refine W_f rfl (by first | rfl | exact ⟨rfl, by first | decide | assumption | exact Or.inl rfl | exact Or.inr rfl | exact b2i_01 _⟩) ?_
              exact h1 _ v2 c2 e2
          ·
            rw [b2i0] at hc73
            rw [Bool.not_eq_false] at hc73
            rw [lnA_13 (z _ hc73)] at h1
            refine R_gs 77 rfl ?_
            refine R_k rfl rfl (m_readLikes kO (z _ hc73) hf c p hn o oB (fun h2 v2 c2 e2 => ?_))
            refine R_gs 103 rfl ?_
            refine W_f rfl (by first | rfl | exact ⟨rfl, by first | decide | assumption | exact Or.inl rfl | exact Or.inr rfl | exact b2i_01 _⟩) ?_
            exact h1 _ v2 c2 e2
        ·
          rw [b2i0] at hc57
          rw [Bool.not_eq_false] at hc57
          rw [lnA_12 (z _ hc57)] at h1
          refine R_gs 61 rfl ?_
          refine R_k rfl rfl (m_readSays kO (z _ hc57) hf c p hn o oB (fun h2 v2 c2 e2 => ?_))
          refine R_gs 103 rfl ?_
          refine W_f rfl (by first | rfl | exact ⟨rfl, by first | decide | assumption | exact Or.inl rfl | exact Or.inr rfl | exact b2i_01 _⟩) ?_
          exact h1 _ v2 c2 e2
      ·
        rw [b2i0] at hc42
        rw [Bool.not_eq_false] at hc42
        rw [lnA_9 (z _ hc42)] at h1
        refine R_gs 46 rfl ?_
        refine R_k rfl rfl (m_readPerson kO (z _ hc42) hf c p hn o hM (fun h2 v2 c2 e2 => ?_))
        refine R_gs 103 rfl ?_
        refine W_f rfl (by first | rfl | exact ⟨rfl, by first | decide | assumption | exact Or.inl rfl | exact Or.inr rfl | exact b2i_01 _⟩) ?_
        exact h1 _ v2 c2 e2
    ·
      rw [b2i0] at hc23
      rw [Bool.not_eq_false] at hc23
      rw [lnA_8 (z _ hc23)] at h1
      refine R_gs 31 rfl ?_
      refine R_k rfl rfl (m_readName (σ := 1) kO (by omega) (z _ hc23) hf c p hn o (fun h2 v2 c2 n2 p2 => ?_))
      refine R_gs 103 rfl ?_
      refine W_f rfl (by first | rfl | exact ⟨rfl, by first | decide | assumption | exact Or.inl rfl | exact Or.inr rfl | exact b2i_01 _⟩) ?_
      exact h1 _ v2 c2 (fun _ => ⟨n, n2, p2⟩)
  ·
    rw [b2i0] at hc5
    rw [Bool.not_eq_false] at hc5
    rw [lnA_7 (z _ hc5)] at h1
    refine R_gs 12 rfl ?_
    refine R_k rfl rfl (m_readName (σ := 0) kO (by omega) (z _ hc5) hf c p hn o (fun h2 v2 c2 n2 p2 => ?_))
    refine R_gs 103 rfl ?_
    refine W_f rfl (by first | rfl | exact ⟨rfl, by first | decide | assumption | exact Or.inl rfl | exact Or.inr rfl | exact b2i_01 _⟩) ?_
    exact h1 _ v2 c2 (fun _ => ⟨n, n2, p2⟩)
end
