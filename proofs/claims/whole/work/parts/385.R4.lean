def yrt (q : Nat) : Bool := Nat.beq q 235 || Nat.beq q 259 || Nat.beq q 260
def BsM (h : AH) (L : SL) (s : Nat × (Nat → Nat)) : Prop := s.1 ≤ 7 ∧ hI h 235 36 = nI s.1 ∧ (s.1 < 7 → ∀ x, x < lP L → hI h 260 x = nI (s.2 x) - 1)
section
variable {d : Nat} {h h' : AH} {L : SL} {S : SS} {H : SH'} {B : SB'} {M : SM'} {D : SD'} {T : ST'} {N : SN'} {Q : Option Value → AH → Prop}
theorem BsM.fr {g g' : AH} {s : Nat × (Nat → Nat)} (b : BsM g L s) (e1 : hI g' 235 36 = hI g 235 36) (e2 : ∀ x, hI g' 260 x = hI g 260 x) : BsM g' L s := ⟨b.1, e1.trans b.2.1, fun h x hx => (e2 x).trans (b.2.2 h x hx)⟩
theorem rt_0 {pr : Nat → Bool} {cl : Nat → Nat → Bool} {p many : Nat} {c : Nat → Nat} {s : Nat × (Nat → Nat)} : rtT pr cl 0 p many c s = if s.1 ≤ many then s else (many, c) := rfl
theorem rt_s {pr : Nat → Bool} {cl : Nat → Nat → Bool} {f p many : Nat} {c : Nat → Nat} {s : Nat × (Nat → Nat)} : rtT pr cl (f + 1) p many c s = if s.1 ≤ many then s else if pr p = true then lp (fun t s => if frT cl p t c = true then rtT pr cl f (p + 1) (if t = many then many + 1 else many) (upC c p (t + 1)) s else s) (many + 1) s else rtT pr cl f (p + 1) many (upC c p 0) s := rfl
theorem m_rot (hO : LandOK L) (hV : SceneOK L S) {z : Nat} (hz : z < lQ L) : ∀ f p many c s (g : AH) (Q : Option Value → AH → Prop), p + f = lP L → many ≤ p → (∀ x, x < p → c x ≤ 7) → LandM g L → SceneM g 0 L S → (∀ x, x < p → hI g 259 x = nI (c x) - 1) → BsM g L s → (∀ g', Fr yrt g g' → (∀ k, k ≠ 36 → hI g' 235 k = hI g 235 k) → (∀ x, x < p → hI g' 259 x = hI g 259 x) → BsM g' L (rtT (preB L S z) (clas L S) f p many c s) → Q none g') → Rc (d + f + 8) m_X13_rotas [.ref 235, .int (nI z), .int (nI p), .int (nI many)] g Q
  | 0, p, many, c, s, g, Q, hp, hm, hc, hL, hS, hC, hB, h1 => by
    obtain ⟨o1, o2, o3, o4, -⟩ := id hO
    have b1 := hB.1
    rw [rt_0] at h1
    refine R_in rfl rfl ?_
    refine R_gs 5 rfl ?_
    try rw [hB.2.1]
    refine W_b rfl (fun hc5 => ?_) (fun hc5 => ?_)
    ·
      rw [nI_ltI (by omega) (by omega)] at hc5
      refine R_gs 11 rfl ?_
      refine R_k rfl rfl (m_people hL ?_)
      refine W_bt rfl (by rw [show p = lP L by omega]) ?_
      refine R_gs 25 rfl ?_
      rw [if_neg (by omega)] at h1
      refine w_inv (W := fun k (u : AH) => Rw (d + 0 + 7) Q (m_X13_rotas, 25, [some (.ref 235), some (.int (nI z)), some (.int (nI p)), some (.int (nI many)), some (.int (nI k)), none, none], [], 262, u)) p (fun k u => Fr (fun q => Nat.beq q 260) (wI g 235 36 (nI many)) u ∧ ∀ x, x < k → hI u 260 x = nI (c x) - 1) (s0 := wI g 235 36 (nI many)) ⟨Fr.refl _ _, fun x hx => absurd hx (by omega)⟩ (fun k u hk hi w => ?_) (fun u hi => ?_)
      ·
        obtain ⟨i1, i2⟩ := hi
        refine R_gs 28 rfl ?_
        refine W_bf rfl (ltc hk (by omega)) ?_
        refine R_gs 43 rfl ?_
        refine R_il rfl (by first | rfl | exact shO (by decide) (by omega) | exact shG (by decide) (by omega)) (by repeat (first | with_reducible apply ix_add | with_reducible apply ix_mul | with_reducible exact ix_nI _ | with_reducible exact ix_lit _ | exact rfl)) (by omega) (by first | exact (congrFun (i1.I rfl) k).trans (hC k hk)) ?_
        refine R_is rfl (by first | rfl | exact shO (by decide) (by omega) | exact shG (by decide) (by omega)) (by repeat (first | with_reducible apply ix_add | with_reducible apply ix_mul | with_reducible exact ix_nI _ | with_reducible exact ix_lit _ | exact rfl)) (by omega) ?_
        refine R_gs 25 rfl ?_
        rw [nI_1]; refine w _ ⟨i1.wI rfl, fun x hx => ?_⟩
        rw [wI_at]; by_cases ex : x = k; rw [if_pos ex, ex]; rw [if_neg ex]; exact i2 x (by omega)
      ·
        obtain ⟨i1, i2⟩ := hi
        refine R_gs 28 rfl ?_
        refine W_bt rfl (gec (by omega)) ?_
        refine W_f rfl (by first | rfl | exact ⟨rfl, by first | decide | assumption | exact Or.inl rfl | exact Or.inr rfl | exact b2i_01 _⟩) ?_
        refine h1 u (((Fr.refl _ g).wI rfl).trans (i1.mono (fun q hq => by have := Nat.eq_of_beq_eq_true hq; subst this; rfl))) (fun k hk => ?_) (fun x _ => congrFun (i1.I rfl) x) ⟨by dsimp only; omega, congrFun (i1.I rfl) 36, fun _ x hx => i2 x (by omega)⟩
        rw [i1.I rfl, wI_at, if_neg hk]
    ·
      rw [nI_ltI (by omega) (by omega)] at hc5
      refine W_f rfl (by first | rfl | exact ⟨rfl, by first | decide | assumption | exact Or.inl rfl | exact Or.inr rfl | exact b2i_01 _⟩) ?_
      rw [if_pos (by omega)] at h1; exact h1 g (Fr.refl _ g) (fun _ _ => rfl) (fun _ _ => rfl) hB
  | f + 1, p, many, c, s, g, Q, hp, hm, hc, hL, hS, hC, hB, h1 => by
    obtain ⟨o1, o2, o3, o4, -⟩ := id hO
    have b1 := hB.1
    have ih := m_rot hO hV hz f
    have v1 := (hV.2.1 p (by omega)).1
    have epr : preB L S z p = decide (sA S p = z) := by { unfold preB; rw [decide_eq_true (by omega : p < lP L), Bool.true_and] }
    rw [rt_s, epr] at h1
    refine R_in rfl rfl ?_
    refine R_gs 5 rfl ?_
    try rw [hB.2.1]
    refine W_b rfl (fun hc5 => ?_) (fun hc5 => ?_)
    ·
      rw [nI_ltI (by omega) (by omega)] at hc5
      refine R_gs 11 rfl ?_
      refine R_k rfl rfl (m_people hL ?_)
      refine W_bf rfl (fun e => absurd ((nI_eq (by omega) (by omega)).mp e) (by omega)) ?_
      refine R_gs 58 rfl ?_
      rw [if_neg (by omega)] at h1
      refine R_is rfl rfl (ix_nI _) (by omega) ?_
      have g1 : Fr yrt g (wI g 259 p (-1)) := (Fr.refl _ g).wI rfl
      have L1 := hL.fr g1 rfl rfl rfl
      have S1 := hS.fr g1 rfl
      have C1 : ∀ x, x < p → hI (wI g 259 p (-1)) 259 x = nI (c x) - 1 := fun x hx => by { rw [wI_at, if_neg (by omega)]; exact hC x hx }
      have B1 : BsM (wI g 259 p (-1)) L s := hB
      refine R_gs 66 rfl ?_
      refine R_il rfl (by first | rfl | exact shO (by decide) (by omega) | exact shG (by decide) (by omega)) (by repeat (first | with_reducible apply ix_add | with_reducible apply ix_mul | with_reducible exact ix_nI _ | with_reducible exact ix_lit _ | exact rfl)) (by omega) (by first | exact c0A (S1.A (by omega))) ?_
      refine R_gs 68 rfl ?_
      refine W_b rfl (fun hc68 => ?_) (fun hc68 => ?_)
      ·
        rw [nI_eq (by omega) (by omega)] at hc68
        refine R_gs 84 rfl ?_
        rw [decide_eq_true hc68, if_pos rfl] at h1
        refine w_inv (W := fun t (u : AH × (Nat × (Nat → Nat))) => ∀ x5 x6 : Option Value, Rw (d + (f + 1) + 7) Q (m_X13_rotas, 84, [some (.ref 235), some (.int (nI z)), some (.int (nI p)), some (.int (nI many)), some (.int (nI t)), x5, x6], [], 262, u.1)) (many + 1) (fun t u => Fr yrt g u.1 ∧ (∀ k, k ≠ 36 → hI u.1 235 k = hI g 235 k) ∧ (∀ x, x < p → hI u.1 259 x = hI g 259 x) ∧ BsM u.1 L u.2 ∧ u.2 = lp (fun t s => if frT (clas L S) p t c = true then rtT (preB L S z) (clas L S) f (p + 1) (if t = many then many + 1 else many) (upC c p (t + 1)) s else s) t s) (s0 := (wI g 259 p (-1), s)) ⟨g1, fun _ _ => rfl, fun x hx => by dsimp only; rw [wI_at, if_neg (by omega)], B1, rfl⟩ (fun t u ht hu w => ?_) (fun u hu => ?_) none none
        ·
          intro x5 x6
          obtain ⟨u, s1⟩ := u
          obtain ⟨i1, i2, i3, i4, i5⟩ := hu
          dsimp only at i1 i2 i3 i4 i5 ⊢
          have uL := hL.fr i1 rfl rfl rfl
          have uS := hS.fr i1 rfl
          refine R_gs 87 rfl ?_
          refine W_bf rfl (fun e => absurd ((nI_ltI (by omega) (by omega)).mp e) (by omega)) ?_
          refine R_gs 96 rfl ?_
          refine w_inv (W := fun q (b : Bool) => Rw (d + (f + 1) + 7) Q (m_X13_rotas, 96, [some (.ref 235), some (.int (nI z)), some (.int (nI p)), some (.int (nI many)), some (.int (nI t)), some (.int (b2i b)), some (.int (nI q))], [], 262, u)) p (fun q b => b = (true && !anyN q (fun y => decide (c y = t + 1) && clas L S p y))) (s0 := true) rfl (fun q b hq hb w2 => ?_) (fun b hb => ?_)
          ·
            refine R_gs 99 rfl ?_
            refine W_bf rfl (ltc hq (by omega)) ?_
            refine R_gs 104 rfl ?_
            refine W_b rfl (fun hc104 => ?_) (fun hc104 => ?_)
            ·
              refine R_gs 96 rfl ?_
              rw [nI_1]; exact w2 false (st_0 hb (b2i0.mp hc104))
            ·
              refine R_gs 113 rfl ?_
              refine R_il rfl (by first | rfl | exact shO (by decide) (by omega) | exact shG (by decide) (by omega)) (by repeat (first | with_reducible apply ix_add | with_reducible apply ix_mul | with_reducible exact ix_nI _ | with_reducible exact ix_lit _ | exact rfl)) (by omega) (by first | exact (i3 q hq).trans (hC q hq)) ?_
              refine R_gs 116 rfl ?_
              refine W_b rfl (fun hc116 => ?_) (fun hc116 => ?_)
              ·
                rw [t1_eq (by have := hc q hq; omega) (by omega)] at hc116
                refine R_gs 123 rfl ?_
                refine R_k rfl rfl (m_doClash uL hO uS hV (by omega) (by omega) (by omega) (fun hx123 => ?_) (fun hx123 => ?_))
                ·
                  refine W_bf rfl (by decide) ?_
                  refine R_gs 96 rfl ?_
                  rw [nI_1]; exact w2 false (st_t (by rw [decide_eq_true hc116, hx123]; rfl))
                ·
                  refine W_bt rfl (by decide) ?_
                  refine R_gs 96 rfl ?_
                  rw [nI_1]; exact w2 true (st_f hb (by rw [hx123]; simp) (fun e => hc104 (b2i0.mpr e)))
              ·
                rw [t1_eq (by have := hc q hq; omega) (by omega)] at hc116
                refine R_gs 96 rfl ?_
                rw [nI_1]; exact w2 true (st_f hb (by rw [decide_eq_false hc116]; rfl) (fun e => hc104 (b2i0.mpr e)))
          ·
            have hb : b = frT (clas L S) p t c := hb
            refine R_gs 99 rfl ?_
            refine W_bt rfl (gec (by omega)) ?_
            refine R_gs 144 rfl ?_
            refine W_b rfl (fun hc144 => ?_) (fun hc144 => ?_)
            ·
              refine R_gs 84 rfl ?_
              rw [nI_1]; refine w (u, s1) ⟨i1, i2, i3, i4, ?_⟩ _ _
              show s1 = (if frT (clas L S) p t c = true then _ else _); rw [if_neg (by rw [show frT (clas L S) p t c = b from hb.symm, b2i0.mp hc144]; decide)]; exact i5
            ·
              refine R_gs 154 rfl ?_
              have ft : frT (clas L S) p t c = true := (by rw [← hb]; cases b; exact absurd rfl hc144; rfl)
              refine R_is rfl rfl (ix_nI _) (by omega) ?_
              have u1 : Fr yrt g (wI u 259 p (nI t)) := i1.wI rfl
              refine R_gs 163 rfl ?_
              refine W_b rfl (fun hc163 => ?_) (fun hc163 => ?_)
              ·
                rw [nI_eq (by omega) (by omega)] at hc163
                refine R_gs 173 rfl ?_
                rw [nI_1, nI_1]
                refine R_k rfl rfl (ih (p + 1) (many + 1) (upC c p (t + 1)) s1 _ _ (by omega) (by omega) (fun x hx => by unfold upC; split; omega; exact hc x (by omega)) (hL.fr u1 rfl rfl rfl) (hS.fr u1 rfl) (fun x hx => by unfold upC; rw [wI_at]; split; rw [nI_pred]; rw [i3 x (by omega)]; exact hC x (by omega)) i4 (fun g2 f2 e1 e2 r2 => ?_))
                have ei : (if t = many then many + 1 else many) = many + 1 := if_pos hc163
                refine R_gs 182 rfl ?_
                rw [← ei] at r2
                refine R_is rfl rfl (ix_nI _) (by omega) ?_
                refine R_gs 84 rfl ?_
                rw [nI_1]; refine w (wI g2 259 p (-1), _) ⟨((i1.wI rfl).trans f2).wI rfl, fun k hk => (e1 k hk).trans (i2 k hk), fun x hx => ?_, r2, ?_⟩ _ _
                · dsimp only; rw [wI_at, if_neg (by omega), e2 x (by omega), wI_at, if_neg (by omega)]; exact i3 x hx
                · show _ = (if frT (clas L S) p t c = true then _ else _); rw [if_pos ft, ← i5]
              ·
                rw [nI_eq (by omega) (by omega)] at hc163
                refine R_gs 173 rfl ?_
                rw [nI_1]
                refine R_k rfl rfl (ih (p + 1) many (upC c p (t + 1)) s1 _ _ (by omega) (by omega) (fun x hx => by unfold upC; split; omega; exact hc x (by omega)) (hL.fr u1 rfl rfl rfl) (hS.fr u1 rfl) (fun x hx => by unfold upC; rw [wI_at]; split; rw [nI_pred]; rw [i3 x (by omega)]; exact hC x (by omega)) i4 (fun g2 f2 e1 e2 r2 => ?_))
                have ei : (if t = many then many + 1 else many) = many := if_neg hc163
                refine R_gs 182 rfl ?_
                rw [← ei] at r2
                refine R_is rfl rfl (ix_nI _) (by omega) ?_
                refine R_gs 84 rfl ?_
                rw [nI_1]; refine w (wI g2 259 p (-1), _) ⟨((i1.wI rfl).trans f2).wI rfl, fun k hk => (e1 k hk).trans (i2 k hk), fun x hx => ?_, r2, ?_⟩ _ _
                · dsimp only; rw [wI_at, if_neg (by omega), e2 x (by omega), wI_at, if_neg (by omega)]; exact i3 x hx
                · show _ = (if frT (clas L S) p t c = true then _ else _); rw [if_pos ft, ← i5]
        ·
          intro x5 x6
          obtain ⟨u, s1⟩ := u
          obtain ⟨i1, i2, i3, i4, i5⟩ := hu
          dsimp only at i1 i2 i3 i4 i5 ⊢
          refine R_gs 87 rfl ?_
          refine W_bt rfl ((nI_ltI (by omega) (by omega)).mpr (by omega)) ?_
          refine W_f rfl (by first | rfl | exact ⟨rfl, by first | decide | assumption | exact Or.inl rfl | exact Or.inr rfl | exact b2i_01 _⟩) ?_
          rw [← i5] at h1; exact h1 u i1 i2 i3 i4
      ·
        rw [nI_eq (by omega) (by omega)] at hc68
        refine R_gs 77 rfl ?_
        rw [decide_eq_false hc68, if_neg (by decide)] at h1
        rw [nI_1]
        refine R_k rfl rfl (ih (p + 1) many (upC c p 0) s _ _ (by omega) (by omega) (fun x hx => by unfold upC; split; omega; exact hc x (by omega)) L1 S1 (fun x hx => by unfold upC; split; rename_i e; rw [e, wI_at, if_pos rfl]; rfl; exact C1 x (by omega)) B1 (fun g2 f2 e1 e2 r2 => ?_))
        refine W_f rfl (by first | rfl | exact ⟨rfl, by first | decide | assumption | exact Or.inl rfl | exact Or.inr rfl | exact b2i_01 _⟩) ?_
        exact h1 g2 (g1.trans f2) (fun k hk => e1 k hk) (fun x hx => (e2 x (by omega)).trans (by rw [wI_at, if_neg (by omega)])) r2
    ·
      rw [nI_ltI (by omega) (by omega)] at hc5
      refine W_f rfl (by first | rfl | exact ⟨rfl, by first | decide | assumption | exact Or.inl rfl | exact Or.inr rfl | exact b2i_01 _⟩) ?_
      rw [if_pos (by omega)] at h1; exact h1 g (Fr.refl _ g) (fun _ _ => rfl) (fun _ _ => rfl) hB
theorem tu_lt (pr : Nat → Bool) (cl : Nat → Nat → Bool) : (tuT pr cl).1 < 7 := by
  unfold tuT
  split
  · obtain ⟨m, r, e1, h1, h2, -⟩ := tu_I (pr := pr) (cl := cl) 6 1 (by omega) (by omega) (fun m' a b => by omega)
    rw [e1]; show m < 7; omega
  · show 0 < 7; omega
theorem y_rota (W : WOK L S H B M D T N) (c : RM h L S H B M D T N) {s w : Int32} (h1 : ∀ h', Fr xM h h' → RM h' L S H B M D T N → Q (some (.int (rotA L S s w))) h') : Rc (d + 16) m_X13_rota [.ref 235, .int s, .int w] h Q := by
  have hO := W.1
  have hV := W.2.1
  have o2 := hO.2.1
  have o3 := hO.2.2.1
  have c0 := c.thr
  have F0 : Fr xM h (wI h 235 0 0) := (Fr.refl _ h).wI rfl
  have k0 : Fr (fun q => Nat.beq q 235) (wI h 235 0 0) (wI (wI h 235 0 0) 235 36 7) := (Fr.refl _ _).wI rfl
  unfold rotA at h1
  refine R_in rfl rfl ?_
  refine R_gs 7 rfl ?_
  refine R_k rfl rfl (m_isPlace c0.1 (fun hx7 => ?_) (fun hx7 => ?_))
  ·
    refine W_bf rfl (by decide) ?_
    refine R_gs 15 rfl ?_
    refine W_b rfl (fun hc15 => ?_) (fun hc15 => ?_)
    ·
      refine R_gs 39 rfl ?_
      obtain ⟨k, hk, rfl⟩ := inN_of (by omega) hx7
      rw [hx7, Bool.true_and, if_pos (by simp [*]), nI_clamp (by omega)] at h1
      have he : d + 15 = (d + 7 - lP L) + lP L + 8 := (by omega)
      change Rw (d + 15) Q _
      rw [he]
      refine R_k rfl rfl (m_rot (d := d + 7 - lP L) (S := S) hO hV hk (lP L) 0 0 (fun _ => 0) (7, fun _ => 0) _ _ (by omega) (by omega) (fun x hx => by omega) (c0.1.fr k0 rfl rfl rfl) (c0.2.1.fr k0 rfl) (fun x hx => by omega) ⟨Nat.le_refl _, rfl, fun e => absurd e (Nat.lt_irrefl _)⟩ (fun g2 f2 e1 _ r2 => ?_))
      obtain ⟨q1, q2⟩ := tu_rt (pr := preB L S k) (cl := clas L S) (k := lP L) (b := fun _ => 0) o3 (fun x hx => by unfold preB; rw [decide_eq_false (by omega)]; rfl)
      have q3 := r2.2.1
      have q4 := r2.2.2
      rw [q1] at q3 q4
      have F2 : Fr xM h g2 := (F0.wI rfl).trans (f2.mono (fun q hq => by simp only [yrt, Bool.or_eq_true, Nat.beq_eq] at hq; rcases hq with (rfl | rfl) | rfl <;> rfl))
      have R2 := RM.scr (c0.scr k0 ⟨rfl, rfl, rfl, rfl, rfl, rfl, rfl, rfl, rfl⟩ rfl rfl rfl) f2 ⟨rfl, rfl, rfl, rfl, rfl, rfl, rfl, rfl, rfl⟩ (e1 2 (by decide)) (e1 18 (by decide)) (e1 25 (by decide))
      refine R_gs 43 rfl ?_
      refine W_bf rfl ((by rw [hc15]; decide)) ?_
      refine R_gs 59 rfl ?_
      rw [q3]
      refine W_f rfl (by first | rfl | exact ⟨rfl, by first | decide | assumption | exact Or.inl rfl | exact Or.inr rfl | exact b2i_01 _⟩) ?_
      rw [if_pos hc15] at h1; exact h1 _ F2 R2
    ·
      refine R_gs 20 rfl ?_
      refine R_k rfl rfl (m_isPerson c0.1 (fun hx20 => ?_) (fun hx20 => ?_))
      ·
        refine W_bf rfl (by decide) ?_
        refine R_gs 39 rfl ?_
        obtain ⟨k, hk, rfl⟩ := inN_of (by omega) hx7
        rw [hx7, Bool.true_and, if_pos (by simp [*]), nI_clamp (by omega)] at h1
        have he : d + 15 = (d + 7 - lP L) + lP L + 8 := (by omega)
        change Rw (d + 15) Q _
        rw [he]
        refine R_k rfl rfl (m_rot (d := d + 7 - lP L) (S := S) hO hV hk (lP L) 0 0 (fun _ => 0) (7, fun _ => 0) _ _ (by omega) (by omega) (fun x hx => by omega) (c0.1.fr k0 rfl rfl rfl) (c0.2.1.fr k0 rfl) (fun x hx => by omega) ⟨Nat.le_refl _, rfl, fun e => absurd e (Nat.lt_irrefl _)⟩ (fun g2 f2 e1 _ r2 => ?_))
        obtain ⟨q1, q2⟩ := tu_rt (pr := preB L S k) (cl := clas L S) (k := lP L) (b := fun _ => 0) o3 (fun x hx => by unfold preB; rw [decide_eq_false (by omega)]; rfl)
        have q3 := r2.2.1
        have q4 := r2.2.2
        rw [q1] at q3 q4
        have F2 : Fr xM h g2 := (F0.wI rfl).trans (f2.mono (fun q hq => by simp only [yrt, Bool.or_eq_true, Nat.beq_eq] at hq; rcases hq with (rfl | rfl) | rfl <;> rfl))
        have R2 := RM.scr (c0.scr k0 ⟨rfl, rfl, rfl, rfl, rfl, rfl, rfl, rfl, rfl⟩ rfl rfl rfl) f2 ⟨rfl, rfl, rfl, rfl, rfl, rfl, rfl, rfl, rfl⟩ (e1 2 (by decide)) (e1 18 (by decide)) (e1 25 (by decide))
        refine R_gs 43 rfl ?_
        refine W_bt rfl ((by obtain ⟨k, hk, rfl⟩ := inN_of (by omega) hx20; exact nI_pos' (by omega))) ?_
        refine R_gs 58 rfl ?_
        obtain ⟨v, hv, rfl⟩ := inN_of (by omega) hx20
        refine R_il rfl rfl (ix_nI _) (by omega) ((q4 (tu_lt _ _) v hv).trans (by rw [q2 v hv])) ?_
        refine W_f rfl (by first | rfl | exact ⟨rfl, by first | decide | assumption | exact Or.inl rfl | exact Or.inr rfl | exact b2i_01 _⟩) ?_
        rw [if_neg hc15, nI_clamp (by omega)] at h1; exact h1 _ F2 R2
      ·
        refine W_bt rfl (by decide) ?_
        refine R_gs 28 rfl ?_
        refine W_f rfl (by first | rfl | exact ⟨rfl, by first | decide | assumption | exact Or.inl rfl | exact Or.inr rfl | exact b2i_01 _⟩) ?_
        rw [hx7, hx20, decide_eq_false hc15, Bool.or_false, Bool.and_false, if_neg (by decide)] at h1; exact h1 _ F0 c0
  ·
    refine W_bt rfl (by decide) ?_
    refine R_gs 28 rfl ?_
    refine W_f rfl (by first | rfl | exact ⟨rfl, by first | decide | assumption | exact Or.inl rfl | exact Or.inr rfl | exact b2i_01 _⟩) ?_
    rw [hx7, Bool.false_and, if_neg (by decide)] at h1; exact h1 _ F0 c0
end
