section
variable {d : Nat} {h h' : AH} {L : SL} {S : SS} {H : SH'} {B : SB'} {M : SM'} {D : SD'} {T : ST'} {N : SN'} {Q : Option Value → AH → Prop}
def MRk' (h : AH) (L : SL) (s : Nat × Nat) : Prop := hI h 235 33 = nI s.1 ∧ (s.1 ≠ 0 → ∀ x, x < lP L → hI h 258 x = nI (parN s.2 x))
theorem mt_y {s : Nat × Nat} {pa : Nat} (h1 : subB L S pa) (h2 : lasB L S pa = true) : mtG L S s pa = (s.1 + 1, if s.1 = 0 then pa else s.2) := if_pos ⟨h1, h2⟩
theorem mt_n {s : Nat × Nat} {pa : Nat} (h2 : lasB L S pa = false) : mtG L S s pa = s := if_neg (fun e => by rw [e.2] at h2; cases h2)
theorem m_mf0 (hL : LandM h L) (hO : LandOK L) (hS : SceneM h 0 L S) {met pa : Nat} {s : Nat × Nat} (hP : subB L S pa) (hm : ∀ x, x < lP L → hI h 257 x = nI (parN pa x)) (hs : s.1 < 200000) (hR : MRk' h L s) (h1 : ∀ h', Fr ymt h h' → (∀ k, k ≠ 33 → hI h' 235 k = hI h 235 k) → (∀ x, hI h' 257 x = hI h 257 x) → MRk' h' L (mtG L S s pa) → Q none h') : Rc (d + 7) m_X13_matchesFrom [.ref 235, .int (nI (lP L)), .int (nI met)] h Q := by
  obtain ⟨o1, o2, o3, o4, -⟩ := id hO
  have eR := hR.1
  by_cases e0 : s.1 = 0
  ·
    refine R_in rfl rfl ?_
    refine R_gs 2 rfl ?_
    refine R_k rfl rfl (m_people hL ?_)
    refine W_bt rfl (rfl) ?_
    refine R_gs 9 rfl ?_
    refine R_k rfl rfl (m_isKeptUp hL hO hS hP hm (fun hx9 => ?_) (fun hx9 => ?_))
    ·
      refine W_bf rfl (by decide) ?_
      refine R_gs 17 rfl ?_
      refine w_inv (W := fun k (g : AH) => Rw (d + 6) Q (m_X13_matchesFrom, 17, [some (.ref 235), some (.int (nI (lP L))), some (.int (nI met)), some (.int (nI k))], [], 262, g)) (lP L) (fun k g => Fr (fun q => Nat.beq q 258) h g ∧ ∀ x, x < k → hI g 258 x = nI (parN pa x)) (s0 := h) ⟨Fr.refl _ h, fun x hx => absurd hx (by omega)⟩ (fun k g hk hi w => ?_) (fun g hi => ?_)
      ·
        obtain ⟨i1, i2⟩ := hi
        have e33 : hI g 235 33 = nI s.1 := (congrFun (i1.I rfl) 33).trans eR
        refine R_gs 19 rfl ?_
        refine W_bf rfl (ltc hk (by omega)) ?_
        refine R_gs 26 rfl ?_
        refine W_bt rfl (by rw [e33, e0]; rfl) ?_
        refine R_gs 39 rfl ?_
        refine R_il rfl (by first | rfl | exact shO (by decide) (by omega) | exact shG (by decide) (by omega)) (by repeat (first | with_reducible apply ix_add | with_reducible apply ix_mul | with_reducible exact ix_nI _ | with_reducible exact ix_lit _ | exact rfl)) (by omega) (by first | exact (congrFun (i1.I rfl) k).trans (hm k hk)) ?_
        refine R_is rfl (by first | rfl | exact shO (by decide) (by omega) | exact shG (by decide) (by omega)) (by repeat (first | with_reducible apply ix_add | with_reducible apply ix_mul | with_reducible exact ix_nI _ | with_reducible exact ix_lit _ | exact rfl)) (by omega) ?_
        refine R_gs 17 rfl ?_
        rw [nI_1]; refine w _ ⟨i1.wI rfl, fun x hx => ?_⟩
        rw [wI_at]; by_cases ex : x = k; rw [if_pos ex, ex]; rw [if_neg ex]; exact i2 x (by omega)
      ·
        obtain ⟨i1, i2⟩ := hi
        have e33 : hI g 235 33 = nI s.1 := (congrFun (i1.I rfl) 33).trans eR
        refine R_gs 19 rfl ?_
        refine W_bt rfl (gec (by omega)) ?_
        refine R_gs 57 rfl ?_
        refine W_f rfl (by first | rfl | exact ⟨rfl, by first | decide | assumption | exact Or.inl rfl | exact Or.inr rfl | exact b2i_01 _⟩) ?_
        rw [mt_y hP hx9, if_pos e0] at h1; rw [e33]; refine h1 _ ((i1.mono (fun q hq => by have := Nat.eq_of_beq_eq_true hq; subst this; rfl)).wI rfl) (fun k hk => ?_) (fun x => congrFun (i1.I rfl) x) ⟨?_, fun _ x hx => i2 x hx⟩
        · rw [wI_at, if_neg hk, i1.I rfl]
        · rw [wI_at, if_pos rfl, nI_1]
    ·
      refine W_bt rfl (by decide) ?_
      refine W_f rfl (by first | rfl | exact ⟨rfl, by first | decide | assumption | exact Or.inl rfl | exact Or.inr rfl | exact b2i_01 _⟩) ?_
      rw [mt_n hx9] at h1; exact h1 _ (Fr.refl _ h) (fun _ _ => rfl) (fun _ => rfl) hR
  ·
    refine R_in rfl rfl ?_
    refine R_gs 2 rfl ?_
    refine R_k rfl rfl (m_people hL ?_)
    refine W_bt rfl (rfl) ?_
    refine R_gs 9 rfl ?_
    refine R_k rfl rfl (m_isKeptUp hL hO hS hP hm (fun hx9 => ?_) (fun hx9 => ?_))
    ·
      refine W_bf rfl (by decide) ?_
      refine R_gs 19 rfl ?_
      refine W_b rfl (fun hc19 => ?_) (fun hc19 => ?_)
      ·
        refine R_gs 57 rfl ?_
        refine W_f rfl (by first | rfl | exact ⟨rfl, by first | decide | assumption | exact Or.inl rfl | exact Or.inr rfl | exact b2i_01 _⟩) ?_
        rw [mt_y hP hx9, if_neg e0] at h1; rw [eR]; refine h1 _ ((Fr.refl _ h).wI rfl) (fun k hk => ?_) (fun x => rfl) ⟨?_, fun _ x hx => hR.2 e0 x hx⟩
        · rw [wI_at, if_neg hk]
        · rw [wI_at, if_pos rfl, nI_1]
      ·
        refine R_gs 26 rfl ?_
        refine W_bf rfl (by rw [eR, nI_e0 (by omega)]; exact e0) ?_
        refine R_gs 57 rfl ?_
        refine W_f rfl (by first | rfl | exact ⟨rfl, by first | decide | assumption | exact Or.inl rfl | exact Or.inr rfl | exact b2i_01 _⟩) ?_
        rw [mt_y hP hx9, if_neg e0] at h1; rw [eR]; refine h1 _ ((Fr.refl _ h).wI rfl) (fun k hk => ?_) (fun x => rfl) ⟨?_, fun _ x hx => hR.2 e0 x hx⟩
        · rw [wI_at, if_neg hk]
        · rw [wI_at, if_pos rfl, nI_1]
    ·
      refine W_bt rfl (by decide) ?_
      refine W_f rfl (by first | rfl | exact ⟨rfl, by first | decide | assumption | exact Or.inl rfl | exact Or.inr rfl | exact b2i_01 _⟩) ?_
      rw [mt_n hx9] at h1; exact h1 _ (Fr.refl _ h) (fun _ _ => rfl) (fun _ => rfl) hR
theorem FD_len : ∀ f p st pa s, (FD L S f p st pa s).1 ≤ s.1 + 7 ^ f
  | 0, p, st, pa, s => by
    show (mtG L S s pa).1 ≤ s.1 + 1
    unfold mtG
    split
    · exact Nat.le_refl _
    · exact Nat.le_succ _
  | f + 1, p, st, pa, s => by
    have h1 := FD_len f (p + 1) st pa s
    have key : ∀ n t, (lp (fun q s => if (decide (p < q) && !st.testBit q) = true then FD L S f (p + 1) (st ||| 2 ^ q) (pa ||| 2 ^ pr p q) s else s) n t).1 ≤ t.1 + n * 7 ^ f := by
      intro n t
      induction n with
      | zero => rw [Nat.zero_mul]; exact Nat.le_refl _
      | succ n ih =>
        rw [Nat.succ_mul]
        show (if _ then FD L S f _ _ _ (lp _ n t) else lp _ n t).1 ≤ _
        have h7 : 0 < 7 ^ f := Nat.pow_pos (by decide)
        split
        · exact Nat.le_trans (FD_len f _ _ _ _) (by omega)
        · omega
    rw [FD_s, show 7 ^ (f + 1) = 7 ^ f * 7 from rfl]
    split
    · omega
    · have := key 6 (FD L S f (p + 1) st pa s); omega
theorem p7 {p : Nat} (hp : p < 6) : 7 ^ (6 - p) = 7 ^ (5 - p) * 7 := by rw [show 6 - p = 5 - p + 1 by omega]; rfl
theorem m_mf (hO : LandOK L) : ∀ f p st met pa s (g : AH) (Q : Option Value → AH → Prop), p + f = lP L → met < 64 → (∀ q, p ≤ q → q < 6 → met.testBit q = st.testBit q) → Cln pa p st → subB L S pa → LandM g L → SceneM g 0 L S → Mat g L pa p st → s.1 + 7 ^ (6 - p) ≤ 200000 → MRk' g L s → (∀ g', Fr ymt g g' → (∀ k, k ≠ 33 → hI g' 235 k = hI g 235 k) → (∀ x, x < 6 → (x < p ∨ st.testBit x = true) → hI g' 257 x = hI g 257 x) → MRk' g' L (FD L S (6 - p) p st pa s) → Q none g') → Rc (d + f + 7) m_X13_matchesFrom [.ref 235, .int (nI p), .int (nI met)] g Q
  | 0, p, st, met, pa, s, g, Q, hp, h64, hst, hC, hP, hL, hS, hm, hs, hR, h1 => by
    have ep : p = lP L := by omega
    subst ep
    have o3 := hO.2.2.1
    refine m_mf0 hL hO hS hP (fun x hx => hm x hx (Or.inl hx)) (by have := Nat.pow_pos (n := 6 - lP L) (by decide : 0 < 7); omega) hR (fun g' f' e1 e2 r' => h1 g' f' e1 (fun x _ _ => e2 x) ?_)
    rw [FD_hi hO (6 - lP L) (lP L) st pa s (by omega) (Nat.le_refl _)]
    exact r'
  | f + 1, p, st, met, pa, s, g, Q, hp, h64, hst, hC, hP, hL, hS, hm, hs, hR, h1 => by
    have o3 := hO.2.2.1
    have hpP : p < lP L := by omega
    have ih := m_mf hO f
    have e7 := p7 (p := p) (by omega)
    have tb := tb_sh h64 (show p < 6 by omega)
    have e56 : 6 - (p + 1) = 5 - p := by omega
    have e65 : 6 - p = (5 - p) + 1 := by omega
    refine R_in rfl rfl ?_
    refine R_gs 2 rfl ?_
    refine R_k rfl rfl (m_people hL ?_)
    refine W_bf rfl (fun e => absurd ((nI_eq (by omega) (by omega)).mp e) (by omega)) ?_
    refine R_gs 64 rfl ?_
    rw [tb]
    refine W_b rfl (fun hc64 => ?_) (fun hc64 => ?_)
    ·
      refine R_gs 72 rfl ?_
      have st1 : st.testBit p = true := (by rw [← hst p (Nat.le_refl _) (by omega)]; cases e : met.testBit p; rw [e] at hc64; exact absurd hc64 (by decide); rfl)
      rw [nI_1]
      refine R_k rfl rfl (ih (p + 1) st met pa s g _ (by omega) h64 (fun q hq => hst q (by omega)) (cln_1 hC) hP hL hS (fun x hx hx2 => hm x hx (by rcases hx2 with e | e; by_cases ex : x = p; rw [ex]; exact Or.inr st1; exact Or.inl (by omega); exact Or.inr e)) (by rw [e56]; omega) hR (fun g' f' e1 e2 r' => ?_))
      refine W_f rfl (by first | rfl | exact ⟨rfl, by first | decide | assumption | exact Or.inl rfl | exact Or.inr rfl | exact b2i_01 _⟩) ?_
      refine h1 g' f' e1 (fun x hx6 hx => e2 x hx6 (by rcases hx with e | e; exact Or.inl (by omega); exact Or.inr e)) ?_
      rw [e65, FD_s, if_pos st1, ← e56]; exact r'
    ·
      refine R_gs 82 rfl ?_
      have st0 : st.testBit p = false := (by rw [← hst p (Nat.le_refl _) (by omega)]; cases e : met.testBit p; rfl; rw [e] at hc64; exact absurd rfl hc64)
      refine R_is rfl rfl (ix_nI _) (by omega) ?_
      have g1 : Fr ymt g (wI g 257 p (nI p)) := (Fr.refl _ g).wI rfl
      refine R_gs 92 rfl ?_
      rw [nI_1, one_shl p (by omega), nI_or]
      refine R_k rfl rfl (ih (p + 1) st (met ||| 2 ^ p) pa s (wI g 257 p (nI p)) _ (by omega) (Nat.or_lt_two_pow (n := 6) h64 (Nat.pow_lt_pow_right (by decide) (by omega))) (fun q hq h6 => by rw [or_bit, decide_eq_false (by omega : ¬ p = q), Bool.or_false]; exact hst q (by omega) h6) (cln_1 hC) hP (hL.fr g1 rfl rfl rfl) (hS.fr g1 rfl) (fun x hx hx2 => by rw [wI_at]; by_cases ex : x = p; rw [if_pos ex, ex, mat_1 (h := g) (x := 0) hC (by omega) st0]; rw [if_neg ex]; exact hm x hx (by rcases hx2 with e | e; exact Or.inl (by omega); exact Or.inr e)) (by rw [e56]; omega) hR (fun g2 f2 e1 e2 r2 => ?_))
      refine R_gs 99 rfl ?_
      rw [e56] at r2
      rw [nI_1]
      refine w_inv (W := fun i (u : AH × Nat × Nat) => Rw (d + (f + 1) + 6) Q (m_X13_matchesFrom, 99, [some (.ref 235), some (.int (nI p)), some (.int (nI met)), some (.int (nI (p + 1 + i)))], [], 262, u.1)) (lP L - (p + 1)) (fun i u => Fr ymt g u.1 ∧ (∀ k, k ≠ 33 → hI u.1 235 k = hI g 235 k) ∧ (∀ x, x < 6 → (x < p ∨ st.testBit x = true) → hI u.1 257 x = hI g 257 x) ∧ MRk' u.1 L u.2 ∧ u.2 = lp (fun i s => if (!st.testBit (p + 1 + i) && free L S p (p + 1 + i)) = true then FD L S (5 - p) (p + 1) (st ||| 2 ^ (p + 1 + i)) (pa ||| 2 ^ pr p (p + 1 + i)) s else s) i (FD L S (5 - p) (p + 1) st pa s) ∧ u.2.1 ≤ s.1 + (1 + i) * 7 ^ (5 - p)) (s0 := (g2, FD L S (5 - p) (p + 1) st pa s)) ⟨g1.trans f2, fun k hk => e1 k hk, fun x hx6 hx => (e2 x hx6 (by rcases hx with e | e; exact Or.inl (by omega); exact Or.inr e)).trans (by rw [wI_at, if_neg (by rintro rfl; rcases hx with e | e; omega; rw [st0] at e; cases e)]), r2, rfl, by have := FD_len (L := L) (S := S) (5 - p) (p + 1) st pa s; show (FD L S (5 - p) (p + 1) st pa s).1 ≤ _; omega⟩ (fun i u hi hu w => ?_) (fun u hu => ?_)
      ·
        obtain ⟨gg, t⟩ := u
        obtain ⟨i1, i2, i3, i4, i5, i6⟩ := hu
        dsimp only at i1 i2 i3 i4 i5 i6 ⊢
        have gL := hL.fr i1 rfl rfl rfl
        have gS := hS.fr i1 rfl
        have em := hst (p + 1 + i) (by omega) (by omega)
        have ki : (1 + i) * 7 ^ (5 - p) + 7 ^ (5 - p) ≤ 7 ^ (5 - p) * 7 := by { have : (i + 2) * 7 ^ (5 - p) ≤ 7 * 7 ^ (5 - p) := Nat.mul_le_mul_right _ (by omega); rw [Nat.mul_comm (7 ^ (5 - p)) 7]; rw [show (1 + i) * 7 ^ (5 - p) + 7 ^ (5 - p) = (i + 2) * 7 ^ (5 - p) by rw [show i + 2 = (1 + i) + 1 by omega, Nat.succ_mul]]; exact this }
        have kj : (1 + (i + 1)) * 7 ^ (5 - p) = (1 + i) * 7 ^ (5 - p) + 7 ^ (5 - p) := by { rw [show 1 + (i + 1) = (1 + i) + 1 by omega, Nat.succ_mul] }
        refine R_gs 101 rfl ?_
        refine R_k rfl rfl (m_people gL ?_)
        refine W_bf rfl (ltc (by omega) (by omega)) ?_
        refine R_gs 112 rfl ?_
        rw [tb_sh h64 (by omega)]
        refine W_b rfl (fun hc112 => ?_) (fun hc112 => ?_)
        ·
          refine R_gs 119 rfl ?_
          refine R_k rfl rfl (m_areFree (b := 0) gL hO gS (by omega) hpP (by omega) (by omega) (fun hx119 => ?_) (fun hx119 => ?_))
          ·
            refine W_bf rfl (by decide) ?_
            refine R_gs 131 rfl ?_
            have sq : st.testBit (p + 1 + i) = false := em ▸ b2i0.mp hc112
            refine R_is rfl rfl (ix_nI _) (by omega) ?_
            refine R_gs 138 rfl ?_
            refine R_is rfl rfl (ix_nI _) (by omega) ?_
            have g3 : Fr ymt gg (wI (wI gg 257 p (nI (p + 1 + i))) 257 (p + 1 + i) (nI p)) := ((Fr.refl _ gg).wI rfl).wI rfl
            refine R_gs 152 rfl ?_
            rw [nI_1, one_shl p (by omega), one_shl (p + 1 + i) (by omega), nI_or, nI_or]
            refine R_k rfl rfl (ih (p + 1) (st ||| 2 ^ (p + 1 + i)) (met ||| 2 ^ p ||| 2 ^ (p + 1 + i)) (pa ||| 2 ^ pr p (p + 1 + i)) t _ _ (by omega) (Nat.or_lt_two_pow (n := 6) (Nat.or_lt_two_pow (n := 6) h64 (Nat.pow_lt_pow_right (by decide) (by omega))) (Nat.pow_lt_pow_right (by decide) (by omega))) (fun q hq h6 => by rw [or_bit, or_bit, or_bit, decide_eq_false (by omega : ¬ p = q), Bool.or_false, hst q (by omega) h6]) (cln_2 hC (by omega) (by omega)) (fun k hk hb => by rw [or_bit, Bool.or_eq_true] at hb; rcases hb with hb | hb; exact hP k hk hb; rw [decide_eq_true_eq] at hb; subst hb; rw [pos_bt hO (by omega) (by omega)]; exact hx119) (gL.fr g3 rfl rfl rfl) (gS.fr g3 rfl) ?_ (by rw [e56]; omega) i4 (fun g4 f4 e4 e5 r4 => ?_))
            · intro x hx hx2; rw [wI_at]; by_cases xq : x = p + 1 + i; rw [if_pos xq, xq, par_q hC (by omega) (by omega) sq]; rw [if_neg xq, wI_at]; by_cases xp : x = p; rw [if_pos xp, xp, par_p hC (by omega) (by omega) st0]; rw [if_neg xp, par_o (by omega) (by omega) (by omega) xp xq, i3 x (by omega) (by rcases hx2 with e | e; exact Or.inl (by omega); rw [or_bit, decide_eq_false (by omega : ¬ p + 1 + i = x), Bool.or_false] at e; exact Or.inr e)]; exact hm x hx (by rcases hx2 with e | e; exact Or.inl (by omega); rw [or_bit, decide_eq_false (by omega : ¬ p + 1 + i = x), Bool.or_false] at e; exact Or.inr e)
            rw [e56] at r4
            refine R_gs 99 rfl ?_
            rw [nI_1]; have fl := FD_len (L := L) (S := S) (5 - p) (p + 1) (st ||| 2 ^ (p + 1 + i)) (pa ||| 2 ^ pr p (p + 1 + i)) t
            refine w (g4, FD L S (5 - p) (p + 1) (st ||| 2 ^ (p + 1 + i)) (pa ||| 2 ^ pr p (p + 1 + i)) t) ⟨i1.trans (g3.trans f4), fun k hk => (e4 k hk).trans (i2 k hk), fun x hx6 hx => ?_, r4, ?_, by dsimp only; omega⟩
            · have nq : x ≠ p + 1 + i := (by rintro rfl; rcases hx with e | e; omega; rw [sq] at e; cases e); have np : x ≠ p := (by rintro rfl; rcases hx with e | e; omega; rw [st0] at e; cases e); rw [e5 x hx6 (by rcases hx with e | e; exact Or.inl (by omega); exact Or.inr (by rw [or_bit, e]; rfl)), wI_at, if_neg nq, wI_at, if_neg np]; exact i3 x hx6 hx
            · show _ = (if (!st.testBit (p + 1 + i) && free L S p (p + 1 + i)) = true then _ else _); rw [if_pos (by rw [sq, hx119]; rfl), ← i5]
          ·
            refine W_bt rfl (by decide) ?_
            refine R_gs 99 rfl ?_
            rw [nI_1]; refine w (gg, t) ⟨i1, i2, i3, i4, ?_, by dsimp only; omega⟩
            show t = (if (!st.testBit (p + 1 + i) && free L S p (p + 1 + i)) = true then _ else _); rw [if_neg (by rw [hx119]; simp)]; exact i5
        ·
          refine R_gs 99 rfl ?_
          rw [nI_1]; refine w (gg, t) ⟨i1, i2, i3, i4, ?_, by dsimp only; omega⟩
          show t = (if (!st.testBit (p + 1 + i) && free L S p (p + 1 + i)) = true then _ else _); rw [if_neg (by rw [← em]; cases e : met.testBit (p + 1 + i); rw [e] at hc112; exact absurd rfl hc112; simp)]; exact i5
      ·
        obtain ⟨gg, t⟩ := u
        obtain ⟨i1, i2, i3, i4, i5, i6⟩ := hu
        dsimp only at i1 i2 i3 i4 i5 i6 ⊢
        have gL := hL.fr i1 rfl rfl rfl
        refine R_gs 101 rfl ?_
        refine R_k rfl rfl (m_people gL ?_)
        refine W_bt rfl ((nI_leI (by omega) (by omega)).mpr (by omega)) ?_
        refine W_f rfl (by first | rfl | exact ⟨rfl, by first | decide | assumption | exact Or.inl rfl | exact Or.inr rfl | exact b2i_01 _⟩) ?_
        refine h1 gg i1 i2 i3 ?_
        rw [e65, FD_lo hO hpP st0, ← i5]; exact i4
theorem y_matches (W : WOK L S H B M D T N) (c : RM h L S H B M D T N) {w : Int32} (h1 : ∀ h', Fr xM h h' → RM h' L S H B M D T N → Q (some (.int (matA L S w))) h') : Rc (d + 15) m_X13_matches [.ref 235, .int w] h Q := by
  have hO := W.1
  have hV := W.2.1
  have o3 := hO.2.2.1
  have c0 := c.thr
  have F0 : Fr xM h (wI h 235 0 0) := (Fr.refl _ h).wI rfl
  have mb := mtR_b (L := L) (S := S)
  have k0 : Fr (fun q => Nat.beq q 235) (wI h 235 0 0) (wI (wI h 235 0 0) 235 33 0) := (Fr.refl _ _).wI rfl
  unfold matA at h1
  refine R_in rfl rfl ?_
  refine R_gs 7 rfl ?_
  refine W_b rfl (fun hc7 => ?_) (fun hc7 => ?_)
  ·
    refine R_gs 29 rfl ?_
    have he : d + 14 = (d + 7 - lP L) + lP L + 7 := (by omega)
    change Rw (d + 14) Q _
    rw [he]
    refine R_k rfl rfl (m_mf (d := d + 7 - lP L) (S := S) hO (lP L) 0 0 0 0 (0, 0) _ _ (by omega) (by omega) (fun q _ _ => rfl) (fun x _ _ _ y _ _ => Nat.zero_testBit _) (fun k _ hb => by rw [Nat.zero_testBit] at hb; cases hb) (c0.1.fr k0 rfl rfl rfl) (c0.2.1.fr k0 rfl) (fun x hx hx2 => by rcases hx2 with e | e; omega; rw [Nat.zero_testBit] at e; cases e) (by decide) ⟨rfl, fun e => absurd rfl e⟩ (fun g2 f2 e1 _ r2 => ?_))
    rw [show FD L S (6 - 0) 0 0 0 (0, 0) = mtR L S from rfl] at r2
    have F2 : Fr xM h g2 := (F0.wI rfl).trans (f2.mono (fun q hq => by simp only [ymt, Bool.or_eq_true, Nat.beq_eq] at hq; rcases hq with (rfl | rfl) | rfl <;> rfl))
    have R2 := RM.scr (c0.scr k0 ⟨rfl, rfl, rfl, rfl, rfl, rfl, rfl, rfl, rfl⟩ rfl rfl rfl) f2 ⟨rfl, rfl, rfl, rfl, rfl, rfl, rfl, rfl, rfl⟩ (e1 2 (by decide)) (e1 18 (by decide)) (e1 25 (by decide))
    refine R_gs 33 rfl ?_
    refine W_bf rfl ((by rw [hc7]; decide)) ?_
    refine R_gs 61 rfl ?_
    rw [r2.1]
    refine W_f rfl (by first | rfl | exact ⟨rfl, by first | decide | assumption | exact Or.inl rfl | exact Or.inr rfl | exact b2i_01 _⟩) ?_
    rw [if_pos hc7] at h1; exact h1 _ F2 R2
  ·
    refine R_gs 12 rfl ?_
    refine R_k rfl rfl (m_isPerson c0.1 (fun hx12 => ?_) (fun hx12 => ?_))
    ·
      refine W_bf rfl (by decide) ?_
      refine R_gs 29 rfl ?_
      have he : d + 14 = (d + 7 - lP L) + lP L + 7 := (by omega)
      change Rw (d + 14) Q _
      rw [he]
      refine R_k rfl rfl (m_mf (d := d + 7 - lP L) (S := S) hO (lP L) 0 0 0 0 (0, 0) _ _ (by omega) (by omega) (fun q _ _ => rfl) (fun x _ _ _ y _ _ => Nat.zero_testBit _) (fun k _ hb => by rw [Nat.zero_testBit] at hb; cases hb) (c0.1.fr k0 rfl rfl rfl) (c0.2.1.fr k0 rfl) (fun x hx hx2 => by rcases hx2 with e | e; omega; rw [Nat.zero_testBit] at e; cases e) (by decide) ⟨rfl, fun e => absurd rfl e⟩ (fun g2 f2 e1 _ r2 => ?_))
      rw [show FD L S (6 - 0) 0 0 0 (0, 0) = mtR L S from rfl] at r2
      have F2 : Fr xM h g2 := (F0.wI rfl).trans (f2.mono (fun q hq => by simp only [ymt, Bool.or_eq_true, Nat.beq_eq] at hq; rcases hq with (rfl | rfl) | rfl <;> rfl))
      have R2 := RM.scr (c0.scr k0 ⟨rfl, rfl, rfl, rfl, rfl, rfl, rfl, rfl, rfl⟩ rfl rfl rfl) f2 ⟨rfl, rfl, rfl, rfl, rfl, rfl, rfl, rfl, rfl⟩ (e1 2 (by decide)) (e1 18 (by decide)) (e1 25 (by decide))
      refine R_gs 33 rfl ?_
      refine W_bt rfl ((by obtain ⟨k, hk, rfl⟩ := inN_of (by omega) hx12; exact nI_pos' (by omega))) ?_
      refine R_gs 47 rfl ?_
      rw [r2.1]
      refine W_b rfl (fun hc47 => ?_) (fun hc47 => ?_)
      ·
        rw [nI_e0 (by omega)] at hc47
        refine R_gs 61 rfl ?_
        refine W_f rfl (by first | rfl | exact ⟨rfl, by first | decide | assumption | exact Or.inl rfl | exact Or.inr rfl | exact b2i_01 _⟩) ?_
        rw [if_neg hc7, hx12, if_pos rfl, if_pos hc47] at h1; exact h1 _ F2 R2
      ·
        rw [nI_e0 (by omega)] at hc47
        refine R_gs 60 rfl ?_
        obtain ⟨k, hk, rfl⟩ := inN_of (by omega) hx12
        refine R_il rfl rfl (ix_nI _) (by omega) (r2.2 hc47 k hk) ?_
        refine W_f rfl (by first | rfl | exact ⟨rfl, by first | decide | assumption | exact Or.inl rfl | exact Or.inr rfl | exact b2i_01 _⟩) ?_
        rw [if_neg hc7, hx12, if_pos rfl, if_neg hc47, nI_clamp (by omega)] at h1; exact h1 _ F2 R2
    ·
      refine W_bt rfl (by decide) ?_
      refine R_gs 20 rfl ?_
      refine W_f rfl (by first | rfl | exact ⟨rfl, by first | decide | assumption | exact Or.inl rfl | exact Or.inr rfl | exact b2i_01 _⟩) ?_
      rw [if_neg hc7, hx12] at h1; exact h1 _ F0 c0
end
