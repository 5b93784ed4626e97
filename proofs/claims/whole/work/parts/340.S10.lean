/-! the tokens of a text -/
theorem nuF {l : List Nat} : ∀ {v : Nat}, (∀ c, c ∈ l → c ≤ 57) → l.foldl (fun v c => 10 * v + (c - 48)) v < (v + 1) * 10 ^ l.length := by
  induction l with
  | nil => intro v _; show v < (v + 1) * 1; omega
  | cons c l ih =>
    intro v h
    have h1 := ih (v := 10 * v + (c - 48)) (fun x hx => h x (List.mem_cons_of_mem _ hx))
    have h2 := h c List.mem_cons_self
    show l.foldl _ (10 * v + (c - 48)) < _
    refine Nat.lt_of_lt_of_le h1 ?_
    rw [List.length_cons, Nat.pow_succ, Nat.mul_comm (10 ^ l.length) 10, ← Nat.mul_assoc]
    exact Nat.mul_le_mul_right _ (by omega)
theorem nuN_b {l : List Nat} (h4 : l.length ≤ 4) (h : ∀ c, c ∈ l → c ≤ 57) : nuN l ≤ 9999 := by
  have h1 := nuF (v := 0) h
  have h2 : 10 ^ l.length ≤ 10 ^ 4 := Nat.pow_le_pow_right (by decide) h4
  have h3 : nuN l < (0 + 1) * 10 ^ l.length := h1
  have h4 : (10 : Nat) ^ 4 = 10000 := by decide
  omega
section
variable {T : ST'} {K : TKs}
theorem tokA_g (hO : TapOK T) {p : Nat} (hp : p < T.1) : TkG (tokA T p).1 ∧ (tokA T p).1.1 ≠ 0 := by
  have o1 := hO.1
  unfold tokA
  split
  · rename_i hl
    dsimp only
    split
    · exact ⟨⟨(show 1 < 38 by decide), by dsimp only; omega, fun e => absurd (show 1 = 2 from e) (by decide), fun e => absurd (show srt 1 = 1 from e) (by decide), fun _ => rfl⟩, (show 1 ≠ 0 by decide)⟩
    · rename_i h8
      have lo := lts_O hp hl h8
      have ts := tokW_s lo
      exact ⟨⟨ts.2, by dsimp only; omega, fun e => absurd e (tokW_ne2 lo), fun _ => ⟨lo, rfl⟩, fun e => absurd ts.1 e⟩, fun e => by
        have e : tokW (lts T p (rnE T isL p)) = 0 := e
        rw [e] at ts; exact absurd ts.1 (by decide)⟩
  · rename_i hl
    split
    · dsimp only
      split
      · exact ⟨⟨(show 1 < 38 by decide), by dsimp only; omega, fun e => absurd (show 1 = 2 from e) (by decide), fun e => absurd (show srt 1 = 1 from e) (by decide), fun _ => rfl⟩, (show 1 ≠ 0 by decide)⟩
      · refine ⟨⟨(show 2 < 38 by decide), by dsimp only; omega, fun _ => nuN_b (by rw [lts_len]; omega) (fun c hc => ?_), fun e => absurd (show srt 2 = 1 from e) (by decide), fun _ => rfl⟩, (show 2 ≠ 0 by decide)⟩
        unfold lts at hc
        rw [List.mem_map] at hc
        obtain ⟨i, hi, rfl⟩ := hc
        rw [List.mem_range] at hi
        have := runE_in (P := fun i => isD (T.2 i)) (T.1 - p) p (p + i) (by omega) (by show _ < rnE T isD p; omega)
        simp only [isD, Bool.and_eq_true, decide_eq_true_eq] at this
        exact this.2
    · rename_i hd
      have t0 : 0 < T.2 p := by rcases hO.2 p hp with e | e <;> omega
      have tS := tokS_s (T.2 p) (tap_lt hO hp) (by
        rw [Bool.eq_false_iff.mpr hl, Bool.eq_false_iff.mpr hd, decide_eq_false (by omega)]; rfl)
      refine ⟨⟨fsK_lt (by omega) 38 0 (by omega), by dsimp only; omega, fun e => absurd e (tokS_ne2 t0), fun e => ?_, fun _ => rfl⟩, fun e => ?_⟩
      · have e : srt (tokS (T.2 p)) = 1 := e
        rw [tS.1] at e
        split at e <;> cases e
      · have e : tokS (T.2 p) = 0 := e
        rw [e] at tS
        have := tS.1
        split at this <;> cases this
theorem cut_ok (hO : TapOK T) : ∀ f p K, p ≤ T.1 → (∀ i, i < K.1 → TkG (K.2 i) ∧ (K.2 i).1 ≠ 0) → K.1 ≤ p → (∀ i, i < (cutA T f p K).1 → TkG ((cutA T f p K).2 i) ∧ ((cutA T f p K).2 i).1 ≠ 0) ∧ (cutA T f p K).1 ≤ T.1
  | 0, p, K, h1, h2, h3 => ⟨h2, by show K.1 ≤ _; omega⟩
  | f + 1, p, K, h1, h2, h3 => by
    unfold cutA
    by_cases hp : p < T.1
    · rw [if_pos hp]
      by_cases hb : blk (T.2 p) = true
      · rw [if_pos hb]; exact cut_ok hO f (p + 1) K hp h2 (by omega)
      · rw [if_neg hb]
        have g := tokA_gt hp
        refine cut_ok hO f _ _ g.2 (fun i hi => ?_) (by show K.1 + 1 ≤ _; omega)
        have hi : i < K.1 + 1 := hi
        show TkG (if i = K.1 then (tokA T p).1 else K.2 i) ∧ (if i = K.1 then (tokA T p).1 else K.2 i).1 ≠ 0
        by_cases e : i = K.1
        · rw [if_pos e]; exact tokA_g hO hp
        · rw [if_neg e]; exact h2 i (by omega)
    · rw [if_neg hp]; exact ⟨h2, by omega⟩
theorem tok_ok (hO : TapOK T) : TokOK (allT T) := by
  obtain ⟨c1, c2⟩ := cut_ok hO T.1 0 K0 (Nat.zero_le _) (fun i hi => absurd hi (Nat.not_lt_zero i)) (Nat.zero_le _)
  have o1 := hO.1
  refine ⟨by show _ + 1 ≤ _; omega, fun i hi => ?_, Nat.succ_pos _, ?_, fun i hi => ?_⟩
  · have hi : i < (cutA T T.1 0 K0).1 + 1 := hi
    show TkG (if i = (cutA T T.1 0 K0).1 then (0, T.1, 0, []) else (cutA T T.1 0 K0).2 i)
    by_cases e : i = (cutA T T.1 0 K0).1
    · rw [if_pos e]
      exact ⟨(show 0 < 38 by decide), o1, fun e => absurd (show 0 = 2 from e) (by decide), fun e => absurd (show srt 0 = 1 from e) (by decide), fun _ => rfl⟩
    · rw [if_neg e]; exact (c1 i (by omega)).1
  · show (if (cutA T T.1 0 K0).1 + 1 - 1 = (cutA T T.1 0 K0).1 then (0, T.1, 0, []) else _ : TK).1 = 0
    rw [if_pos (by omega)]
  · have hi : i + 1 < (cutA T T.1 0 K0).1 + 1 := hi
    show (if i = (cutA T T.1 0 K0).1 then (0, T.1, 0, []) else (cutA T T.1 0 K0).2 i : TK).1 ≠ 0
    rw [if_neg (by omega)]; exact (c1 i (by omega)).2
end
/-! what a line keeps -/
section
variable {K : TKs} {s : RS} {D : PD}
theorem pdb_add {σ : Nat} {l : List Nat} (B : PdB D) : PdB (addN D σ l) := by
  obtain ⟨b1, b2, b3, b4⟩ := B
  refine ⟨b1, b2, fun p hp => ?_, b4⟩
  have := b3 p hp
  refine ⟨this.1, ?_, this.2.2⟩
  show (dX D p).2.1 < (if σ = 1 then dQ D + 1 else dQ D)
  split <;> omega
theorem lnN_k {σ : Nat} (B : PdB D) : PdB (lnN K σ s D).2.1 ∧ dM (lnN K σ s D).2.1 = dM D ∧ (σ ≠ 2 → dP (lnN K σ s D).2.1 = dP D) := by
  unfold lnN
  dsimp only
  split
  · refine ⟨pdb_add B, rfl, fun h => ?_⟩
    show (if σ = 2 then dP D + 1 else dP D) = _
    rw [if_neg h]
  · exact ⟨B, rfl, fun _ => rfl⟩
theorem lnN_p {σ : Nat} (kO : TokOK K) (hs : s.1 < K.1) : (lnN K σ s D).1.1 < K.1 := by
  unfold lnN
  dsimp only
  exact (bs_o kO (by rw [bl_1]; exact (bs_o kO hs).1)).1
theorem up3_v {α : Type} (f : Nat → Nat → α) (i k : Nat) (v : α) (j l : Nat) : up3 f i k v j l = if j = i then (if l = k then v else f j l) else f j l := by
  unfold up3 up1; split <;> rfl
theorem pdb_O {p w v : Nat} (B : PdB D) (hv : v ≤ 9) : PdB (setO D p w v) := by
  obtain ⟨b1, b2, b3, b4⟩ := B
  refine ⟨fun q u => ?_, b2, b3, b4⟩
  show up3 (dO D) p w v q u ≤ 9
  rw [up3_v]
  split
  · split
    · exact hv
    · exact b1 q u
  · exact b1 q u
theorem pdb_G {p r v : Nat} (B : PdB D) (hv : v ≤ 9) (hr : r < 31) : PdB (setG D p r v) := by
  obtain ⟨b1, b2, b3, b4⟩ := B
  refine ⟨b1, fun q u => ?_, b3, fun q u hb => ?_⟩
  · show up3 (dG D) p r v q u ≤ 9
    rw [up3_v]
    split
    · split
      · exact hv
      · exact b2 q u
    · exact b2 q u
  · show up3 (dG D) p r v q u = 0
    have hb : (if q = p then dT D p ||| nI (2 ^ r) else dT D q) = (if q = p then dT D p ||| nI (2 ^ r) else dT D q) ∧ bt (if q = p then dT D p ||| nI (2 ^ r) else dT D q) u = false := ⟨rfl, hb⟩
    replace hb := hb.2
    rw [up3_v]
    by_cases e : q = p
    · subst e
      rw [if_pos rfl] at hb ⊢
      rcases Nat.lt_or_ge u 32 with h2 | h2
      · rw [pb_or hr h2, Bool.or_eq_false_iff] at hb
        rw [if_neg (of_decide_eq_false hb.2)]
        exact b4 q u hb.1
      · rw [if_neg (by omega)]; exact b4 q u (b_big h2)
    · rw [if_neg e] at hb ⊢
      exact b4 q u hb
def LnO (z : RS × PD) : Prop := PdO z.2 ∧ PdB z.2 ∧ (z.1.2 = 0 → dM z.2 = dP z.2)
theorem lnX_o (kO : TokOK K) (hs : s.1 < K.1) (o : PdO D) (B : PdB D) (hM : dM D = dP D) : LnO (lnX K s D) := by
  have oz := lnN_o kO (σ := 2) (Nat.le_refl _) hs o
  have kz := lnN_k (K := K) (σ := 2) (s := s) B
  have pz := lnN_p (D := D) (σ := 2) kO hs
  have ez := lnN_z (K := K) (σ := 2) (s := s) (D := D)
  unfold LnO lnX
  dsimp only
  obtain ⟨z, hz⟩ : ∃ z, z = lnN K 2 s D := ⟨_, rfl⟩
  rw [← hz] at oz kz ez pz ⊢
  split
  · rename_i hc
    have n1 := rn_z hc
    have n2 := ex_z n1.1
    have n3 := rk_n oz n2.1
    have n4 := rk_z n2.1
    have n5 := ex_z n4.1
    have n6 := bl_z (by decide) (sp_z n5.1)
    rw [Bool.not_eq_false', decide_eq_true_eq] at n6
    have n8 := ez n6.2
    obtain ⟨e1, e2⟩ := n8.2.2.2.2
    have n7 := (mea5 _ (kO.2.1 _ pz).1 n6.1).2.1
    obtain ⟨o1, o2, o3, o4, o5, o6, o7⟩ := oz
    obtain ⟨b1, b2, b3, b4⟩ := kz.1
    have hp : z.2.2 < 6 := by rw [e2]; exact n8.2.1
    have hd : dP z.2.1 = z.2.2 + 1 := by rw [e1, e2]; rfl
    have hd2 : dM z.2.1 = z.2.2 := by rw [kz.2.1, hM, e2]; rfl
    refine ⟨⟨o1, o2, o3, by show z.2.2 + 1 ≤ 6; omega, o5, o6, o7⟩, ⟨b1, b2, fun p hp => ?_, b4⟩, fun _ => hd.symm⟩
    have hp : p < z.2.2 + 1 := hp
    unfold setX
    show (up1 (dX z.2.1) z.2.2 _ p).1 ≤ 3 ∧ (up1 (dX z.2.1) z.2.2 _ p).2.1 < dQ z.2.1 ∧ (up1 (dX z.2.1) z.2.2 _ p).2.2 ≤ 9
    unfold up1
    by_cases e : p = z.2.2
    · rw [if_pos e]; exact ⟨n7, n3.2, n1.2.2.2⟩
    · rw [if_neg e]; exact b3 p (by omega)
  · rename_i hc
    exact ⟨oz, kz.1, fun e => absurd e hc⟩
theorem lnO_o (o : PdO D) (B : PdB D) (hM : dM D = dP D) : LnO (lnO K s D) := by
  unfold LnO lnO
  dsimp only
  split
  · rename_i hc
    have n1 := rn_z hc
    exact ⟨o, pdb_O B n1.2.2.2, fun _ => hM⟩
  · exact ⟨o, B, fun _ => hM⟩
theorem lnG_o (o : PdO D) (B : PdB D) (hM : dM D = dP D) : LnO (lnG K s D) := by
  have o3 := o.2.2.1
  unfold LnO lnG
  dsimp only
  split
  · rename_i hc
    have n1 := rn_z hc
    have n2 := (bl_z (by decide) (sp_z n1.1)).2
    have n3 := lu_n o n2
    have n4 : (lu K (dN D) 2 (rk K (dN D) 2 (sp K s)).1).2.toNatClampNeg < dP D := n3.2
    exact ⟨o, pdb_G B n1.2.2.2 (by omega), fun _ => hM⟩
  · exact ⟨o, B, fun _ => hM⟩
theorem lnC_o {r : RS} {k : Nat} {c : List Int32} (o : PdO D) (B : PdB D) (hM : dM D = dP D) : LnO (r, setC D k c) := ⟨⟨o.1, o.2.1, o.2.2.1, o.2.2.2.1, o.2.2.2.2.1, o.2.2.2.2.2.1, o.2.2.2.2.2.2⟩, ⟨B.1, B.2.1, B.2.2.1, B.2.2.2⟩, fun _ => hM⟩
theorem lnA_o (kO : TokOK K) (hs : s.1 < K.1) (o : PdO D) (B : PdB D) (hM : dM D = dP D) : LnO (lnA K s D) := by
  by_cases e7 : tk K s.1 = 7
  · rw [lnA_7 e7]
    have := lnN_k (K := K) (σ := 0) (s := s) B
    exact ⟨lnN_o kO (by omega) hs o, this.1, fun _ => by show dM (lnN K 0 s D).2.1 = dP (lnN K 0 s D).2.1; rw [this.2.1, this.2.2 (by omega)]; exact hM⟩
  by_cases e8 : tk K s.1 = 8
  · rw [lnA_8 e8]
    have := lnN_k (K := K) (σ := 1) (s := s) B
    exact ⟨lnN_o kO (by omega) hs o, this.1, fun _ => by show dM (lnN K 1 s D).2.1 = dP (lnN K 1 s D).2.1; rw [this.2.1, this.2.2 (by omega)]; exact hM⟩
  by_cases e9 : tk K s.1 = 9
  · rw [lnA_9 e9]; exact lnX_o kO hs o B hM
  by_cases e12 : tk K s.1 = 12
  · rw [lnA_12 e12]; exact lnO_o o B hM
  by_cases e13 : tk K s.1 = 13
  · rw [lnA_13 e13]; exact lnG_o o B hM
  by_cases e14 : tk K s.1 = 14
  · rw [lnA_14 e14]
    unfold LnO lnK
    dsimp only
    split
    · exact ⟨o, B, fun _ => hM⟩
    · exact ⟨o, B, fun _ => hM⟩
  by_cases e15 : tk K s.1 = 15
  · rw [lnA_15 e15, lnL_0]; exact lnC_o o B hM
  by_cases e16 : tk K s.1 = 16
  · rw [lnA_16 e16, lnL_1]; exact lnC_o o B hM
  rw [lnA_d ⟨e7, e8, e9, e12, e13, e14, e15, e16⟩]; exact ⟨o, B, fun _ => hM⟩
theorem D0_o : PdO D0 ∧ PdB D0 ∧ dM D0 = dP D0 := ⟨⟨by decide, by decide, by decide, by decide, by decide, fun k hk => absurd hk (Nat.not_lt_zero k), fun j k _ hk => absurd hk (Nat.not_lt_zero k)⟩, ⟨fun _ _ => Nat.zero_le _, fun _ _ => Nat.zero_le _, fun p hp => absurd hp (Nat.not_lt_zero p), fun _ _ _ => rfl⟩, rfl⟩
end
