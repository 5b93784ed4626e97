/-! a told day -/
def vb (t : Nat) : Bool := decide (17 ≤ t) && decide (t ≤ 22)
def psD (D : SD') (l : Nat × Nat × Nat) : SD' := (D.1 + 1, fun i => if i = D.1 then l else D.2 i)
def dl1 (K : TKs) (N : SN') (t : Nat) (s3 : RS) : RS × Int32 := if t = 22 then (s3, 0) else rk K N 2 s3
def dl2 (K : TKs) (N : SN') (t : Nat) (y : RS × Int32) : RS × Int32 := if t = 17 then rk K N 0 y.1 else if t = 19 then rk K N 1 y.1 else if t = 20 ∨ t = 21 then (sp K (bl K (decide ((lu K N 2 y.1).1.2 = 0) && decide ((lu K N 2 y.1).2 = y.2)) 3 (lu K N 2 y.1).1), (lu K N 2 y.1).2) else (y.1, 0)
def dl0 (K : TKs) (s : RS) (D : SD') : RS := sp K (bl K (decide (30 ≤ D.1)) 5 (bl K (!vb (tk K s.1)) 1 s))
def ddL (K : TKs) (N : SN') (s : RS) (D : SD') : RS × SD' :=
  let y := dl1 K N (tk K s.1) (dl0 K s D)
  let w := dl2 K N (tk K s.1) y
  let s9 := ex K 6 w.1
  (s9, if s9.2 = 0 then psD D (tk K s.1 - 17, y.2.toNatClampNeg, w.2.toNatClampNeg) else D)
def dds (K : TKs) (N : SN') : Nat → RS → SD' → RS × SD'
  | 0, s, D => (s, D)
  | m + 1, s, D => if s.2 = 0 ∧ tk K s.1 ≠ 0 then dds K N m (ddL K N s D).1 (ddL K N s D).2 else (s, D)
def dayA (K : TKs) (N : SN') : RS × SD' := dds K N 1001 (0, 0) (0, fun _ => (0, 0, 0))
section
variable {d a g : Nat} {h h' : AH} {K : TKs} {s : RS} {N : SN'} {D : SD'} {L : SL} {Q : Option Value → AH → Prop}
/-- what is found, as numbers -/
theorem lu_m {σ : Nat} (nO : NmO N) (hz : (lu K N σ s).1.2 = 0) : (lu K N σ s).2 = nI (lu K N σ s).2.toNatClampNeg ∧ (lu K N σ s).2.toNatClampNeg < 6 ∧ ∃ k, k < N.1 ∧ (N.2 k).1 = σ ∧ (lu K N σ s).2.toNatClampNeg = (N.2 k).2.2 := by
  obtain ⟨-, -, k, h1, h2, -, h4⟩ := lu_z hz
  have := nO.2 k h1
  rw [h4, nI_clamp (by omega)]
  exact ⟨rfl, this.2.2, k, h1, h2, rfl⟩
theorem rk_m {σ : Nat} (nO : NmO N) (hz : (rk K N σ s).1.2 = 0) : (rk K N σ s).2 = nI (rk K N σ s).2.toNatClampNeg ∧ (rk K N σ s).2.toNatClampNeg < 6 ∧ ∃ k, k < N.1 ∧ (N.2 k).1 = σ ∧ (rk K N σ s).2.toNatClampNeg = (N.2 k).2.2 := lu_m nO (sp_z hz)
theorem dl1_z {t : Nat} (hz : (dl1 K N t s).1.2 = 0) : s.2 = 0 := by
  unfold dl1 at hz
  split at hz
  · exact hz
  · exact (rk_z hz).1
theorem dl2_z {t : Nat} {y : RS × Int32} (hz : (dl2 K N t y).1.2 = 0) : y.1.2 = 0 := by
  unfold dl2 at hz
  split at hz
  · exact (rk_z hz).1
  · split at hz
    · exact (rk_z hz).1
    · split at hz
      · exact (lu_z (bl_z (by decide) (sp_z hz)).2).1
      · exact hz
theorem dl0_z (hz : (dl0 K s D).2 = 0) : s.2 = 0 ∧ vb (tk K s.1) = true ∧ D.1 < 30 := by
  unfold dl0 at hz
  obtain ⟨z1, z2⟩ := bl_z (by decide) (sp_z hz)
  obtain ⟨z3, z4⟩ := bl_z (by decide) z2
  rw [Bool.not_eq_false'] at z3
  have := of_decide_eq_false z1
  exact ⟨z4, z3, by omega⟩
theorem dl1_n (nO : NmO N) {t : Nat} (hz : (dl1 K N t s).1.2 = 0) : (dl1 K N t s).2 = nI (dl1 K N t s).2.toNatClampNeg ∧ (dl1 K N t s).2.toNatClampNeg < 6 := by
  unfold dl1 at *
  split
  · exact ⟨rfl, (show (0 : Int32).toNatClampNeg < 6 by decide)⟩
  · rename_i e
    rw [if_neg e] at hz
    exact ⟨(rk_m nO hz).1, (rk_m nO hz).2.1⟩
theorem dl2_n (nO : NmO N) {t : Nat} {y : RS × Int32} (hz : (dl2 K N t y).1.2 = 0) : (dl2 K N t y).2 = nI (dl2 K N t y).2.toNatClampNeg ∧ (dl2 K N t y).2.toNatClampNeg < 6 := by
  unfold dl2 at *
  split
  · rename_i e; rw [if_pos e] at hz; exact ⟨(rk_m nO hz).1, (rk_m nO hz).2.1⟩
  · rename_i e
    rw [if_neg e] at hz
    split
    · rename_i e1; rw [if_pos e1] at hz; exact ⟨(rk_m nO hz).1, (rk_m nO hz).2.1⟩
    · rename_i e1
      rw [if_neg e1] at hz
      split
      · rename_i e2
        rw [if_pos e2] at hz
        have := lu_m nO (bl_z (by decide) (sp_z hz)).2
        exact ⟨this.1, this.2.1⟩
      · exact ⟨rfl, (show (0 : Int32).toNatClampNeg < 6 by decide)⟩
/-- a line that was read can be done -/
theorem ddL_ok (nN : NamOK L N) (nO : NmO N) (hz : (ddL K N s D).1.2 = 0) : LineOK L (tk K s.1 - 17, (dl1 K N (tk K s.1) (dl0 K s D)).2.toNatClampNeg, (dl2 K N (tk K s.1) (dl1 K N (tk K s.1) (dl0 K s D))).2.toNatClampNeg) ∧ s.2 = 0 ∧ vb (tk K s.1) = true ∧ D.1 < 30 := by
  have z9 : (dl2 K N (tk K s.1) (dl1 K N (tk K s.1) (dl0 K s D))).1.2 = 0 := (ex_z hz).1
  have z1 := dl2_z z9
  have z0 := dl0_z (dl1_z z1)
  have hv := z0.2.1
  unfold vb at hv
  rw [Bool.and_eq_true, decide_eq_true_eq, decide_eq_true_eq] at hv
  have b1 := dl1_n nO z1
  have b2 := dl2_n nO z9
  have nm : ∀ k, k < N.1 → ((N.2 k).1 = 0 → (N.2 k).2.2 < lS L) ∧ ((N.2 k).1 = 1 → (N.2 k).2.2 < lQ L) ∧ ((N.2 k).1 = 2 → (N.2 k).2.2 < lP L) := fun k hk => (nN.2 k hk).2.2.2.2
  refine ⟨⟨by dsimp only; omega, fun h5 => ?_, fun h0 => ?_, fun h2 => ?_, fun h3 => ?_, by dsimp only; omega, by dsimp only; omega⟩, z0⟩
  · have h5 : tk K s.1 - 17 ≠ 5 := h5
    have e : dl1 K N (tk K s.1) (dl0 K s D) = rk K N 2 (dl0 K s D) := if_neg (by omega)
    rw [e] at z1 ⊢
    obtain ⟨-, -, k, k1, k2, k3⟩ := rk_m nO z1
    dsimp only
    rw [k3]; exact (nm k k1).2.2 k2
  · have h0 : tk K s.1 - 17 = 0 := h0
    have e : ∀ y, dl2 K N (tk K s.1) y = rk K N 0 y.1 := fun y => if_pos (by omega)
    rw [e] at z9 ⊢
    obtain ⟨-, -, k, k1, k2, k3⟩ := rk_m nO z9
    dsimp only
    rw [k3]; exact (nm k k1).1 k2
  · have h2 : tk K s.1 - 17 = 2 := h2
    have e : ∀ y, dl2 K N (tk K s.1) y = rk K N 1 y.1 := fun y => by unfold dl2; rw [if_neg (by omega), if_pos (by omega)]
    rw [e] at z9 ⊢
    obtain ⟨-, -, k, k1, k2, k3⟩ := rk_m nO z9
    dsimp only
    rw [k3]; exact (nm k k1).2.1 k2
  · have h3 : tk K s.1 - 17 = 3 ∨ tk K s.1 - 17 = 4 := h3
    have e : ∀ y, dl2 K N (tk K s.1) y = (sp K (bl K (decide ((lu K N 2 y.1).1.2 = 0) && decide ((lu K N 2 y.1).2 = y.2)) 3 (lu K N 2 y.1).1), (lu K N 2 y.1).2) := fun y => by unfold dl2; rw [if_neg (by omega), if_neg (by omega), if_pos (by omega)]
    rw [e] at z9 b2 ⊢
    dsimp only at z9 b2 ⊢
    obtain ⟨w1, w2⟩ := bl_z (by decide) (sp_z z9)
    rw [decide_eq_true w2, Bool.true_and] at w1
    have w3 := of_decide_eq_false w1
    obtain ⟨-, -, k, k1, k2, k3⟩ := lu_m nO w2
    refine ⟨by rw [k3]; exact (nm k k1).2.2 k2, fun e9 => w3 ?_⟩
    rw [b2.1, b1.1, e9]
/-! the class's draft of a day -/
def xdg (g q : Nat) : Bool := Nat.ble g q && Nat.ble q (g + 3)
def xdd (g q : Nat) : Bool := xrd q || xdg g q
theorem xdg_f {q : Nat} (h1 : q < g ∨ g + 3 < q) : xdg g q = false := by
  cases e : xdg g q with
  | false => rfl
  | true => simp only [xdg, Bool.and_eq_true, Nat.ble_eq] at e; omega
theorem Fr.dd (f : Fr xrd h h') : Fr (xdd g) h h' := f.mono (fun q hq => by unfold xdd; rw [hq]; rfl)
theorem Fr.dg (f : Fr (xdg g) h h') : Fr (xdd g) h h' := f.mono (fun q hq => by unfold xdd; rw [hq, Bool.or_true])
theorem CF.dg (hg : g = 199 ∨ g = 203) (c : CF h K s) (f : Fr (xdg g) h h') : CF h' K s := c.fr f (xdg_f (by omega)) (xdg_f (by omega)) (xdg_f (by omega)) (xdg_f (by omega)) (xdg_f (by omega))
theorem DayC.xr (hg : g = 199 ∨ g = 203) (c : DayC h g D) (f : Fr xrd h h') : DayC h' g D := c.fr f (xrd_f (by omega) (by omega)) (xrd_f (by omega) (by omega)) (xrd_f (by omega) (by omega)) (xrd_f (by omega) (by omega))
theorem dayC_add {l : Nat × Nat × Nat} (c : DayC h g D) : DayC (wI (wI (wI (wR h (g + 1) D.1 (some (1017 + l.1))) (g + 2) D.1 (nI l.2.1)) (g + 3) D.1 (nI l.2.2)) g 3 (hI h g 3 + 1)) g (psD D l) := by
  refine ⟨?_, fun k hk => ?_⟩
  · rw [wI_at, if_pos rfl, c.1, nI_1]; rfl
  · have hk : k < D.1 + 1 := hk
    have e1 : hR (wI (wI (wI (wR h (g + 1) D.1 (some (1017 + l.1))) (g + 2) D.1 (nI l.2.1)) (g + 3) D.1 (nI l.2.2)) g 3 (hI h g 3 + 1)) (g + 1) k = if k = D.1 then some (1017 + l.1) else hR h (g + 1) k := wR_at h (g + 1) D.1 (some (1017 + l.1)) k
    have e2 : hI (wI (wI (wI (wR h (g + 1) D.1 (some (1017 + l.1))) (g + 2) D.1 (nI l.2.1)) (g + 3) D.1 (nI l.2.2)) g 3 (hI h g 3 + 1)) (g + 2) k = if k = D.1 then nI l.2.1 else hI h (g + 2) k := by
      rw [wI_o _ (by omega : g + 2 ≠ g), wI_o _ (by omega : g + 2 ≠ g + 3), wI_at]; rfl
    have e3 : hI (wI (wI (wI (wR h (g + 1) D.1 (some (1017 + l.1))) (g + 2) D.1 (nI l.2.1)) (g + 3) D.1 (nI l.2.2)) g 3 (hI h g 3 + 1)) (g + 3) k = if k = D.1 then nI l.2.2 else hI h (g + 3) k := by
      rw [wI_o _ (by omega : g + 3 ≠ g), wI_at, wI_o _ (by omega : g + 3 ≠ g + 2)]; rfl
    rw [e1, e2, e3]
    show _ = some (1017 + (if k = D.1 then l else D.2 k).1) ∧ _ = nI (if k = D.1 then l else D.2 k).2.1 ∧ _ = nI (if k = D.1 then l else D.2 k).2.2
    by_cases e : k = D.1
    · rw [if_pos e, if_pos e, if_pos e, if_pos e]; exact ⟨rfl, rfl, rfl⟩
    · rw [if_neg e, if_neg e, if_neg e, if_neg e]; exact c.2 k (by omega)
theorem c_dayAdd {l : Nat × Nat × Nat} (hg : g = 199 ∨ g = 203) (c : DayC h g D) (hn : D.1 < 30) (hl : l.1 ≤ 5) (h1 : ∀ h', Fr (xdg g) h h' → DayC h' g (psD D l) → Q none h') : Rc (d + 1) m_X1_add [.ref g, .ref (1017 + l.1), .int (nI l.2.1), .int (nI l.2.2)] h Q := by
  have c1 := c.1
  have ca := dayC_add (l := l) c
  rcases hg with rfl | rfl
  all_goals
    refine R_in rfl rfl ?_
    refine R_gs 6 rfl ?_
    refine W_bf rfl (fun e => absurd ((nI_leI (a := 30) (by omega) (by omega)).mp (c1 ▸ e)) (by omega)) ?_
    refine R_gs 18 rfl ?_
    refine R_ts rfl rfl rfl (j := D.1) c1 (by omega) (by omega) ?_
    refine R_gs 28 rfl ?_
    refine R_is rfl rfl (j := D.1) c1 (by omega) ?_
    refine R_gs 38 rfl ?_
    refine R_is rfl rfl (j := D.1) c1 (by omega) ?_
    refine R_gs 49 rfl ?_
    refine W_f rfl (by first | rfl | exact ⟨rfl, by first | decide | assumption | exact Or.inl rfl | exact Or.inr rfl | exact b2i_01 _⟩) ?_
    exact h1 _ (((((Fr.refl _ h).wR rfl).wI rfl).wI rfl).wI rfl) ca
theorem c_isVerb {t : Nat} (ht : t < 38) (h1 : Q (some (.int (b2i (vb t)))) h) : Rc (d + 1) m_X8_isVerb [.ref (1000 + t)] h Q := by
  unfold vb at h1
  refine R_in rfl rfl ?_
  refine R_gs 4 rfl ?_
  refine W_d rfl (by omega) (by omega) (by omega) (by omega) (fun hc4 => ?_) (fun hc4 => ?_)
  ·
    refine R_gs 47 rfl ?_
    refine W_f rfl (by first | rfl | exact ⟨rfl, by first | decide | assumption | exact Or.inl rfl | exact Or.inr rfl | exact b2i_01 _⟩) ?_
    first | (rw [decide_eq_true (by omega : 17 ≤ t), decide_eq_true (by omega : t ≤ 22)] at h1; exact h1) | (rw [show (decide (17 ≤ t) && decide (t ≤ 22)) = false from by rw [Bool.and_eq_false_iff, decide_eq_false_iff_not, decide_eq_false_iff_not]; omega] at h1; exact h1)
  ·
    refine R_gs 11 rfl ?_
    refine W_d rfl (by omega) (by omega) (by omega) (by omega) (fun hc11 => ?_) (fun hc11 => ?_)
    ·
      refine R_gs 47 rfl ?_
      refine W_f rfl (by first | rfl | exact ⟨rfl, by first | decide | assumption | exact Or.inl rfl | exact Or.inr rfl | exact b2i_01 _⟩) ?_
      first | (rw [decide_eq_true (by omega : 17 ≤ t), decide_eq_true (by omega : t ≤ 22)] at h1; exact h1) | (rw [show (decide (17 ≤ t) && decide (t ≤ 22)) = false from by rw [Bool.and_eq_false_iff, decide_eq_false_iff_not, decide_eq_false_iff_not]; omega] at h1; exact h1)
    ·
      refine R_gs 18 rfl ?_
      refine W_d rfl (by omega) (by omega) (by omega) (by omega) (fun hc18 => ?_) (fun hc18 => ?_)
      ·
        refine R_gs 47 rfl ?_
        refine W_f rfl (by first | rfl | exact ⟨rfl, by first | decide | assumption | exact Or.inl rfl | exact Or.inr rfl | exact b2i_01 _⟩) ?_
        first | (rw [decide_eq_true (by omega : 17 ≤ t), decide_eq_true (by omega : t ≤ 22)] at h1; exact h1) | (rw [show (decide (17 ≤ t) && decide (t ≤ 22)) = false from by rw [Bool.and_eq_false_iff, decide_eq_false_iff_not, decide_eq_false_iff_not]; omega] at h1; exact h1)
      ·
        refine R_gs 25 rfl ?_
        refine W_d rfl (by omega) (by omega) (by omega) (by omega) (fun hc25 => ?_) (fun hc25 => ?_)
        ·
          refine R_gs 47 rfl ?_
          refine W_f rfl (by first | rfl | exact ⟨rfl, by first | decide | assumption | exact Or.inl rfl | exact Or.inr rfl | exact b2i_01 _⟩) ?_
          first | (rw [decide_eq_true (by omega : 17 ≤ t), decide_eq_true (by omega : t ≤ 22)] at h1; exact h1) | (rw [show (decide (17 ≤ t) && decide (t ≤ 22)) = false from by rw [Bool.and_eq_false_iff, decide_eq_false_iff_not, decide_eq_false_iff_not]; omega] at h1; exact h1)
        ·
          refine R_gs 32 rfl ?_
          refine W_d rfl (by omega) (by omega) (by omega) (by omega) (fun hc32 => ?_) (fun hc32 => ?_)
          ·
            refine R_gs 47 rfl ?_
            refine W_f rfl (by first | rfl | exact ⟨rfl, by first | decide | assumption | exact Or.inl rfl | exact Or.inr rfl | exact b2i_01 _⟩) ?_
            first | (rw [decide_eq_true (by omega : 17 ≤ t), decide_eq_true (by omega : t ≤ 22)] at h1; exact h1) | (rw [show (decide (17 ≤ t) && decide (t ≤ 22)) = false from by rw [Bool.and_eq_false_iff, decide_eq_false_iff_not, decide_eq_false_iff_not]; omega] at h1; exact h1)
          ·
            refine R_gs 39 rfl ?_
            refine W_d rfl (by omega) (by omega) (by omega) (by omega) (fun hc39 => ?_) (fun hc39 => ?_)
            ·
              refine R_gs 47 rfl ?_
              refine W_f rfl (by first | rfl | exact ⟨rfl, by first | decide | assumption | exact Or.inl rfl | exact Or.inr rfl | exact b2i_01 _⟩) ?_
              first | (rw [decide_eq_true (by omega : 17 ≤ t), decide_eq_true (by omega : t ≤ 22)] at h1; exact h1) | (rw [show (decide (17 ≤ t) && decide (t ≤ 22)) = false from by rw [Bool.and_eq_false_iff, decide_eq_false_iff_not, decide_eq_false_iff_not]; omega] at h1; exact h1)
            ·
              refine R_gs 47 rfl ?_
              refine W_f rfl (by first | rfl | exact ⟨rfl, by first | decide | assumption | exact Or.inl rfl | exact Or.inr rfl | exact b2i_01 _⟩) ?_
              first | (rw [decide_eq_true (by omega : 17 ≤ t), decide_eq_true (by omega : t ≤ 22)] at h1; exact h1) | (rw [show (decide (17 ≤ t) && decide (t ≤ 22)) = false from by rw [Bool.and_eq_false_iff, decide_eq_false_iff_not, decide_eq_false_iff_not]; omega] at h1; exact h1)
theorem q_dy (hg : g = 199 ∨ g = 203) : q_rc 262 0 [.ref g] = true := by rcases hg with rfl | rfl <;> rfl
end
