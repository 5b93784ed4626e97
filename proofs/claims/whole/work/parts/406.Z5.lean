theorem born : ∃ gA gB : GH, evD 3000 12 (m_X12_init, 0, [some (.ref 0), none], [], 1, ([], [], [])) = some (none, 235, gA) ∧ fre gA 235 = true ∧ evD 3000 12 (m_X13_init, 0, [some (.ref 235)], [], 236, gA) = some (none, 261, gB) ∧ kI gB = true := by
  have h := run_all
  split at h
  · rename_i v n gA e1
    simp only [Bool.and_eq_true] at h
    obtain ⟨h1, h2, h3, h4⟩ := h
    split at h4
    · rename_i v2 n2 gB e2
      simp only [Bool.and_eq_true] at h4
      obtain ⟨k1, k2, k3⟩ := h4
      obtain rfl := Nat.eq_of_beq_eq_true h2
      obtain rfl := Nat.eq_of_beq_eq_true k2
      cases v with
      | some w => cases h1
      | none =>
        cases v2 with
        | some w => cases k1
        | none => exact ⟨gA, gB, e1, h3, e2, k3⟩
    · cases h4
  · cases h
/-- the heap before all -/
def bas (L : Nat) (xs : Nat → Int32) : AH := (fun a k => if a = 1101 then PAIRS.getD k 0 else if a = 1102 then SWM.getD k 0 else if a = 1103 then xs k else if a = 1104 then nI L else 0, fun _ _ => 0, fun _ _ => none)
theorem bas_z (L : Nat) (xs : Nat → Int32) : BZ (bas L xs) := by
  intro a ha k
  refine ⟨?_, rfl, rfl⟩
  show (if a = 1101 then PAIRS.getD k 0 else if a = 1102 then SWM.getD k 0 else if a = 1103 then xs k else if a = 1104 then nI L else 0) = 0
  rw [if_neg (by omega), if_neg (by omega), if_neg (by omega), if_neg (by omega)]
def LW0 : SL := ((0, 0, 0), fun _ => 0, fun _ => 0, fun _ => 0, fun _ _ => 0, fun _ _ => 0, 0, [1], [1, -1, -9, -2, -9])
def SW0 : SS := (0, 0, 0, 0, fun _ => 0, fun _ => 0, fun _ => 0, fun _ => -1)
def HW0 : SH' := (0, fun _ => 0)
def BW0 : SB' := (0, fun _ => SW0)
def MW0 : SM' := fun _ => none
def DW0 : SD' := (0, fun _ => (0, 0, 0))
def TW00 : ST' := (0, fun _ => 0)
def NW0 : SN' := (0, fun _ => (0, [], 0))
theorem ok0 : WOK LW0 SW0 HW0 BW0 MW0 DW0 TW00 NW0 := by
  refine ⟨⟨by decide, by decide, by decide, fun p hp => absurd hp (Nat.not_lt_zero p), ⟨by decide, by decide, by decide⟩, ⟨by decide, by decide, by decide⟩⟩, ⟨fun i hi h => ?_, fun p hp => absurd hp (Nat.not_lt_zero p), fun s _ => Or.inl rfl⟩, ⟨by decide, fun i hi => absurd hi (Nat.not_lt_zero i)⟩, ⟨by decide, fun k hk => absurd hk (Nat.not_lt_zero k)⟩, fun m _ U hU => (by cases hU), ⟨by decide, fun k hk => absurd hk (Nat.not_lt_zero k)⟩, ⟨by decide, fun k hk => absurd hk (Nat.not_lt_zero k)⟩, ⟨by decide, fun k hk => absurd hk (Nat.not_lt_zero k)⟩⟩
  have h0 : bt 0 i = false := by
    have q : ∀ i, i < 32 → bt 0 i = false := by decide
    exact q i hi
  rw [show sW SW0 = 0 from rfl, h0] at h
  cases h
section
variable {L : Nat} {xs : Nat → Int32} {g : GH}
theorem kI_all (h : kI g = true) : (∀ q ∈ kL, hI (den (bas L xs) g) q.1 q.2.1 = q.2.2) ∧ MatC (den (bas L xs) g) ∧ WrdM (den (bas L xs) g) ∧ (∀ q ∈ kQ, hR (den (bas L xs) g) q.1 q.2.1 = some q.2.2) ∧ fre g 261 = true ∧ (∀ a, a < 262 → kR g a = true) ∧ ∀ a, 1000 ≤ a → hI (den (bas L xs) g) a = hI (bas L xs) a := by
  unfold kI at h
  simp only [Bool.and_eq_true] at h
  obtain ⟨h0, h1, h2, h3, h4, h5, h6⟩ := h
  have h1 := List.all_eq_true.mp h1
  have h2 := of_decide_eq_true h2
  have h3 := List.all_eq_true.mp h3
  have h4 := List.all_eq_true.mp h4
  have h6 := List.all_eq_true.mp h6
  have kl : ∀ q ∈ kL, q.1 < 1000 := by decide
  have kq : ∀ q ∈ kQ, q.1 < 1000 := by decide
  refine ⟨fun q hq => ?_, fun i hi => ?_, fun w hw => ?_, fun q hq => ?_, h5, fun a ha => h6 a (List.mem_range.mpr ha), fun a ha => funext fun k => ?_⟩
  · rw [den_I (bas_z L xs) (kl q hq)]
    exact of_decide_eq_true (h1 q hq)
  · rw [den_I (bas_z L xs) (by decide)]
    have e := congrArg (fun l => l[i]?) h2
    rw [List.getElem?_map, List.getElem?_map, List.getElem?_range hi] at e
    rw [List.getD_eq_getElem?_getD]
    cases hp : PRS[i]? with
    | none => rw [hp] at e; cases e
    | some v =>
      rw [hp] at e
      exact Option.some.inj e
  · rw [den_J (bas_z L xs) (by decide)]
    exact of_decide_eq_true (h3 w (List.mem_range.mpr hw))
  · rw [den_R (bas_z L xs) (kq q hq)]
    exact of_decide_eq_true (h4 q hq)
  · refine lkp_free _ a k g.1 (List.all_eq_true.mpr fun q hq => ?_)
    have h7 := Nat.le_of_ble_eq_true (List.all_eq_true.mp h0 q hq)
    rw [beq_f (by omega)]
    rfl
theorem first_C (h : kI g = true) : RC (den (bas L xs) g) LW0 SW0 HW0 BW0 MW0 DW0 TW00 NW0 := by
  obtain ⟨e, e2, e3, e4, -, -, e7⟩ := kI_all (L := L) (xs := xs) h
  refine ⟨143, 199, ⟨Or.inl rfl, Or.inl rfl, e4 (0, 8, 143) (by decide), e4 (0, 9, 171) (by decide), e4 (0, 10, 199) (by decide), e4 (0, 11, 203) (by decide)⟩,
    ⟨e (143, 4, 0) (by decide), e (143, 5, 0) (by decide), e (143, 6, 0) (by decide), e (143, 13, 0) (by decide), fun p hp => absurd hp (Nat.not_lt_zero p), ⟨e (165, 2, 1) (by decide), fun i hi => ?_⟩, ⟨e (168, 2, 5) (by decide), fun i hi => ?_⟩⟩,
    ⟨e (7, 0, 0) (by decide), e (7, 1, 0) (by decide), e (7, 2, 0) (by decide), e (7, 3, 0) (by decide), fun p hp => absurd hp (Nat.not_lt_zero p), fun s hs => ?_⟩, ⟨e (7, 10, 0) (by decide), fun i hi => absurd hi (Nat.not_lt_zero i)⟩,
    ⟨by decide, 0, by decide, e (21, 1, 0) (by decide), e (21, 2, 0) (by decide), fun k hk => absurd hk (Nat.not_lt_zero k)⟩, ⟨fun m hm => ?_, fun m _ T hT => by cases hT⟩, ⟨e (199, 3, 0) (by decide), fun k hk => absurd hk (Nat.not_lt_zero k)⟩, ⟨e (1, 1, 0) (by decide), fun k hk => absurd hk (Nat.not_lt_zero k)⟩, ⟨e (143, 3, 0) (by decide), fun k hk => absurd hk (Nat.not_lt_zero k)⟩, ⟨fun j _ => by rw [e7 1101 (by decide)]; rfl, fun j _ => by rw [e7 1102 (by decide)]; rfl⟩, e2⟩
  · match i, hi with
    | 0, _ => exact e (166, 0, 1) (by decide)
  · match i, hi with
    | 0, _ => exact e (169, 0, 1) (by decide)
    | 1, _ => exact e (169, 1, -1) (by decide)
    | 2, _ => exact e (169, 2, -9) (by decide)
    | 3, _ => exact e (169, 3, -2) (by decide)
    | 4, _ => exact e (169, 4, -9) (by decide)
  · match s, hs with
    | 0, _ => exact e (12, 0, -1) (by decide)
    | 1, _ => exact e (12, 1, -1) (by decide)
    | 2, _ => exact e (12, 2, -1) (by decide)
    | 3, _ => exact e (12, 3, -1) (by decide)
  · rw [e (0, 12, 0) (by decide)]
    have q : ∀ m, m < 4 → bt 0 m = false := by decide
    exact q m hm
theorem first_M (h : kI g = true) : RM (den (bas L xs) g) LW0 SW0 HW0 BW0 MW0 DW0 TW00 NW0 := by
  obtain ⟨e, e2, e3, e4, -, -, e7⟩ := kI_all (L := L) (xs := xs) h
  refine ⟨⟨e (241, 0, 0) (by decide), e (241, 1, 0) (by decide), e (241, 2, 0) (by decide), e (241, 5, 0) (by decide), fun p hp => absurd hp (Nat.not_lt_zero p), Or.inl ⟨e (241, 3, -1) (by decide), rfl⟩, Or.inl ⟨e (241, 4, -1) (by decide), rfl⟩⟩,
    ⟨e (251, 0, 0) (by decide), e (251, 1, 0) (by decide), e (251, 2, 0) (by decide), e (251, 3, 0) (by decide), fun p hp => absurd hp (Nat.not_lt_zero p), fun s hs => rfl⟩, ⟨e (251, 34, 0) (by decide), fun i hi => absurd hi (Nat.not_lt_zero i)⟩,
    ⟨e (235, 25, 0) (by decide), fun k hk => absurd hk (Nat.not_lt_zero k)⟩, fun m hm => ⟨?_, fun T hT => by cases hT⟩, ⟨e (248, 0, 0) (by decide), fun k hk => absurd hk (Nat.not_lt_zero k)⟩, ⟨e (235, 2, 0) (by decide), fun k hk => absurd hk (Nat.not_lt_zero k)⟩, ⟨e (235, 18, 0) (by decide), fun k hk => absurd hk (Nat.not_lt_zero k)⟩⟩
  match m, hm with
  | 0, _ => exact e (252, 0, 0) (by decide)
  | 1, _ => exact e (252, 1, 0) (by decide)
  | 2, _ => exact e (252, 2, 0) (by decide)
  | 3, _ => exact e (252, 3, 0) (by decide)
theorem first_W (h : kI g = true) : WrdM (den (bas L xs) g) ∧ NmD NW0 := ⟨(kI_all (L := L) (xs := xs) h).2.2.1, fun j k _ hk => absurd hk (Nat.not_lt_zero k)⟩
/-- from now on the references are known -/
theorem hr_01 {G : AG} {ad : Nat → Nat} {H : Heap} (h : kI g = true) (hH : HR ρ0 G ad 262 (den (bas L xs) g) H) : HR ρ1 G ad 262 (den (bas L xs) g) H := by
  obtain ⟨-, -, -, -, -, e6, -⟩ := kI_all (L := L) (xs := xs) h
  have key : ∀ a, a < 262 → ∀ H : Heap, va_at G.2.1 vwCl (ad a, ent ρ0 G ad (den (bas L xs) g) a) H → va_at G.2.1 vwCl (ad a, ent ρ1 G ad (den (bas L xs) g) a) H := by
    intro a ha H q
    have hk := e6 a ha
    unfold kR at hk
    rw [Bool.and_eq_true] at hk
    obtain ⟨k1, k2⟩ := hk
    have r1 : ∀ j, j < (SH a).2 → rfR ρ1 (den (bas L xs) g) a j = rfR ρ0 (den (bas L xs) g) a j := by
      intro j hj
      show (match RA a with | some (b, t) => some (b + t * j) | none => hR (den (bas L xs) g) a j) = hR (den (bas L xs) g) a j
      cases hr : RA a with
      | none => rfl
      | some w =>
        obtain ⟨b, t⟩ := w
        rw [hr] at k2
        have k3 := of_decide_eq_true (List.all_eq_true.mp k2 j (List.mem_range.mpr hj))
        rw [den_R (bas_z L xs) (by omega)]
        exact k3.symm
    unfold ent at q ⊢
    cases e1 : Nat.ble (SH a).1 10 with
    | true =>
      rw [e1] at q k1
      have k1 := List.all_eq_true.mp k1
      have e2 : (List.range (SH a).2).map (eF ρ1 ad (den (bas L xs) g) a (SH a).1) = (List.range (SH a).2).map (eF ρ0 ad (den (bas L xs) g) a (SH a).1) := by
        refine List.map_congr_left fun k hk => ?_
        have k3 := k1 k hk
        have r2 : rfA ρ1 (den (bas L xs) g) a k = rfA ρ0 (den (bas L xs) g) a k := by
          show (match RF a k with | some b => some b | none => hR (den (bas L xs) g) a k) = hR (den (bas L xs) g) a k
          cases hr : RF a k with
          | none => rfl
          | some b =>
            rw [hr] at k3
            rw [den_R (bas_z L xs) (by omega)]
            exact (of_decide_eq_true k3).symm
        unfold eF
        rw [r2]
      rw [cond_true] at q ⊢
      rw [e2]
      exact q
    | false =>
      rw [e1] at q
      rw [cond_false] at q ⊢
      cases e2 : Nat.beq (SH a).1 12 with
      | true => rw [e2] at q; exact q
      | false =>
        rw [e2] at q
        rw [cond_false] at q ⊢
        cases e3 : Nat.ble 15 (SH a).1 with
        | false => rw [e3] at q; exact q
        | true =>
          rw [e3] at q
          rw [cond_true] at q ⊢
          have e4 : vp_cell (G.2.2.1 (SH a).1) ((SH a).2, .inr (.inr (.inr (.inr (fun j => (rfR ρ1 (den (bas L xs) g) a j).map ad))))) = vp_cell (G.2.2.1 (SH a).1) ((SH a).2, .inr (.inr (.inr (.inr (fun j => (rfR ρ0 (den (bas L xs) g) a j).map ad))))) := by
            unfold vp_cell
            dsimp only
            unfold arrV
            congr 1
            refine congrArg Array.ofFn (funext fun j => ?_)
            dsimp only
            rw [r1 j.1 j.2]
          show H[ad a]? = some _
          rw [e4]
          exact q
  refine ⟨fun k q hk => ?_, ⟨fun i j p q hp hq e => ?_, fun k q hk => ?_⟩, hH.2.2⟩
  · have hlt : k < 262 := by
      have := (List.getElem?_eq_some_iff.mp hk).1
      simpa [wsA] using this
    rw [wsA_at hlt] at hk
    obtain rfl := Option.some.inj hk
    exact key k hlt H (hH.1 k _ (wsA_at hlt))
  · have hi : i < 262 := by
      have := (List.getElem?_eq_some_iff.mp hp).1
      simpa [wsA] using this
    have hj : j < 262 := by
      have := (List.getElem?_eq_some_iff.mp hq).1
      simpa [wsA] using this
    rw [wsA_at hi] at hp
    rw [wsA_at hj] at hq
    obtain rfl := Option.some.inj hp
    obtain rfl := Option.some.inj hq
    exact hH.2.1.1 i j _ _ (wsA_at hi) (wsA_at hj) e
  · have hlt : k < 262 := by
      have := (List.getElem?_eq_some_iff.mp hk).1
      simpa [wsA] using this
    rw [wsA_at hlt] at hk
    obtain rfl := Option.some.inj hk
    exact hH.2.1.2 k (ad k, ent ρ0 G ad (den (bas L xs) g) k) (wsA_at hlt)
/-- the law's beginning -/
theorem w_begin {Q : Option Value → AH → Prop} {S : AS → Prop} (hS : ∀ gB, kI gB = true → S (m_L_law, 23, [some (.ref 1103), some (.ref 0), some (.ref 235), some (.ref 261), some (.int 0), none, none], [], 262, den (bas L xs) gB)) : Wps ρ0 (Cl ρ0 13) 262 Q S (m_L_law, 0, [some (.ref 1103), none, none, none, none, none, none], [], 0, den (bas L xs) ([], [], [])) := by
  obtain ⟨gA, gB, h1, h2, h3, h4⟩ := born
  obtain ⟨-, k2⟩ := evD_s 3000 12 _ _ _ _ _ _ _ _ _ h1
  obtain ⟨-, k4⟩ := evD_s 3000 12 _ _ _ _ _ _ _ _ _ h3
  have hz := bas_z L xs
  have h5 := (kI_all (L := L) (xs := xs) h4).2.2.2.2.1
  refine W_c rfl ⟨by decide, by decide, rfl, by decide, ⟨fun _ _ => rfl, fun _ => rfl⟩, rfl⟩ ?_
  rw [den_zH hz rfl (by decide)]
  refine W_g 4 400 rfl ?_
  refine W_k (n1 := 235) (Cl.cm _) rfl rfl (Cl_of rfl (by decide) rfl (k2 _ hz _ ?_))
  refine W_g 8 400 rfl ?_
  refine W_c rfl ⟨by decide, by decide, rfl, by decide, ⟨fun _ _ => rfl, fun _ => rfl⟩, rfl⟩ ?_
  rw [den_zH hz h2 (by decide)]
  refine W_g 12 400 rfl ?_
  refine W_k (n1 := 261) (Cl.cm _) rfl rfl (Cl_of rfl (by decide) rfl (k4 _ hz _ ?_))
  refine W_g 17 400 rfl ?_
  refine W_c rfl ⟨by decide, by decide, rfl, by decide, by decide, ⟨fun _ _ => rfl, fun _ => rfl⟩, rfl⟩ ?_
  rw [den_zH hz h5 (by decide)]
  refine W_g 23 400 rfl ?_
  exact W_stop (hS gB h4)
end
