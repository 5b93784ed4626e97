/-! one step of the abstract machine is one of the machine -/
def sl : Nat → Nat
  | 0 => 0
  | n + 1 => sl n + (SH n).2
theorem vw_at {ci : Nat} (h : ci < 11) : vwCl[ci]? = some (vwX ci) := by
  rcases (show ci = 0 ∨ ci = 1 ∨ ci = 2 ∨ ci = 3 ∨ ci = 4 ∨ ci = 5 ∨ ci = 6 ∨ ci = 7 ∨ ci = 8 ∨ ci = 9 ∨ ci = 10 by omega) with rfl | rfl | rfl | rfl | rfl | rfl | rfl | rfl | rfl | rfl | rfl <;> rfl
theorem in_all {ci : Nat} (h : ci < 11) : ∀ w ∈ u_ws (vwX ci).1 (vwX ci).2.1 (vwX ci).2.2, w ∈ wAll := by
  rcases (show ci = 0 ∨ ci = 1 ∨ ci = 2 ∨ ci = 3 ∨ ci = 4 ∨ ci = 5 ∨ ci = 6 ∨ ci = 7 ∨ ci = 8 ∨ ci = 9 ∨ ci = 10 by omega) with rfl | rfl | rfl | rfl | rfl | rfl | rfl | rfl | rfl | rfl | rfl
  · exact in_X1
  · exact in_X2
  · exact in_X3
  · exact in_X4
  · exact in_X6
  · exact in_X7
  · exact in_X8
  · exact in_X9
  · exact in_X10
  · exact in_X12
  · exact in_X13
def tyA (ci : Nat) : Nat → FieldType := [tyX1, tyX2, tyX3, tyX4, tyX6, tyX7, tyX8, tyX9, tyX10, tyX12, tyX13].getD ci tyX0
theorem ty_all {ci : Nat} (h : ci < 11) : ∀ k, k < (vwX ci).2.2 → parseFieldDescriptor ((vwX ci).2.1 k).2.2.1 = some (tyA ci k) := by
  rcases (show ci = 0 ∨ ci = 1 ∨ ci = 2 ∨ ci = 3 ∨ ci = 4 ∨ ci = 5 ∨ ci = 6 ∨ ci = 7 ∨ ci = 8 ∨ ci = 9 ∨ ci = 10 by omega) with rfl | rfl | rfl | rfl | rfl | rfl | rfl | rfl | rfl | rfl | rfl
  · exact tyX1_ok
  · exact tyX2_ok
  · exact tyX3_ok
  · exact tyX4_ok
  · exact tyX6_ok
  · exact tyX7_ok
  · exact tyX8_ok
  · exact tyX9_ok
  · exact tyX10_ok
  · exact tyX12_ok
  · exact tyX13_ok
theorem nm_all {ci : Nat} (h : ci < 11) : ∀ a, a < (vwX ci).2.2 → ∀ b, b < (vwX ci).2.2 → a ≠ b → ((vwX ci).2.1 a).2.1 ≠ ((vwX ci).2.1 b).2.1 := by
  rcases (show ci = 0 ∨ ci = 1 ∨ ci = 2 ∨ ci = 3 ∨ ci = 4 ∨ ci = 5 ∨ ci = 6 ∨ ci = 7 ∨ ci = 8 ∨ ci = 9 ∨ ci = 10 by omega) with rfl | rfl | rfl | rfl | rfl | rfl | rfl | rfl | rfl | rfl | rfl
  · exact nmX1
  · exact nmX2
  · exact nmX3
  · exact nmX4
  · exact nmX6
  · exact nmX7
  · exact nmX8
  · exact nmX9
  · exact nmX10
  · exact nmX12
  · exact nmX13
theorem SH_all : (List.range 1104).all (fun a => (Nat.ble 11 (SH a).1 || Nat.beq (SH a).2 (vwX (SH a).1).2.2)) = true := by decide +kernel
theorem SH_big {a : Nat} (h : 1104 ≤ a) : SH a = (99, 0) := by
  unfold SH
  rw [Nat.ble_eq_true_of_le h]
  rfl
theorem SH_obj {a ci : Nat} (h : (SH a).1 = ci) (hc : ci ≤ 10) : SH a = (ci, (vwX ci).2.2) := by
  by_cases ha : a < 1104
  · have h1 := List.all_eq_true.mp SH_all a (List.mem_range.mpr ha)
    rw [Bool.or_eq_true] at h1
    rcases h1 with h1 | h1
    · have := Nat.le_of_ble_eq_true h1
      omega
    · have h2 := Nat.eq_of_beq_eq_true h1
      rw [h] at h2
      exact Prod.ext h h2
  · have h1 := SH_big (Nat.not_lt.mp ha)
    rw [h1] at h
    dsimp only at h
    omega
theorem SH_tok : (List.range 1104).all (fun a => (!(Nat.beq (SH a).1 20) || (Nat.ble 1000 a && Nat.ble a 1037))) = true := by decide +kernel
theorem SH_20 {a : Nat} (h : (SH a).1 = 20) : 1000 ≤ a ∧ a < 1038 := by
  by_cases ha : a < 1104
  · have h1 := List.all_eq_true.mp SH_tok a (List.mem_range.mpr ha)
    rw [h] at h1
    simp only [Bool.or_eq_true, Bool.not_eq_true', Bool.and_eq_true] at h1
    rcases h1 with h1 | ⟨h1, h2⟩
    · cases h1
    · have := Nat.le_of_ble_eq_true h1
      have := Nat.le_of_ble_eq_true h2
      omega
  · rw [SH_big (Nat.not_lt.mp ha)] at h
    cases h
theorem chk_at {μ own : Nat} {cc : ByteArray} {rt : Option FieldType} {pc : Nat} {i : Instr} {nx x y : Nat} {v : Value} (h : chk μ own cc rt pc = true) (hK : KT μ pc = some (i, nx, x, y, v)) : (isSw i = false → nx = pc + lenI i ∧ decode cc pc = .ok (i, lenI i)) ∧ decode cc pc = .ok (i, nx - pc) ∧ chkI μ own pc rt i nx x y v = true := by
  unfold chk at h
  rw [hK] at h
  dsimp only at h
  rw [Bool.and_eq_true, Bool.and_eq_true, decide_eq_true_eq] at h
  obtain ⟨⟨h1, h2⟩, h3⟩ := h
  refine ⟨fun hs => ?_, h1, h3⟩
  rw [hs, Bool.false_or] at h2
  have h4 := Nat.eq_of_beq_eq_true h2
  refine ⟨h4, ?_⟩
  rw [h1, h4, Nat.add_sub_cancel_left]
/-- the frame's own facts -/
def FF (p : Program) (s : State) (m : MethodId) (args : Array Value) (meth : Method) (c : Code) (R : Room) (μ : Nat) (cc : ByteArray) (ml : Nat) (rt : Option FieldType) (own n0 n' gc gs : Nat) : Prop :=
  p.tables.exec = Jvm.exec ∧ c.code = cc ∧ c.maxLocals = ml ∧ meth.sig.returnType = rt ∧ meth.locks = false ∧ s.vm.findClass (cnX own) = some m.cls ∧ (∀ w ∈ wAll, w.before args s = true) ∧ (∀ pc, chk μ own cc rt pc = true) ∧ own < 18 ∧ meth.name = (myX μ).name ∧ 1 ≤ R.frames ∧ 64 ≤ R.locals ∧ gc + (n' - n0) ≤ R.cells ∧ gs + (sl n' - sl n0) ≤ R.slots
def WA (ρ : AR) (G : AG) (p : Program) (l : Launch) (e : Env) (R : Room) (s : State) (m : MethodId) (args : Array Value) (below : List Frame) (meth : Method) (c : Code) (Qw : State → Prop) (μ ml n0 n' gc gs : Nat) (ad0 : Nat → Nat) (σ : AS) : Prop :=
  ∀ (ad : Nat → Nat) (ls : Array Slot) (H : Heap) (locs : List Loc), σ.1 = μ → LV ls ml ad σ.2.2.1 → HR ρ G ad σ.2.2.2.2.1 σ.2.2.2.2.2 H → VR G ad s H → va_S (Ab G) s.heap H locs → n0 ≤ σ.2.2.2.2.1 → σ.2.2.2.2.1 ≤ n' → (∀ i, i < n0 ∨ n' ≤ i → ad i = ad0 i) →
    W p l e R s m args below meth c H locs (gc + (σ.2.2.2.2.1 - n0)) (gs + (sl σ.2.2.2.2.1 - sl n0)) Qw (F0 m σ.2.1 ls (σ.2.2.2.1.map (cv ad)))
theorem q_cat_sum (ad : Nat → Nat) : ∀ st : List Value, ((st.map (cv ad)).map fun v => v.category).sum = q_cat st
  | [] => rfl
  | v :: st => by
    rw [List.map_cons, List.map_cons, List.sum_cons, q_cat_sum ad st, cv_cat]
    rfl
theorem inL {α : Type} [BEq α] [LawfulBEq α] {l : List α} {a : α} (h : l.contains a = true) : a ∈ l := List.contains_iff_mem.mp h
section SND
variable {p : Program} {l : Launch} {e : Env} {R : Room} {s : State} {m : MethodId} {args : Array Value} {below : List Frame} {meth : Method} {c : Code} {Qw : State → Prop}
variable {ρ : AR} {G : AG} {μ : Nat} {cc : ByteArray} {ml : Nat} {rt : Option FieldType} {own n0 n' gc gs : Nat} {ad0 : Nat → Nat}
theorem SH_22all : (List.range 1104).all (fun a => (!(Nat.beq (SH a).1 22) || Nat.beq a 1103) && (!(Nat.ble 1000 a) || Nat.ble 11 (SH a).1) && (!(Nat.beq (SH a).1 21) || Nat.beq a 1101 || Nat.beq a 1102)) = true := by decide +kernel
theorem SH_22 {a : Nat} (h : (SH a).1 = 22) : a = 1103 := by
  by_cases ha : a < 1104
  · have h1 := List.all_eq_true.mp SH_22all a (List.mem_range.mpr ha)
    rw [h] at h1
    simp only [Bool.and_eq_true, Bool.or_eq_true, Bool.not_eq_true'] at h1
    rcases h1.1.1 with h2 | h2
    · cases h2
    · exact Nat.eq_of_beq_eq_true h2
  · rw [SH_big (Nat.not_lt.mp ha)] at h
    cases h
theorem SH_hi {a : Nat} (h : 1000 ≤ a) : 11 ≤ (SH a).1 := by
  by_cases ha : a < 1104
  · have h1 := List.all_eq_true.mp SH_22all a (List.mem_range.mpr ha)
    simp only [Bool.and_eq_true, Bool.or_eq_true, Bool.not_eq_true'] at h1
    rcases h1.1.2 with h2 | h2
    · rw [Nat.ble_eq_true_of_le h] at h2
      cases h2
    · exact Nat.le_of_ble_eq_true h2
  · rw [SH_big (Nat.not_lt.mp ha)]
    decide
theorem SH_21 {a : Nat} (h : (SH a).1 = 21) : a = 1101 ∨ a = 1102 := by
  by_cases ha : a < 1104
  · have h1 := List.all_eq_true.mp SH_22all a (List.mem_range.mpr ha)
    rw [h] at h1
    simp only [Bool.and_eq_true, Bool.or_eq_true, Bool.not_eq_true'] at h1
    rcases h1.2 with (h2 | h2) | h2
    · cases h2
    · exact Or.inl (Nat.eq_of_beq_eq_true h2)
    · exact Or.inr (Nat.eq_of_beq_eq_true h2)
  · rw [SH_big (Nat.not_lt.mp ha)] at h
    cases h
theorem q_is_spec {n a x : Nat} (h : q_is n a x = true) : (SH a).1 = x ∧ (a < n ∨ 1000 ≤ a) := by
  unfold q_is at h
  rw [Bool.and_eq_true, Bool.or_eq_true] at h
  refine ⟨Nat.eq_of_beq_eq_true h.1, ?_⟩
  rcases h.2 with h2 | h2
  · exact Or.inl (Nat.le_of_ble_eq_true h2)
  · exact Or.inr (Nat.le_of_ble_eq_true h2)
theorem cv_tkF (ad : Nat → Nat) (y t : Nat) : cv ad (tkF y t) = tkF y t := by
  unfold tkF
  cases Nat.beq y 0 <;> cases Nat.beq y 1 <;> cases Nat.beq y 2 <;> rfl
theorem cv_rf (ad : Nat → Nat) (r : Option Nat) : cv ad (va_rf r) = va_rf (r.map ad) := by cases r <;> rfl
theorem q_get_spec {β : Type} {ad : Nat → Nat} {h : AH} {a x y : Nat} {v : Value} {k : Value → Option β} {r : β} (hx : ¬ x = 20) (hk : kOf v = FK x y) (hg : q_get ρ h a x y v k = some r) : ∃ w, k w = some r ∧ cv ad w = eF ρ ad h a x y := by
  unfold q_get at hg
  have h20 : Nat.beq x 20 = false := by
    cases hb : Nat.beq x 20 with
    | false => rfl
    | true => exact absurd (Nat.eq_of_beq_eq_true hb) hx
  rw [h20] at hg
  unfold eF
  rw [← hk]
  cases v with
  | int z => exact ⟨_, hg, rfl⟩
  | float z => exact ⟨_, hg, rfl⟩
  | long z => exact ⟨_, hg, rfl⟩
  | null =>
    dsimp only [cond_false] at hg
    cases hr : ρ.1 a y with
    | some b =>
      rw [hr] at hg
      refine ⟨_, hg, ?_⟩
      unfold rfA
      rw [hr]
      rfl
    | none =>
      rw [hr] at hg
      refine ⟨_, hg, ?_⟩
      unfold rfA
      rw [hr]
      exact cv_rf ad _
  | _ => simp at hg
/-- a field link's word -/
theorem fl_link {own j x y : Nat} (h : (FLx.contains (own, j, 0, x, y) || FLx.contains (own, j, 1, x, y)) = true) : flG (own, j, 0, x, y) = true ∧ (flW (own, j, 0, x, y) ∈ wAll ∨ flW (own, j, 1, x, y) ∈ wNest) := by
  rw [Bool.or_eq_true] at h
  rcases h with h | h
  · obtain ⟨b, hw⟩ := all_zip (by decide +kernel) FL_ok _ (inL h)
    obtain ⟨h1, h2⟩ := (Bool.and_eq_true _ _).mp hw
    exact ⟨h2, Or.inl (inAt_in h1)⟩
  · obtain ⟨b, hw⟩ := all_zip (by decide +kernel) FL_ok _ (inL h)
    obtain ⟨h1, h2⟩ := (Bool.and_eq_true _ _).mp hw
    obtain ⟨h3, h4⟩ := (Bool.and_eq_true _ _).mp h1
    exact ⟨h2, Or.inr (nsAt_in h3 h4)⟩
theorem fl_obj {own j nest x y : Nat} (hx : ¬ x = 20) (h : flG (own, j, nest, x, y) = true) : x < 11 ∧ y < (vwX x).2.2 ∧ ((vwX x).2.1 y).1 = (vwX x).1 := by
  unfold flG at h
  dsimp only at h
  have h20 : Nat.beq x 20 = false := by
    cases hb : Nat.beq x 20 with
    | false => rfl
    | true => exact absurd (Nat.eq_of_beq_eq_true hb) hx
  rw [h20] at h
  dsimp only [cond_false] at h
  rw [Bool.and_eq_true, Bool.and_eq_true, decide_eq_true_eq] at h
  exact ⟨Nat.le_of_ble_eq_true h.2, Nat.le_of_ble_eq_true h.1.1, h.1.2⟩
theorem flW_0 {own j x y : Nat} (hx : ¬ x = 20) : flW (own, j, 0, x, y) = .fieldLink (cnX own) j (vwX x).1 ((vwX x).2.1 y).2.1 ((vwX x).2.1 y).2.2.1 := by
  unfold flW
  dsimp only
  have h20 : Nat.beq x 20 = false := by
    cases hb : Nat.beq x 20 with
    | false => rfl
    | true => exact absurd (Nat.eq_of_beq_eq_true hb) hx
  rw [h20]
  rfl
theorem flW_1 {own j x y : Nat} (hx : ¬ x = 20) : flW (own, j, 1, x, y) = .fieldLinkNest (cnX own) j (vwX x).1 ((vwX x).2.1 y).2.1 ((vwX x).2.1 y).2.2.1 "SnapWed" := by
  unfold flW
  dsimp only
  have h20 : Nat.beq x 20 = false := by
    cases hb : Nat.beq x 20 with
    | false => rfl
    | true => exact absurd (Nat.eq_of_beq_eq_true hb) hx
  rw [h20]
  rfl
theorem obj_at {ad : Nat → Nat} {n : Nat} {h : AH} {a x : Nat} (ha : a < n) (hs : (SH a).1 = x) (hx : x < 11) : (wsA ρ G ad n h)[a]? = some (ad a, .inr (x, (List.range (vwX x).2.2).map (eF ρ ad h a x))) := by
  rw [wsA_at ha, ent_obj (SH_obj hs (by omega)) (by omega)]
theorem fs_at {ad : Nat → Nat} {h : AH} {a x N y : Nat} (hy : y < N) : ((List.range N).map (eF ρ ad h a x))[y]? = some (eF ρ ad h a x y) := by
  rw [List.getElem?_map, List.getElem?_range hy]
  rfl
set_option maxHeartbeats 4000000 in
theorem sd_get (F : FF p s m args meth c R μ cc ml rt own n0 n' gc gs) {pc j x y : Nat} {v : Value} {lv : AL} {st : List Value} {n : Nat} {h : AH} (hd : decode cc pc = .ok (.getfield j, lenI (.getfield j))) (hi : chkI μ own pc rt (.getfield j) (pc + lenI (.getfield j)) x y v = true)
    {ad : Nat → Nat} {ls : Array Slot} {H : Heap} {locs : List Loc} (hl : LV ls ml ad lv) (hH : HR ρ G ad n h H) (hV : VR G ad s H) (hS : va_S (Ab G) s.heap H locs) {a : Nat} (hq : (SH a).1 = x ∧ (a < n ∨ 1000 ≤ a)) {τ' : AS} (hs : q_get ρ h a x y v (fun w => some (μ, pc + lenI (.getfield j), lv, w :: st, n, h)) = some τ')
    (hX : WA ρ G p l e R s m args below meth c Qw μ ml n0 n' gc gs ad0 τ') (hn0 : n0 ≤ n) (hn1 : n ≤ n') (had : ∀ i, i < n0 ∨ n' ≤ i → ad i = ad0 i) : W p l e R s m args below meth c H locs (gc + (n - n0)) (gs + (sl n - sl n0)) Qw (F0 m pc ls ((Value.ref a :: st).map (cv ad))) := by
  obtain ⟨hx, hb, hml, hr, hlk, hown, hts, hck, hol, hnm, hfr, hlo, hRc, hRs⟩ := id F
  obtain ⟨hi1, hi2⟩ := (Bool.and_eq_true _ _).mp hi
  obtain ⟨hg, hw⟩ := fl_link hi1
  by_cases hx20 : x = 20
  · subst hx20
    obtain ⟨ha1, ha2⟩ := SH_20 hq.1
    obtain ⟨t, rfl⟩ : ∃ t, a = 1000 + t := ⟨a - 1000, by omega⟩
    have ht : t < 38 := by omega
    have hy : y < 4 := Nat.le_of_ble_eq_true hg
    have hs2 : some (μ, pc + lenI (.getfield j), lv, tkF y (1000 + t - 1000) :: st, n, h) = some τ' := hs
    rw [Nat.add_sub_cancel_left] at hs2
    obtain rfl := Option.some.inj hs2
    have k1 := hX ad ls H locs rfl hl hH hV hS hn0 hn1 had
    dsimp only at k1
    rw [List.map_cons, cv_tkF] at k1
    obtain ⟨cf, k, fi, f, cell, h1, h2, h3, h4, h5, h6⟩ := (hV.2.2.1 t ht).2 y hy
    rcases hw with hw | hw
    · exact W.getf hx hb hown (hts _ hw) h1 h2 h3 h4 h5 rfl rfl hd k1
    · exact va_Wgetf hx hb hown (va_Nw.use rfl (hV.2.1 _ hw)) h1 h2 h3 h4 h5 rfl rfl hd k1
  · obtain ⟨hx11, hy, hsm⟩ := fl_obj hx20 hg
    have ha : a < n := by
      rcases hq.2 with h2 | h2
      · exact h2
      · have := SH_hi h2
        omega
    have hk : kOf v = FK x y := by
      rw [Bool.or_eq_true] at hi2
      rcases hi2 with h2 | h2
      · exact absurd (Nat.eq_of_beq_eq_true h2) hx20
      · exact Nat.eq_of_beq_eq_true h2
    obtain ⟨w, hs2, hw2⟩ := q_get_spec (ad := ad) hx20 hk hs
    obtain rfl := Option.some.inj hs2
    have k1 := hX ad ls H locs rfl hl hH hV hS hn0 hn1 had
    dsimp only at k1
    rw [List.map_cons, hw2] at k1
    rcases hw with hw | hw
    · rw [flW_0 hx20] at hw
      exact va_get hx hb hts (in_all hx11) hown hV.1.1 hH.1 a (obj_at ha hq.1 hx11) (vw_at hx11) y hy (hts _ hw) (fun z hz => by rw [hsm] at hz; exact hz) (fs_at hy) hd k1
    · rw [flW_1 hx20] at hw
      exact va_getN hx hb hts (in_all hx11) hown hV.1.1 hH.1 a (obj_at ha hq.1 hx11) (vw_at hx11) y hy (va_Nw.use rfl (hV.2.1 _ hw)) (fun z hz => by rw [hsm] at hz; exact hz) (fs_at hy) hd k1
def refT : FieldType → Bool
  | .object _ => true
  | .array _ => true
  | _ => false
theorem FK_all : (List.range 11).all (fun x => (List.range (vwX x).2.2).all (fun y => (!(Nat.beq (FK x y) 0) || decide (tyA x y = .int)) && (!(Nat.beq (FK x y) 1) || decide (tyA x y = .long)) && (!(Nat.beq (FK x y) 3) || decide (tyA x y = .boolean)) && (!(Nat.beq (FK x y) 2) || refT (tyA x y)) && decide (((vwX x).2.1 y).2.2.2 = FN x y))) = true := by decide +kernel
theorem FK_at {x y : Nat} (hx : x < 11) (hy : y < (vwX x).2.2) : (FK x y = 0 → tyA x y = .int) ∧ (FK x y = 1 → tyA x y = .long) ∧ (FK x y = 3 → tyA x y = .boolean) ∧ (FK x y = 2 → refT (tyA x y) = true) ∧ ((vwX x).2.1 y).2.2.2 = FN x y := by
  have h1 := List.all_eq_true.mp (List.all_eq_true.mp FK_all x (List.mem_range.mpr hx)) y (List.mem_range.mpr hy)
  simp only [Bool.and_eq_true, Bool.or_eq_true, Bool.not_eq_true', decide_eq_true_eq] at h1
  obtain ⟨⟨⟨⟨a1, a2⟩, a3⟩, a4⟩, a5⟩ := h1
  refine ⟨fun h => ?_, fun h => ?_, fun h => ?_, fun h => ?_, a5⟩
  · rcases a1 with q | q
    · rw [h] at q; cases q
    · exact q
  · rcases a2 with q | q
    · rw [h] at q; cases q
    · exact q
  · rcases a3 with q | q
    · rw [h] at q; cases q
    · exact q
  · rcases a4 with q | q
    · rw [h] at q; cases q
    · exact q
theorem ref_fits {ty : FieldType} (h : refT ty = true) (b : Nat) : narrow ty (.ref b) = .ref b ∧ fits ty (.ref b) = true := by
  cases ty <;> first | (simp [refT] at h; done) | exact ⟨rfl, rfl⟩
theorem nrv_wR {n : Nat} {h : AH} {a y b0 : Nat} (hv : 262 ≤ n ∨ q_ro n (.ref b0) = true) (hn : NRV n h) : NRV n (wR h a y (some b0)) := by
  refine ⟨hn.1, fun hlt a1 k1 b1 ha1 hb1 => ?_⟩
  have hb2 : up2 h.2.2 a y (some b0) a1 k1 = some b1 := hb1
  unfold up2 at hb2
  by_cases e1 : a1 = a
  · rw [if_pos e1] at hb2
    by_cases e2 : k1 = y
    · rw [if_pos e2] at hb2
      have e3 : b0 = b1 := Option.some.inj hb2
      subst e3
      rcases hv with hv | hv
      · omega
      · have h2 : (Nat.ble (b0 + 1) n || Nat.ble 1000 b0) = true := hv
        rw [Bool.or_eq_true] at h2
        rcases h2 with h2 | h2
        · exact Or.inl (Nat.le_of_ble_eq_true h2)
        · exact Or.inr (Nat.le_of_ble_eq_true h2)
    · rw [if_neg e2] at hb2
      exact hn.2 hlt a1 k1 b1 ha1 hb2
  · rw [if_neg e1] at hb2
    exact hn.2 hlt a1 k1 b1 ha1 hb2
/-- what a written field asks for, and what it leaves -/
def PutOK (ρ : AR) (G : AG) (ad : Nat → Nat) (n : Nat) (h h' : AH) (a x y : Nat) (w : Value) : Prop := narrow (tyA x y) (cv ad w) = cv ad w ∧ fits (tyA x y) (cv ad w) = true ∧ eF ρ ad h' a x y = cv ad w ∧ (∀ j, j ≠ y → eF ρ ad h' a x j = eF ρ ad h a x j) ∧ (∀ b, b ≠ a → ent ρ G ad h' b = ent ρ G ad h b) ∧ (a < 1000 → ∀ b, 1000 ≤ b → hI h' b = hI h b) ∧ (NRV n h → NRV n h')
theorem putI {ad : Nat → Nat} {n : Nat} {h : AH} {a x y : Nat} {z : Int32} (hf : FK x y = 0 ∨ FK x y = 3) (hn : narrow (tyA x y) (.int z) = .int z) (hfit : fits (tyA x y) (.int z) = true) : PutOK ρ G ad n h (wI h a y z) a x y (.int z) := by
  refine ⟨hn, hfit, ?_, fun j hj => ?_, fun b hb => ent_wI hb, fun ha b hb => up2_ne (by omega), fun hn => hn⟩
  · have hc : (Nat.beq (FK x y) 0 || Nat.beq (FK x y) 3) = true := by rcases hf with h1 | h1 <;> rw [h1] <;> rfl
    unfold eF
    rw [hc]
    show Value.int (up2 h.1 a y z a y) = _
    rw [up2_eq]
    dsimp only
    rw [if_pos rfl]
    rfl
  · unfold eF
    have e1 : hI (wI h a y z) a j = hI h a j := by
      show up2 h.1 a y z a j = _
      rw [up2_eq]
      exact if_neg hj
    rw [e1]
    rfl
theorem putJ {ad : Nat → Nat} {n : Nat} {h : AH} {a x y : Nat} {z : Int64} (hf : FK x y = 1) (ht : tyA x y = .long) : PutOK ρ G ad n h (wJ h a y z) a x y (.long z) := by
  refine ⟨by rw [ht]; rfl, by rw [ht]; rfl, ?_, fun j hj => ?_, fun b hb => ent_wJ hb, fun ha b hb => rfl, fun hn => hn⟩
  · unfold eF
    rw [hf]
    show Value.long (up2 h.2.1 a y z a y) = _
    rw [up2_eq]
    dsimp only
    rw [if_pos rfl]
    rfl
  · unfold eF
    have e1 : hJ (wJ h a y z) a j = hJ h a j := by
      show up2 h.2.1 a y z a j = _
      rw [up2_eq]
      exact if_neg hj
    rw [e1]
    rfl
theorem putR {ad : Nat → Nat} {n : Nat} {h : AH} {a x y b0 : Nat} (hv : 262 ≤ n ∨ q_ro n (.ref b0) = true) (hf : FK x y = 2) (ht : refT (tyA x y) = true) (hr : ρ.1 a y = none) : PutOK ρ G ad n h (wR h a y (some b0)) a x y (.ref b0) := by
  refine ⟨(ref_fits ht _).1, (ref_fits ht _).2, ?_, fun j hj => ?_, fun b hb => ent_wR hb, fun ha b hb => rfl, fun hn => nrv_wR hv hn⟩
  · unfold eF rfA
    rw [hf, hr]
    show va_rf ((up2 h.2.2 a y (some b0) a y).map ad) = _
    rw [up2_eq]
    dsimp only
    rw [if_pos rfl]
    rfl
  · unfold eF rfA
    have e1 : hR (wR h a y (some b0)) a j = hR h a j := by
      show up2 h.2.2 a y (some b0) a j = _
      rw [up2_eq]
      exact if_neg hj
    rw [e1]
    rfl
theorem q_set_spec {β : Type} {ad : Nat → Nat} {n : Nat} {h : AH} {a x y : Nat} {v w : Value} {k : AH → Option β} {r : β} (hx : x < 11) (hy : y < (vwX x).2.2) (hk : kOf v = FK x y) (hs : q_set ρ n h a y v w k = some r) : ∃ h', k h' = some r ∧ PutOK ρ G ad n h h' a x y w := by
  obtain ⟨f0, f1, f3, f2, -⟩ := FK_at hx hy
  unfold q_set at hs
  cases v with
  | int z =>
    cases w with
    | int u =>
      have hk0 : FK x y = 0 := hk.symm
      exact ⟨_, hs, putI (Or.inl hk0) (by rw [f0 hk0]; rfl) (by rw [f0 hk0]; rfl)⟩
    | _ => simp at hs
  | long z =>
    cases w with
    | long u => exact ⟨_, hs, putJ hk.symm (f1 hk.symm)⟩
    | _ => simp at hs
  | null =>
    dsimp only at hs
    cases hr : ρ.1 a y with
    | some b => rw [hr] at hs; cases hs
    | none =>
      rw [hr] at hs
      cases w with
      | ref u =>
        dsimp only at hs
        cases hv : Nat.ble 262 n || q_ro n (.ref u) with
        | false => rw [hv] at hs; cases hs
        | true =>
          rw [hv] at hs
          refine ⟨_, hs, putR ?_ hk.symm (f2 hk.symm) hr⟩
          rw [Bool.or_eq_true] at hv
          rcases hv with hv | hv
          · exact Or.inl (Nat.le_of_ble_eq_true hv)
          · exact Or.inr hv
      | _ => simp at hs
  | _ => simp at hs
theorem old_kept {H H1 : Heap} {locs locs1 : List Loc} (hG : G.1 ≤ s.heap.size) (hS : va_S (Ab G) s.heap H locs) (hS1 : va_S (Ab G) s.heap H1 locs1) : ∀ a : Nat, a < H.size → ¬ Ab G a → H1[a]? = H[a]? := by
  intro a _ hn
  have ha : a < s.heap.size := Nat.lt_of_lt_of_le (Nat.not_le.mp hn) hG
  rw [hS1.2.1 a ha hn, hS.2.1 a ha hn]
theorem fs_set {ad : Nat → Nat} {h h' : AH} {a x N y : Nat} {w : Value} (h1 : eF ρ ad h' a x y = w) (h2 : ∀ j, j ≠ y → eF ρ ad h' a x j = eF ρ ad h a x j) : ((List.range N).map (eF ρ ad h a x)).set y w = (List.range N).map (eF ρ ad h' a x) := by
  apply List.ext_getElem?
  intro j
  by_cases hN : j < N
  · by_cases hj : j = y
    · subst hj
      rw [List.getElem?_set_self (by rw [List.length_map, List.length_range]; exact hN), List.getElem?_map, List.getElem?_range hN, ← h1]
      rfl
    · rw [List.getElem?_set_ne (Ne.symm hj), List.getElem?_map, List.getElem?_map, List.getElem?_range hN]
      show some (eF ρ ad h a x j) = some (eF ρ ad h' a x j)
      rw [h2 j hj]
  · have e1 : (((List.range N).map (eF ρ ad h a x)).set y w)[j]? = none := by rw [List.getElem?_eq_none_iff, List.length_set, List.length_map, List.length_range]; omega
    have e2 : ((List.range N).map (eF ρ ad h' a x))[j]? = none := by rw [List.getElem?_eq_none_iff, List.length_map, List.length_range]; omega
    rw [e1, e2]
theorem ws_put {ad : Nat → Nat} {n : Nat} {h h' : AH} {a x y : Nat} {w : Value} (ha : a < n) (hs : (SH a).1 = x) (hx : x < 11) (P : PutOK ρ G ad n h h' a x y w) : (wsA ρ G ad n h).set a (ad a, .inr (x, ((List.range (vwX x).2.2).map (eF ρ ad h a x)).set y (cv ad w))) = wsA ρ G ad n h' := by
  rw [← wsA_set ha P.2.2.2.2.1, ent_obj (SH_obj hs (by omega)) (by omega), fs_set P.2.2.1 P.2.2.2.1]
theorem cn_vw {x : Nat} (h : x < 11) : cnX x = (vwX x).1 := by
  rcases (show x = 0 ∨ x = 1 ∨ x = 2 ∨ x = 3 ∨ x = 4 ∨ x = 5 ∨ x = 6 ∨ x = 7 ∨ x = 8 ∨ x = 9 ∨ x = 10 by omega) with rfl | rfl | rfl | rfl | rfl | rfl | rfl | rfl | rfl | rfl | rfl <;> rfl
theorem INITS_ok : INITS.all (fun μ => decide ((myX μ).name = "<init>")) = true := by decide +kernel
set_option maxHeartbeats 4000000 in
theorem sd_putH (F : FF p s m args meth c R μ cc ml rt own n0 n' gc gs) (hG : G.1 ≤ s.heap.size) {pc j x y : Nat} {v w : Value} {lv : AL} {st : List Value} {n : Nat} {h h' : AH} (hd : decode cc pc = .ok (.putfield j, lenI (.putfield j))) (hi : chkI μ own pc rt (.putfield j) (pc + lenI (.putfield j)) x y v = true)
    {ad : Nat → Nat} {ls : Array Slot} {H : Heap} {locs : List Loc} (hl : LV ls ml ad lv) (hH : HR ρ G ad n h H) (hV : VR G ad s H) (hS : va_S (Ab G) s.heap H locs) {a : Nat} (hq : (SH a).1 = x) (ha : a < n) (hx20 : ¬ x = 20) (P : PutOK ρ G ad n h h' a x y w)
    (hX : WA ρ G p l e R s m args below meth c Qw μ ml n0 n' gc gs ad0 (μ, pc + lenI (.putfield j), lv, st, n, h')) (hn0 : n0 ≤ n) (hn1 : n ≤ n') (had : ∀ i, i < n0 ∨ n' ≤ i → ad i = ad0 i) : W p l e R s m args below meth c H locs (gc + (n - n0)) (gs + (sl n - sl n0)) Qw (F0 m pc ls ((w :: Value.ref a :: st).map (cv ad))) := by
  obtain ⟨hx, hb, hml, hr, hlk, hown, hts, hck, hol, hnm, hfr, hlo, hRc, hRs⟩ := id F
  obtain ⟨hi0, hi3⟩ := (Bool.and_eq_true _ _).mp hi
  obtain ⟨hi1, hi2⟩ := (Bool.and_eq_true _ _).mp hi0
  obtain ⟨hg, hw⟩ := fl_link hi1
  obtain ⟨hx11, hy, hsm⟩ := fl_obj hx20 hg
  obtain ⟨-, -, -, -, hfn⟩ := FK_at hx11 hy
  have hlen : y < ((List.range (vwX x).2.2).map (eF ρ ad h a x)).length := by rw [List.length_map, List.length_range]; exact hy
  have kk : ∀ (H1 : Heap) (locs1 : List Loc), va_P G.2.1 vwCl ((wsA ρ G ad n h).set a (ad a, .inr (x, ((List.range (vwX x).2.2).map (eF ρ ad h a x)).set y (cv ad w)))) H1 → va_D (Ab G) ((wsA ρ G ad n h).set a (ad a, .inr (x, ((List.range (vwX x).2.2).map (eF ρ ad h a x)).set y (cv ad w)))) → va_S (Ab G) s.heap H1 locs1 → W p l e R s m args below meth c H1 locs1 (gc + (n - n0)) (gs + (sl n - sl n0)) Qw (F0 m (pc + 3) ls (st.map (cv ad))) := by
    intro H1 locs1 hP1 hD1 hS1
    rw [ws_put ha hq hx11 P] at hP1 hD1
    exact hX ad ls H1 locs1 rfl hl ⟨hP1, hD1, hH.2.2.1.of (P.2.2.2.2.2.1 (Nat.lt_of_lt_of_le ha hH.2.2.2.1)), P.2.2.2.2.2.2 hH.2.2.2⟩ (hV.kept (old_kept hG hS hS1)) hS1 hn0 hn1 had
  cases hf : FN x y with
  | true =>
    rw [hf] at hi3 hfn
    have hi4 : (Nat.beq own x && INITS.contains μ && FLx.contains (own, j, 0, x, y)) = true := hi3
    obtain ⟨hi5, hi6⟩ := (Bool.and_eq_true _ _).mp hi4
    obtain ⟨hi7, hi8⟩ := (Bool.and_eq_true _ _).mp hi5
    have hox := Nat.eq_of_beq_eq_true hi7
    obtain ⟨b2, hw2⟩ := all_zip (by decide +kernel) FL_ok _ (inL hi6)
    have hw3 := inAt_in ((Bool.and_eq_true _ _).mp hw2).1
    have hw4 : flW (own, j, 0, x, y) ∈ wAll := hw3
    rw [flW_0 hx20] at hw4
    have hin : meth.name = "<init>" := hnm.trans (of_decide_eq_true (List.all_eq_true.mp INITS_ok μ (inL hi8)))
    exact va_putF hx hb hts (in_all hx11) (tyA x) (ty_all hx11) (nm_all hx11) hown hV.1.1 hH.1 hH.2.1 hS a (obj_at ha hq hx11) (vw_at hx11) y hy (hts _ hw4) (fun z hz => by rw [hsm] at hz; exact hz) hfn hin (by rw [hsm, ← cn_vw hx11, hox]) (ty_all hx11 y hy) P.1 P.2.1 hlen hd kk
  | false =>
    rw [hf] at hfn
    rcases hw with hw | hw
    · rw [flW_0 hx20] at hw
      exact va_put hx hb hts (in_all hx11) (tyA x) (ty_all hx11) (nm_all hx11) hown hV.1.1 hH.1 hH.2.1 hS a (obj_at ha hq hx11) (vw_at hx11) y hy (hts _ hw) (fun z hz => by rw [hsm] at hz; exact hz) hfn (ty_all hx11 y hy) P.1 P.2.1 hlen hd kk
    · rw [flW_1 hx20] at hw
      exact va_putN hx hb hts (in_all hx11) (tyA x) (ty_all hx11) (nm_all hx11) hown hV.1.1 hH.1 hH.2.1 hS a (obj_at ha hq hx11) (vw_at hx11) y hy (va_Nw.use rfl (hV.2.1 _ hw)) (fun z hz => by rw [hsm] at hz; exact hz) hfn (ty_all hx11 y hy) P.1 P.2.1 hlen hd kk
theorem put_y {pc j x y : Nat} {v : Value} (hx20 : ¬ x = 20) (hi : chkI μ own pc rt (.putfield j) (pc + lenI (.putfield j)) x y v = true) : x < 11 ∧ y < (vwX x).2.2 ∧ kOf v = FK x y := by
  obtain ⟨hi0, hi3⟩ := (Bool.and_eq_true _ _).mp hi
  obtain ⟨hi1, hi2⟩ := (Bool.and_eq_true _ _).mp hi0
  obtain ⟨hg, hw⟩ := fl_link hi1
  obtain ⟨hx11, hy, hsm⟩ := fl_obj hx20 hg
  refine ⟨hx11, hy, ?_⟩
  rw [Bool.or_eq_true] at hi2
  rcases hi2 with h2 | h2
  · exact absurd (Nat.eq_of_beq_eq_true h2) hx20
  · exact Nat.eq_of_beq_eq_true h2
theorem sd_put (F : FF p s m args meth c R μ cc ml rt own n0 n' gc gs) (hG : G.1 ≤ s.heap.size) {pc j x y : Nat} {v w : Value} {lv : AL} {st : List Value} {n : Nat} {h : AH} (hd : decode cc pc = .ok (.putfield j, lenI (.putfield j))) (hi : chkI μ own pc rt (.putfield j) (pc + lenI (.putfield j)) x y v = true)
    {ad : Nat → Nat} {ls : Array Slot} {H : Heap} {locs : List Loc} (hl : LV ls ml ad lv) (hH : HR ρ G ad n h H) (hV : VR G ad s H) (hS : va_S (Ab G) s.heap H locs) {a : Nat} (hq : (SH a).1 = x) (ha : a < n) (hx20 : ¬ x = 20) {τ' : AS} (hs : q_set ρ n h a y v w (fun h => some (μ, pc + lenI (.putfield j), lv, st, n, h)) = some τ')
    (hX : WA ρ G p l e R s m args below meth c Qw μ ml n0 n' gc gs ad0 τ') (hn0 : n0 ≤ n) (hn1 : n ≤ n') (had : ∀ i, i < n0 ∨ n' ≤ i → ad i = ad0 i) : W p l e R s m args below meth c H locs (gc + (n - n0)) (gs + (sl n - sl n0)) Qw (F0 m pc ls ((w :: Value.ref a :: st).map (cv ad))) := by
  obtain ⟨hx11, hy, hk⟩ := put_y hx20 hi
  obtain ⟨h', hs2, P⟩ := q_set_spec (G := G) (ad := ad) hx11 hy hk hs
  obtain rfl := Option.some.inj hs2
  exact sd_putH F hG hd hi hl hH hV hS hq ha hx20 P hX hn0 hn1 had
theorem sd_gs (F : FF p s m args meth c R μ cc ml rt own n0 n' gc gs) {pc j x y : Nat} {v : Value} {st : List Value} (hd : decode cc pc = .ok (.getstatic j, lenI (.getstatic j))) (hi : chkI μ own pc rt (.getstatic j) (pc + lenI (.getstatic j)) x y v = true)
    {ad : Nat → Nat} {ls : Array Slot} {H : Heap} {locs : List Loc} {cells slots : Nat} (hV : VR G ad s H) (k1 : W p l e R s m args below meth c H locs cells slots Qw (F0 m (pc + lenI (.getstatic j)) ls ((Value.ref x :: st).map (cv ad)))) : W p l e R s m args below meth c H locs cells slots Qw (F0 m pc ls (st.map (cv ad))) := by
  obtain ⟨hx, hb, hml, hr, hlk, hown, hts, hck, hol, hnm, hfr, hlo, hRc, hRs⟩ := id F
  have hi' : (SLx.contains (own, j, 0, x) || SLx.contains (own, j, 1, x)) = true := hi
  have key : ((1000 ≤ x ∧ x < 1038) ∨ (1100 ≤ x ∧ x ≤ 1102)) ∧ (slW (own, j, 0, x) ∈ wAll ∨ slW (own, j, 1, x) ∈ wNest) := by
    rw [Bool.or_eq_true] at hi'
    rcases hi' with h | h
    · obtain ⟨b, hw⟩ := all_zip (by decide +kernel) SL_ok _ (inL h)
      obtain ⟨h1, h2⟩ := (Bool.and_eq_true _ _).mp hw
      refine ⟨?_, Or.inl (inAt_in h1)⟩
      simp only [Bool.or_eq_true, Bool.and_eq_true] at h2
      rcases h2 with ⟨q1, q2⟩ | ⟨q1, q2⟩
      · have := Nat.le_of_ble_eq_true q1
        have := Nat.le_of_ble_eq_true q2
        omega
      · have := Nat.le_of_ble_eq_true q1
        have := Nat.le_of_ble_eq_true q2
        omega
    · obtain ⟨b, hw⟩ := all_zip (by decide +kernel) SL_ok _ (inL h)
      obtain ⟨h1, h2⟩ := (Bool.and_eq_true _ _).mp hw
      obtain ⟨h3, h4⟩ := (Bool.and_eq_true _ _).mp h1
      refine ⟨?_, Or.inr (nsAt_in h3 h4)⟩
      simp only [Bool.or_eq_true, Bool.and_eq_true] at h2
      rcases h2 with ⟨q1, q2⟩ | ⟨q1, q2⟩
      · have := Nat.le_of_ble_eq_true q1
        have := Nat.le_of_ble_eq_true q2
        omega
      · have := Nat.le_of_ble_eq_true q1
        have := Nat.le_of_ble_eq_true q2
        omega
  obtain ⟨cf, kf, fi, f, a, cell, h1, h2, h3, h4, h5, h6, h7, h8⟩ := hV.2.2.2.2.1 x key.1
  rcases key.2 with hw | hw
  · exact W.gets hx hb hown (hts _ hw) h1 h2 h3 h4 h5 (fun q => by rw [q] at h6; cases h6) h7 rfl hd k1
  · exact va_WgetsN hx hb hown (va_Nw.use rfl (hV.2.1 _ hw)) h1 h2 h3 h4 h5 (fun q => by rw [q] at h6; cases h6) h7 rfl hd k1
theorem MLk_lt : MLk.all (fun q => Nat.ble (q.2.2.2 + 1) 990) = true := by decide +kernel
theorem ol_link {own j x : Nat} (hx : 990 ≤ x) (h7 : ¬ x = 997) {a b : Nat} (h : (Nat.beq x 997 || OLx.contains (own, j, x) || MLk.contains (own, j, a, x) || MLk.contains (own, j, b, x)) = true) : Cond.methodLink (cnX own) j (bif Nat.beq x 999 then Lib.objectInit else bif Nat.beq x 996 then Lib.Math.max.name else bif Nat.beq x 995 then Lib.Math.min.name else arraycopyName) ∈ wAll := by
  have no : ∀ a, MLk.contains (own, j, a, x) = true → False := by
    intro a ha
    have := Nat.le_of_ble_eq_true (List.all_eq_true.mp MLk_lt _ (inL ha))
    dsimp only at this
    omega
  simp only [Bool.or_eq_true] at h
  rcases h with ((h | h) | h) | h
  · exact absurd (Nat.eq_of_beq_eq_true h) h7
  · obtain ⟨b, hw⟩ := all_zip (by decide +kernel) OL_ok _ (inL h)
    exact inAt_in hw
  · exact (no _ h).elim
  · exact (no _ h).elim
theorem oi_inst : Cond.instanceMethod Lib.objectInit ∈ wAll := wT1 (i := 30) rfl rfl
theorem oi_code : Cond.code Lib.objectInit ⟨#[0xb1]⟩ 1 none ∈ wAll := wT1 (i := 31) rfl rfl
theorem mx_stat : Cond.static Lib.Math.max.name ∈ wAll := wT4 (i := 37) rfl rfl
theorem mx_code : Cond.code Lib.Math.max.name Lib.Math.max.code 2 (some .int) ∈ wAll := wT4 (i := 38) rfl rfl
theorem mn_stat : Cond.static Lib.Math.min.name ∈ wAll := wT4 (i := 4) rfl rfl
theorem mn_code : Cond.code Lib.Math.min.name Lib.Math.min.code 2 (some .int) ∈ wAll := wT4 (i := 5) rfl rfl
theorem mt_ini : Cond.initialized "java/lang/Math" ∈ wAll := wT1 (i := 17) rfl rfl
theorem sl_mono {a b : Nat} (h : a ≤ b) : sl a ≤ sl b := by
  obtain ⟨k, rfl⟩ := Nat.le.dest h
  induction k with
  | zero => exact Nat.le_refl _
  | succ k ih => exact Nat.le_trans (ih (Nat.le_add_right a k)) (Nat.le_add_right _ _)
theorem sd_math (F : FF p s m args meth c R μ cc ml rt own n0 n' gc gs) {pc j x y : Nat} {v : Value} {a b : Int32} {lv : AL} {st : List Value} {n : Nat} {h : AH} (hd : decode cc pc = .ok (.invokestatic j, lenI (.invokestatic j))) (hi : chkI μ own pc rt (.invokestatic j) (pc + lenI (.invokestatic j)) x y v = true)
    {ad : Nat → Nat} {ls : Array Slot} {H : Heap} {locs : List Loc} (hl : LV ls ml ad lv) (hH : HR ρ G ad n h H) (hV : VR G ad s H) (hS : va_S (Ab G) s.heap H locs) {τ' : AS} (hs : (bif Nat.beq x 996 && Nat.ble (q_cat st) 8 then some (μ, pc + lenI (.invokestatic j), lv, .int (if a < b then b else a) :: st, n, h) else bif Nat.beq x 995 && Nat.ble (q_cat st) 8 then some (μ, pc + lenI (.invokestatic j), lv, .int (if b < a then b else a) :: st, n, h) else none) = some τ')
    (hX : WA ρ G p l e R s m args below meth c Qw μ ml n0 n' gc gs ad0 τ') (hn0 : n0 ≤ n) (hn1 : n ≤ n') (had : ∀ i, i < n0 ∨ n' ≤ i → ad i = ad0 i) : W p l e R s m args below meth c H locs (gc + (n - n0)) (gs + (sl n - sl n0)) Qw (F0 m pc ls ((Value.int b :: Value.int a :: st).map (cv ad))) := by
  obtain ⟨hx, hb, hml, hr, hlk, hown, hts, hck, hol, hnm, hfr, hlo, hRc, hRs⟩ := id F
  have hcells : gc + (n - n0) ≤ R.cells := by omega
  have hslots : gs + (sl n - sl n0) ≤ R.slots := by have := sl_mono hn1; omega
  have hmls : c.maxLocals = ls.size := hml.trans hl.1.symm
  cases h1 : Nat.beq x 996 && Nat.ble (q_cat st) 8 with
  | true =>
    rw [h1] at hs
    obtain ⟨h2, h3⟩ := (Bool.and_eq_true _ _).mp h1
    have hx6 := Nat.eq_of_beq_eq_true h2
    subst hx6
    obtain rfl := Option.some.inj hs
    exact va_mmax hx hb hmls hown (hts _ (ol_link (x := 996) (by decide) (by decide) hi)) (hts _ mx_stat) (hts _ mt_ini) (hts _ mx_code) hfr (by rw [q_cat_sum]; have := Nat.le_of_ble_eq_true h3; omega) hcells hslots hd (hX ad ls H locs rfl hl hH hV hS hn0 hn1 had)
  | false =>
    rw [h1] at hs
    dsimp only [cond_false] at hs
    cases h4 : Nat.beq x 995 && Nat.ble (q_cat st) 8 with
    | true =>
      rw [h4] at hs
      obtain ⟨h2, h3⟩ := (Bool.and_eq_true _ _).mp h4
      have hx6 := Nat.eq_of_beq_eq_true h2
      subst hx6
      obtain rfl := Option.some.inj hs
      exact va_mmin hx hb hmls hown (hts _ (ol_link (x := 995) (by decide) (by decide) hi)) (hts _ mn_stat) (hts _ mt_ini) (hts _ mn_code) hfr (by rw [q_cat_sum]; have := Nat.le_of_ble_eq_true h3; omega) hcells hslots hd (hX ad ls H locs rfl hl hH hV hS hn0 hn1 had)
    | false => rw [h4] at hs; cases hs
theorem sd_oi (F : FF p s m args meth c R μ cc ml rt own n0 n' gc gs) {pc j y : Nat} {v : Value} {a : Nat} {lv : AL} {st : List Value} (hd : decode cc pc = .ok (.invokespecial j, lenI (.invokespecial j))) (hi : chkI μ own pc rt (.invokespecial j) (pc + lenI (.invokespecial j)) 999 y v = true) (hc : q_cat st ≤ 8)
    {ad : Nat → Nat} {ls : Array Slot} {H : Heap} {locs : List Loc} {cells slots : Nat} (hl : LV ls ml ad lv) (k1 : W p l e R s m args below meth c H locs cells slots Qw (F0 m (pc + lenI (.invokespecial j)) ls (st.map (cv ad)))) : W p l e R s m args below meth c H locs cells slots Qw (F0 m pc ls ((Value.ref a :: st).map (cv ad))) := by
  obtain ⟨hx, hb, hml, hr, hlk, hown, hts, hck, hol, hnm, hfr, hlo, hRc, hRs⟩ := id F
  exact W.objInit hx hb hown (hts _ (ol_link (x := 999) (by decide) (by decide) hi)) (hts _ oi_inst) (hts _ oi_code) rfl (by rw [hml]; exact hl.1) rfl hd hfr (by show 2 * 0 + _ + 12 ≤ _; rw [q_cat_sum]; omega) k1

set_option maxHeartbeats 4000000 in
set_option maxRecDepth 100000 in
theorem sd_s1 (F : FF p s m args meth c R μ cc ml rt own n0 n' gc gs) (hG : G.1 ≤ s.heap.size) {τ τ' : AS} (hs : s1 ρ τ = some τ') (hX : WA ρ G p l e R s m args below meth c Qw μ ml n0 n' gc gs ad0 τ') : WA ρ G p l e R s m args below meth c Qw μ ml n0 n' gc gs ad0 τ := by
  obtain ⟨μ1, pc, lv, st, n, h⟩ := τ
  intro ad ls H locs hμ hl hH hV hS hn0 hn1 had
  dsimp only at hμ hl hH hn0 hn1 ⊢
  subst hμ
  obtain ⟨hx, hb, hml, hr, hlk, hown, hts, hck, hol, hnm, hfr, hlo, hRc, hRs⟩ := id F
  unfold s1 at hs
  dsimp only at hs
  cases hK : KT μ1 pc with
  | none => rw [hK] at hs; cases hs
  | some q =>
    obtain ⟨i, nx, x, y, v⟩ := q
    rw [hK] at hs
    dsimp only at hs
    obtain ⟨hnx, hd0, hi⟩ := chk_at (hck pc) hK
    cases i with
    | iconst k =>
      obtain ⟨rfl, hd⟩ := hnx rfl
      obtain rfl := Option.some.inj hs
      have hv := of_decide_eq_true hi
      subst hv
      exact lv_iconst hx hb hd rfl (hX ad ls H locs rfl hl hH hV hS hn0 hn1 had)
    | bipush k =>
      obtain ⟨rfl, hd⟩ := hnx rfl
      obtain rfl := Option.some.inj hs
      have hv := of_decide_eq_true hi
      subst hv
      exact lv_bipush hx hb hd rfl (hX ad ls H locs rfl hl hH hV hS hn0 hn1 had)
    | sipush k =>
      obtain ⟨rfl, hd⟩ := hnx rfl
      obtain rfl := Option.some.inj hs
      have hv := of_decide_eq_true hi
      subst hv
      exact lv_sipush hx hb hd rfl (hX ad ls H locs rfl hl hH hV hS hn0 hn1 had)
    | lconst k =>
      obtain ⟨rfl, hd⟩ := hnx rfl
      obtain rfl := Option.some.inj hs
      have hv := of_decide_eq_true hi
      subst hv
      exact lv_lconst hx hb hd rfl (hX ad ls H locs rfl hl hH hV hS hn0 hn1 had)
    | ldc j =>
      obtain ⟨rfl, hd⟩ := hnx rfl
      cases v with
      | int z =>
        obtain rfl := Option.some.inj hs
        obtain ⟨b, hb2⟩ := all_zip (by decide +kernel) KL_ok _ (inL hi)
        exact lv_ldc hx hb hown (hts _ (inAt_in hb2)) hd (hX ad ls H locs rfl hl hH hV hS hn0 hn1 had)
      | _ => simp [s1i] at hs
    | ldc_w j =>
      obtain ⟨rfl, hd⟩ := hnx rfl
      cases v with
      | int z =>
        obtain rfl := Option.some.inj hs
        obtain ⟨b, hb2⟩ := all_zip (by decide +kernel) KL_ok _ (inL hi)
        exact lv_ldcw hx hb hown (hts _ (inAt_in hb2)) hd (hX ad ls H locs rfl hl hH hV hS hn0 hn1 had)
      | _ => simp [s1i] at hs
    | ldc2_w j =>
      obtain ⟨rfl, hd⟩ := hnx rfl
      cases v with
      | long z =>
        obtain rfl := Option.some.inj hs
        obtain ⟨b, hb2⟩ := all_zip (by decide +kernel) JL_ok _ (inL hi)
        exact lv_ldc2 hx hb hown (hts _ (inAt_in hb2)) hd (hX ad ls H locs rfl hl hH hV hS hn0 hn1 had)
      | _ => simp [chkI] at hi
    | iload j =>
      obtain ⟨rfl, hd⟩ := hnx rfl
      have hj := Nat.eq_of_beq_eq_true hi
      obtain ⟨w, hw, hs⟩ := q_lget_some (show q_lget lv x _ = some _ from hs)
      cases w with
      | int z =>
        obtain rfl := Option.some.inj hs
        subst hj
        exact lv_iload hx hb hd (hl.2.2.2 _ _ hw) (hX ad ls H locs rfl hl hH hV hS hn0 hn1 had)
      | _ => simp at hs
    | iload_n j =>
      obtain ⟨rfl, hd⟩ := hnx rfl
      have hj := Nat.eq_of_beq_eq_true hi
      obtain ⟨w, hw, hs⟩ := q_lget_some (show q_lget lv x _ = some _ from hs)
      cases w with
      | int z =>
        obtain rfl := Option.some.inj hs
        exact lv_iload_n hx hb hd hj.symm (hl.2.2.2 _ _ hw) (hX ad ls H locs rfl hl hH hV hS hn0 hn1 had)
      | _ => simp at hs
    | lload j =>
      obtain ⟨rfl, hd⟩ := hnx rfl
      have hj := Nat.eq_of_beq_eq_true hi
      obtain ⟨w, hw, hs⟩ := q_lget_some (show q_lget lv x _ = some _ from hs)
      cases w with
      | long z =>
        obtain rfl := Option.some.inj hs
        subst hj
        exact lv_lload hx hb hd (hl.2.2.2 _ _ hw) (hX ad ls H locs rfl hl hH hV hS hn0 hn1 had)
      | _ => simp at hs
    | lload_n j =>
      obtain ⟨rfl, hd⟩ := hnx rfl
      have hj := Nat.eq_of_beq_eq_true hi
      obtain ⟨w, hw, hs⟩ := q_lget_some (show q_lget lv x _ = some _ from hs)
      cases w with
      | long z =>
        obtain rfl := Option.some.inj hs
        exact lv_lload_n hx hb hd hj.symm (hl.2.2.2 _ _ hw) (hX ad ls H locs rfl hl hH hV hS hn0 hn1 had)
      | _ => simp at hs
    | aload j =>
      obtain ⟨rfl, hd⟩ := hnx rfl
      have hj := Nat.eq_of_beq_eq_true hi
      obtain ⟨w, hw, hs⟩ := q_lget_some (show q_lget lv x _ = some _ from hs)
      cases w with
      | ref z =>
        obtain rfl := Option.some.inj hs
        subst hj
        exact lv_aload hx hb hd (hl.2.2.2 _ _ hw) (hX ad ls H locs rfl hl hH hV hS hn0 hn1 had)
      | _ => simp at hs
    | aload_n j =>
      obtain ⟨rfl, hd⟩ := hnx rfl
      have hj := Nat.eq_of_beq_eq_true hi
      obtain ⟨w, hw, hs⟩ := q_lget_some (show q_lget lv x _ = some _ from hs)
      cases w with
      | ref z =>
        obtain rfl := Option.some.inj hs
        exact lv_aload_n hx hb hd hj.symm (hl.2.2.2 _ _ hw) (hX ad ls H locs rfl hl hH hV hS hn0 hn1 had)
      | _ => simp at hs
    | istore j =>
      obtain ⟨rfl, hd⟩ := hnx rfl
      have hj := Nat.eq_of_beq_eq_true hi
      rcases st with _ | ⟨w, st⟩
      · simp [s1i] at hs
      cases w with
      | int z =>
        subst hj
        obtain ⟨lv2, hs, hk⟩ := q_put1_some (show q_put1 lv _ _ _ = some _ from hs)
        obtain rfl := Option.some.inj hs
        exact lv_istore hx hb hd hl.has (Nat.lt_of_lt_of_eq hk.2.1 hl.2.2.1) rfl (fun ls2 h2 => hX ad ls2 H locs rfl (hl.put1 hk h2) hH hV hS hn0 hn1 had)
      | _ => simp [s1i] at hs
    | istore_n j =>
      obtain ⟨rfl, hd⟩ := hnx rfl
      have hj := Nat.eq_of_beq_eq_true hi
      rcases st with _ | ⟨w, st⟩
      · simp [s1i] at hs
      cases w with
      | int z =>
        obtain ⟨lv2, hs, hk⟩ := q_put1_some (show q_put1 lv _ _ _ = some _ from hs)
        obtain rfl := Option.some.inj hs
        exact lv_istore_n hx hb hd hj.symm hl.has (Nat.lt_of_lt_of_eq hk.2.1 hl.2.2.1) rfl (fun ls2 h2 => hX ad ls2 H locs rfl (hl.put1 hk h2) hH hV hS hn0 hn1 had)
      | _ => simp [s1i] at hs
    | astore j =>
      obtain ⟨rfl, hd⟩ := hnx rfl
      have hj := Nat.eq_of_beq_eq_true hi
      rcases st with _ | ⟨w, st⟩
      · simp [s1i] at hs
      cases w with
      | ref z =>
        subst hj
        obtain ⟨lv2, hs, hk⟩ := q_put1_some (show q_put1 lv _ _ _ = some _ from hs)
        obtain rfl := Option.some.inj hs
        exact lv_astore hx hb hd hl.has (Nat.lt_of_lt_of_eq hk.2.1 hl.2.2.1) rfl (fun ls2 h2 => hX ad ls2 H locs rfl (hl.put1 hk h2) hH hV hS hn0 hn1 had)
      | _ => simp [s1i] at hs
    | astore_n j =>
      obtain ⟨rfl, hd⟩ := hnx rfl
      have hj := Nat.eq_of_beq_eq_true hi
      rcases st with _ | ⟨w, st⟩
      · simp [s1i] at hs
      cases w with
      | ref z =>
        obtain ⟨lv2, hs, hk⟩ := q_put1_some (show q_put1 lv _ _ _ = some _ from hs)
        obtain rfl := Option.some.inj hs
        exact lv_astore_n hx hb hd hj.symm hl.has (Nat.lt_of_lt_of_eq hk.2.1 hl.2.2.1) rfl (fun ls2 h2 => hX ad ls2 H locs rfl (hl.put1 hk h2) hH hV hS hn0 hn1 had)
      | _ => simp [s1i] at hs
    | lstore j =>
      obtain ⟨rfl, hd⟩ := hnx rfl
      have hj := Nat.eq_of_beq_eq_true hi
      rcases st with _ | ⟨w, st⟩
      · simp [s1i] at hs
      cases w with
      | long z =>
        subst hj
        obtain ⟨lv2, hs, hk⟩ := q_put2_some (show q_put2 lv _ _ _ = some _ from hs)
        obtain rfl := Option.some.inj hs
        exact lv_lstore hx hb hd hl.has (Nat.lt_of_lt_of_eq hk.2.1 hl.2.2.1) rfl (fun ls2 h2 => hX ad ls2 H locs rfl (hl.put2 hk h2) hH hV hS hn0 hn1 had)
      | _ => simp [s1i] at hs
    | lstore_n j =>
      obtain ⟨rfl, hd⟩ := hnx rfl
      have hj := Nat.eq_of_beq_eq_true hi
      rcases st with _ | ⟨w, st⟩
      · simp [s1i] at hs
      cases w with
      | long z =>
        obtain ⟨lv2, hs, hk⟩ := q_put2_some (show q_put2 lv _ _ _ = some _ from hs)
        obtain rfl := Option.some.inj hs
        exact lv_lstore_n hx hb hd hj.symm hl.has (Nat.lt_of_lt_of_eq hk.2.1 hl.2.2.1) rfl (fun ls2 h2 => hX ad ls2 H locs rfl (hl.put2 hk h2) hH hV hS hn0 hn1 had)
      | _ => simp [s1i] at hs
    | iinc j k =>
      obtain ⟨rfl, hd⟩ := hnx rfl
      obtain ⟨hi1, hi2⟩ := (Bool.and_eq_true _ _).mp hi
      have hj := Nat.eq_of_beq_eq_true hi1
      have hv := of_decide_eq_true hi2
      subst hv
      subst hj
      obtain ⟨w, hw, hs⟩ := q_lget_some (show q_lget lv x _ = some _ from hs)
      cases w with
      | int z =>
        obtain ⟨lv2, hs, hk⟩ := q_put1_some (show q_put1 lv _ _ _ = some _ from hs)
        obtain rfl := Option.some.inj hs
        have hm : (x, Value.int z) ∈ lvA ad 0 lv := (lvA_mem lv 0 _).mpr ⟨x, .int z, hw, by rw [Nat.zero_add]; rfl⟩
        obtain ⟨k1, hk1⟩ := List.getElem?_of_mem hm
        exact lv_iinc hx hb hd hl.has hk1 rfl (Nat.lt_of_lt_of_eq hk.2.1 hl.2.2.1) rfl (fun ls2 h2 => hX ad ls2 H locs rfl (hl.put1 hk h2) hH hV hS hn0 hn1 had)
      | _ => simp at hs
    | iadd =>
      obtain ⟨rfl, hd⟩ := hnx rfl
      rcases st with _ | ⟨w1, st⟩
      · simp [s1i] at hs
      cases w1 with
      | int b =>
        rcases st with _ | ⟨w2, st⟩
        · simp [s1i] at hs
        cases w2 with
        | int a =>
          obtain rfl := Option.some.inj hs
          exact lv_iadd hx hb hd (hX ad ls H locs rfl hl hH hV hS hn0 hn1 had)
        | _ => simp [s1i] at hs
      | _ => simp [s1i] at hs
    | isub =>
      obtain ⟨rfl, hd⟩ := hnx rfl
      rcases st with _ | ⟨w1, st⟩
      · simp [s1i] at hs
      cases w1 with
      | int b =>
        rcases st with _ | ⟨w2, st⟩
        · simp [s1i] at hs
        cases w2 with
        | int a =>
          obtain rfl := Option.some.inj hs
          exact lv_isub hx hb hd (hX ad ls H locs rfl hl hH hV hS hn0 hn1 had)
        | _ => simp [s1i] at hs
      | _ => simp [s1i] at hs
    | imul =>
      obtain ⟨rfl, hd⟩ := hnx rfl
      rcases st with _ | ⟨w1, st⟩
      · simp [s1i] at hs
      cases w1 with
      | int b =>
        rcases st with _ | ⟨w2, st⟩
        · simp [s1i] at hs
        cases w2 with
        | int a =>
          obtain rfl := Option.some.inj hs
          exact lv_imul hx hb hd (hX ad ls H locs rfl hl hH hV hS hn0 hn1 had)
        | _ => simp [s1i] at hs
      | _ => simp [s1i] at hs
    | iand =>
      obtain ⟨rfl, hd⟩ := hnx rfl
      rcases st with _ | ⟨w1, st⟩
      · simp [s1i] at hs
      cases w1 with
      | int b =>
        rcases st with _ | ⟨w2, st⟩
        · simp [s1i] at hs
        cases w2 with
        | int a =>
          obtain rfl := Option.some.inj hs
          exact lv_iand hx hb hd (hX ad ls H locs rfl hl hH hV hS hn0 hn1 had)
        | _ => simp [s1i] at hs
      | _ => simp [s1i] at hs
    | ior =>
      obtain ⟨rfl, hd⟩ := hnx rfl
      rcases st with _ | ⟨w1, st⟩
      · simp [s1i] at hs
      cases w1 with
      | int b =>
        rcases st with _ | ⟨w2, st⟩
        · simp [s1i] at hs
        cases w2 with
        | int a =>
          obtain rfl := Option.some.inj hs
          exact lv_ior hx hb hd (hX ad ls H locs rfl hl hH hV hS hn0 hn1 had)
        | _ => simp [s1i] at hs
      | _ => simp [s1i] at hs
    | ixor =>
      obtain ⟨rfl, hd⟩ := hnx rfl
      rcases st with _ | ⟨w1, st⟩
      · simp [s1i] at hs
      cases w1 with
      | int b =>
        rcases st with _ | ⟨w2, st⟩
        · simp [s1i] at hs
        cases w2 with
        | int a =>
          obtain rfl := Option.some.inj hs
          exact lv_ixor hx hb hd (hX ad ls H locs rfl hl hH hV hS hn0 hn1 had)
        | _ => simp [s1i] at hs
      | _ => simp [s1i] at hs
    | ishl =>
      obtain ⟨rfl, hd⟩ := hnx rfl
      rcases st with _ | ⟨w1, st⟩
      · simp [s1i] at hs
      cases w1 with
      | int b =>
        rcases st with _ | ⟨w2, st⟩
        · simp [s1i] at hs
        cases w2 with
        | int a =>
          obtain rfl := Option.some.inj hs
          exact lv_ishl hx hb hd (hX ad ls H locs rfl hl hH hV hS hn0 hn1 had)
        | _ => simp [s1i] at hs
      | _ => simp [s1i] at hs
    | ishr =>
      obtain ⟨rfl, hd⟩ := hnx rfl
      rcases st with _ | ⟨w1, st⟩
      · simp [s1i] at hs
      cases w1 with
      | int b =>
        rcases st with _ | ⟨w2, st⟩
        · simp [s1i] at hs
        cases w2 with
        | int a =>
          obtain rfl := Option.some.inj hs
          exact lv_ishr hx hb hd (hX ad ls H locs rfl hl hH hV hS hn0 hn1 had)
        | _ => simp [s1i] at hs
      | _ => simp [s1i] at hs
    | iushr =>
      obtain ⟨rfl, hd⟩ := hnx rfl
      rcases st with _ | ⟨w1, st⟩
      · simp [s1i] at hs
      cases w1 with
      | int b =>
        rcases st with _ | ⟨w2, st⟩
        · simp [s1i] at hs
        cases w2 with
        | int a =>
          obtain rfl := Option.some.inj hs
          exact lv_iushr hx hb hd rfl (hX ad ls H locs rfl hl hH hV hS hn0 hn1 had)
        | _ => simp [s1i] at hs
      | _ => simp [s1i] at hs
    | ladd =>
      obtain ⟨rfl, hd⟩ := hnx rfl
      rcases st with _ | ⟨w1, st⟩
      · simp [s1i] at hs
      cases w1 with
      | long b =>
        rcases st with _ | ⟨w2, st⟩
        · simp [s1i] at hs
        cases w2 with
        | long a =>
          obtain rfl := Option.some.inj hs
          exact lv_ladd hx hb hd (hX ad ls H locs rfl hl hH hV hS hn0 hn1 had)
        | _ => simp [s1i] at hs
      | _ => simp [s1i] at hs
    | lsub =>
      obtain ⟨rfl, hd⟩ := hnx rfl
      rcases st with _ | ⟨w1, st⟩
      · simp [s1i] at hs
      cases w1 with
      | long b =>
        rcases st with _ | ⟨w2, st⟩
        · simp [s1i] at hs
        cases w2 with
        | long a =>
          obtain rfl := Option.some.inj hs
          exact lv_lsub hx hb hd (hX ad ls H locs rfl hl hH hV hS hn0 hn1 had)
        | _ => simp [s1i] at hs
      | _ => simp [s1i] at hs
    | lmul =>
      obtain ⟨rfl, hd⟩ := hnx rfl
      rcases st with _ | ⟨w1, st⟩
      · simp [s1i] at hs
      cases w1 with
      | long b =>
        rcases st with _ | ⟨w2, st⟩
        · simp [s1i] at hs
        cases w2 with
        | long a =>
          obtain rfl := Option.some.inj hs
          exact lv_lmul hx hb hd (hX ad ls H locs rfl hl hH hV hS hn0 hn1 had)
        | _ => simp [s1i] at hs
      | _ => simp [s1i] at hs
    | land =>
      obtain ⟨rfl, hd⟩ := hnx rfl
      rcases st with _ | ⟨w1, st⟩
      · simp [s1i] at hs
      cases w1 with
      | long b =>
        rcases st with _ | ⟨w2, st⟩
        · simp [s1i] at hs
        cases w2 with
        | long a =>
          obtain rfl := Option.some.inj hs
          exact lv_land hx hb hd (hX ad ls H locs rfl hl hH hV hS hn0 hn1 had)
        | _ => simp [s1i] at hs
      | _ => simp [s1i] at hs
    | lor =>
      obtain ⟨rfl, hd⟩ := hnx rfl
      rcases st with _ | ⟨w1, st⟩
      · simp [s1i] at hs
      cases w1 with
      | long b =>
        rcases st with _ | ⟨w2, st⟩
        · simp [s1i] at hs
        cases w2 with
        | long a =>
          obtain rfl := Option.some.inj hs
          exact lv_lor hx hb hd (hX ad ls H locs rfl hl hH hV hS hn0 hn1 had)
        | _ => simp [s1i] at hs
      | _ => simp [s1i] at hs
    | lshl =>
      obtain ⟨rfl, hd⟩ := hnx rfl
      rcases st with _ | ⟨w1, st⟩
      · simp [s1i] at hs
      cases w1 with
      | int b =>
        rcases st with _ | ⟨w2, st⟩
        · simp [s1i] at hs
        cases w2 with
        | long a =>
          obtain rfl := Option.some.inj hs
          exact lv_lshl hx hb hd rfl (hX ad ls H locs rfl hl hH hV hS hn0 hn1 had)
        | _ => simp [s1i] at hs
      | _ => simp [s1i] at hs
    | lshr =>
      obtain ⟨rfl, hd⟩ := hnx rfl
      rcases st with _ | ⟨w1, st⟩
      · simp [s1i] at hs
      cases w1 with
      | int b =>
        rcases st with _ | ⟨w2, st⟩
        · simp [s1i] at hs
        cases w2 with
        | long a =>
          obtain rfl := Option.some.inj hs
          exact lv_lshr hx hb hd rfl (hX ad ls H locs rfl hl hH hV hS hn0 hn1 had)
        | _ => simp [s1i] at hs
      | _ => simp [s1i] at hs
    | lushr =>
      obtain ⟨rfl, hd⟩ := hnx rfl
      rcases st with _ | ⟨w1, st⟩
      · simp [s1i] at hs
      cases w1 with
      | int b =>
        rcases st with _ | ⟨w2, st⟩
        · simp [s1i] at hs
        cases w2 with
        | long a =>
          obtain rfl := Option.some.inj hs
          exact lv_lushr hx hb hd rfl (hX ad ls H locs rfl hl hH hV hS hn0 hn1 had)
        | _ => simp [s1i] at hs
      | _ => simp [s1i] at hs
    | lcmp =>
      obtain ⟨rfl, hd⟩ := hnx rfl
      rcases st with _ | ⟨w1, st⟩
      · simp [s1i] at hs
      cases w1 with
      | long b =>
        rcases st with _ | ⟨w2, st⟩
        · simp [s1i] at hs
        cases w2 with
        | long a =>
          obtain rfl := Option.some.inj hs
          exact W.lcmp hx hb hd (hX ad ls H locs rfl hl hH hV hS hn0 hn1 had)
        | _ => simp [s1i] at hs
      | _ => simp [s1i] at hs
    | ineg =>
      obtain ⟨rfl, hd⟩ := hnx rfl
      rcases st with _ | ⟨w1, st⟩
      · simp [s1i] at hs
      cases w1 with
      | int a =>
        obtain rfl := Option.some.inj hs
        exact lv_ineg hx hb hd (hX ad ls H locs rfl hl hH hV hS hn0 hn1 had)
      | _ => simp [s1i] at hs
    | i2l =>
      obtain ⟨rfl, hd⟩ := hnx rfl
      rcases st with _ | ⟨w1, st⟩
      · simp [s1i] at hs
      cases w1 with
      | int a =>
        obtain rfl := Option.some.inj hs
        exact lv_i2l hx hb hd rfl (hX ad ls H locs rfl hl hH hV hS hn0 hn1 had)
      | _ => simp [s1i] at hs
    | l2i =>
      obtain ⟨rfl, hd⟩ := hnx rfl
      rcases st with _ | ⟨w1, st⟩
      · simp [s1i] at hs
      cases w1 with
      | long a =>
        obtain rfl := Option.some.inj hs
        exact lv_l2i hx hb hd rfl (hX ad ls H locs rfl hl hH hV hS hn0 hn1 had)
      | _ => simp [s1i] at hs
    | i2b =>
      obtain ⟨rfl, hd⟩ := hnx rfl
      rcases st with _ | ⟨w1, st⟩
      · simp [s1i] at hs
      cases w1 with
      | int a =>
        obtain rfl := Option.some.inj hs
        exact lv_i2b hx hb hd rfl (hX ad ls H locs rfl hl hH hV hS hn0 hn1 had)
      | _ => simp [s1i] at hs
    | dup =>
      obtain ⟨rfl, hd⟩ := hnx rfl
      rcases st with _ | ⟨w1, st⟩
      · simp [s1i] at hs
      cases w1 with
      | int a =>
        obtain rfl := Option.some.inj hs
        exact lv_dup hx hb hd rfl (hX ad ls H locs rfl hl hH hV hS hn0 hn1 had)
      | ref a =>
        obtain rfl := Option.some.inj hs
        exact lv_dup hx hb hd rfl (hX ad ls H locs rfl hl hH hV hS hn0 hn1 had)
      | _ => simp [s1i] at hs
    | pop =>
      obtain ⟨rfl, hd⟩ := hnx rfl
      rcases st with _ | ⟨w1, st⟩
      · simp [s1i] at hs
      cases w1 with
      | int a =>
        obtain rfl := Option.some.inj hs
        exact lv_pop hx hb hd rfl (hX ad ls H locs rfl hl hH hV hS hn0 hn1 had)
      | ref a =>
        obtain rfl := Option.some.inj hs
        exact lv_pop hx hb hd rfl (hX ad ls H locs rfl hl hH hV hS hn0 hn1 had)
      | _ => simp [s1i] at hs
    | dup_x1 =>
      obtain ⟨rfl, hd⟩ := hnx rfl
      rcases st with _ | ⟨w1, st⟩
      · simp [s1i] at hs
      cases w1 with
      | int b =>
        rcases st with _ | ⟨w2, st⟩
        · simp [s1i] at hs
        cases w2 with
        | ref a =>
          obtain rfl := Option.some.inj hs
          exact lv_dup_x1 hx hb hd rfl rfl (hX ad ls H locs rfl hl hH hV hS hn0 hn1 had)
        | _ => simp [s1i] at hs
      | _ => simp [s1i] at hs
    | dup2 =>
      obtain ⟨rfl, hd⟩ := hnx rfl
      rcases st with _ | ⟨w1, st⟩
      · simp [s1i] at hs
      cases w1 with
      | int b =>
        rcases st with _ | ⟨w2, st⟩
        · simp [s1i] at hs
        cases w2 with
        | ref a =>
          obtain rfl := Option.some.inj hs
          exact lv_dup2_11 hx hb hd rfl rfl (hX ad ls H locs rfl hl hH hV hS hn0 hn1 had)
        | _ => simp [s1i] at hs
      | _ => simp [s1i] at hs
    | goto o =>
      obtain ⟨rfl, hd⟩ := hnx rfl
      obtain rfl := Option.some.inj hs
      exact lv_goto hx hb hd (of_decide_eq_true hi) (hX ad ls H locs rfl hl hH hV hS hn0 hn1 had)
    | ifnonnull o =>
      obtain ⟨rfl, hd⟩ := hnx rfl
      rcases st with _ | ⟨w1, st⟩
      · simp [s1i] at hs
      cases w1 with
      | ref a =>
        obtain rfl := Option.some.inj hs
        exact lv_ifnonnull hx hb hd (of_decide_eq_true hi) (hX ad ls H locs rfl hl hH hV hS hn0 hn1 had)
      | null =>
        obtain rfl := Option.some.inj hs
        exact lv_ifnonnullN hx hb hd (hX ad ls H locs rfl hl hH hV hS hn0 hn1 had)
      | _ => simp [s1i] at hs
    | getfield j =>
      obtain ⟨rfl, hd⟩ := hnx rfl
      rcases st with _ | ⟨w1, st⟩
      · simp [s1i] at hs
      cases w1 with
      | ref a =>
        simp only [s1i] at hs
        cases hq : q_is n a x with
        | false => rw [hq] at hs; cases hs
        | true =>
          rw [hq] at hs
          exact sd_get F hd hi hl hH hV hS (q_is_spec hq) hs hX hn0 hn1 had
      | _ => simp [s1i] at hs
    | putfield j =>
      obtain ⟨rfl, hd⟩ := hnx rfl
      rcases st with _ | ⟨w0, st⟩
      · simp [s1i] at hs
      rcases st with _ | ⟨w1, st⟩
      · simp [s1i] at hs
      cases w1 with
      | ref a =>
        simp only [s1i] at hs
        cases hq : q_is n a x && Nat.ble x 10 with
        | false => rw [hq] at hs; cases hs
        | true =>
          rw [hq] at hs
          obtain ⟨h1, h2⟩ := (Bool.and_eq_true _ _).mp hq
          have hx10 := Nat.le_of_ble_eq_true h2
          have ha : a < n := by
            rcases (q_is_spec h1).2 with q | q
            · exact q
            · have q2 := SH_hi q
              rw [(q_is_spec h1).1] at q2
              omega
          exact sd_put F hG hd hi hl hH hV hS (q_is_spec h1).1 ha (by omega) hs hX hn0 hn1 had
      | _ => simp [s1i] at hs
    | getstatic j =>
      obtain ⟨rfl, hd⟩ := hnx rfl
      obtain rfl := Option.some.inj hs
      exact sd_gs F hd hi hV (hX ad ls H locs rfl hl hH hV hS hn0 hn1 had)
    | arraylength =>
      obtain ⟨rfl, hd⟩ := hnx rfl
      rcases st with _ | ⟨w1, st⟩
      · simp [s1i] at hs
      cases w1 with
      | ref a =>
        simp only [s1i] at hs
        cases hq : Nat.beq (SH a).1 22 with
        | false => rw [hq] at hs; cases hs
        | true =>
          rw [hq] at hs
          obtain rfl := Option.some.inj hs
          have ha : a = 1103 := SH_22 (Nat.eq_of_beq_eq_true hq)
          subst ha
          obtain ⟨⟨scr, g1, g2, g3, g4, g5⟩, g6⟩ := hV.2.2.2.2.2.2.2.2
          refine W.alen (n := Int32.ofNat G.2.2.2.1) hx hb g1 g2 (by first | exact g4.2 | (rw [← g4.2])) rfl rfl hd ?_
          have e1 : hI h 1104 0 = nI G.2.2.2.1 := hH.2.2.1.2.2.2.1
          have k1 := hX ad ls H locs rfl hl hH hV hS hn0 hn1 had
          dsimp only [List.map_cons, cv] at k1
          rw [e1] at k1
          exact k1
      | _ => simp [s1i] at hs
    | invokestatic j =>
      obtain ⟨rfl, hd⟩ := hnx rfl
      rcases st with _ | ⟨w1, st⟩
      · simp [s1i] at hs
      cases w1 with
      | int b =>
        rcases st with _ | ⟨w2, st⟩
        · simp [s1i] at hs
        cases w2 with
        | int a =>
          simp only [s1i] at hs
          exact sd_math F hd hi hl hH hV hS hs hX hn0 hn1 had
        | _ => simp [s1i] at hs
      | _ => simp [s1i] at hs
    | invokespecial j =>
      obtain ⟨rfl, hd⟩ := hnx rfl
      rcases st with _ | ⟨w1, st⟩
      · simp [s1i] at hs
      cases w1 with
      | ref a =>
        simp only [s1i] at hs
        cases hq : Nat.beq x 999 && Nat.ble (q_cat st) 8 with
        | false => rw [hq] at hs; cases hs
        | true =>
          rw [hq] at hs
          obtain ⟨h1, h2⟩ := (Bool.and_eq_true _ _).mp hq
          obtain rfl := Option.some.inj hs
          have hx9 := Nat.eq_of_beq_eq_true h1
          subst hx9
          exact sd_oi F hd hi (Nat.le_of_ble_eq_true h2) hl (hX ad ls H locs rfl hl hH hV hS hn0 hn1 had)
      | _ => simp [s1i] at hs
    | _ => simp [s1i] at hs
end SND
