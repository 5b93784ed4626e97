abbrev GS : Type := Nat × Nat × AL × List Value × Nat × GH
abbrev GR : Type := Option Value × Nat × GH
def okI (a n k : Nat) (j : Int32) : Bool := Nat.beq (SH a).1 k && Nat.ble (a + 1) n && Nat.ble a 999 && !decide (j < 0) && Nat.ble (j.toNatClampNeg + 1) (SH a).2
theorem okI_at {a n k : Nat} {j : Int32} (h : okI a n k j = true) : aAt k a n j ∧ a < 1000 := by
  unfold okI at h
  simp only [Bool.and_eq_true, Bool.not_eq_true', decide_eq_false_iff_not] at h
  obtain ⟨⟨⟨⟨h1, h2⟩, h3⟩, h4⟩, h5⟩ := h
  have h6 := Nat.le_of_ble_eq_true h5
  refine ⟨⟨(SH a).2, Prod.ext (Nat.eq_of_beq_eq_true h1) rfl, Nat.le_of_ble_eq_true h2, fun q => ?_⟩, ?_⟩
  · rcases q with q | q
    · exact h4 q
    · omega
  · have := Nat.le_of_ble_eq_true h3
    omega
def newOK (n : Nat) (s : Nat × Nat) (lv : AL) (st : List Value) (g : GH) : Bool := Nat.ble (n + 1) 262 && decide (SH n = s) && (lv.all (q_rl n) && st.all (q_ro n)) && fre g n
noncomputable def go1 (ih : GS → Option GR) (n0 : Nat) (t : Option AS) (g : GH) : Option GR := match t with
  | some (μ, pc, lv, st, n, _) => bif Nat.beq n n0 then (match st with
    | .int z :: st => fI z (fun z => ih (μ, pc, lv, .int z :: st, n0, g))
    | _ => ih (μ, pc, lv, st, n0, g)) else none
  | none => none
noncomputable def gmk (μ nx : Nat) (lv : AL) (st : List Value) (n1 : Nat) (v : Option Value) (g : GH) : GS := match v with
  | some w => (μ, nx, lv, w :: st, n1, g)
  | none => (μ, nx, lv, st, n1, g)
noncomputable def gcl (C ih : GS → Option GR) (μ nx x : Nat) (lv : AL) (args st : List Value) (n : Nat) (g : GH) (rc : Bool) : Option GR := match a1 x args n hz with
  | some (_, _, lv1, _, _, _) => match C (x, 0, lv1, [], n, g) with
    | some (v, n1, g1) => bif q_ok x && Nat.ble (q_cat st) 8 && (Nat.beq n n1 || (lv.all (q_rl n) && st.all (q_ro n))) && rc then ih (gmk μ nx lv st n1 v g1) else none
    | none => none
  | none => none
noncomputable def brI (ih : GS → Option GR) (μ nx x : Nat) (lv : AL) (st : List Value) (n : Nat) (g : GH) (b : Bool) : Option GR := bif b then ih (μ, x, lv, st, n, g) else ih (μ, nx, lv, st, n, g)
noncomputable def e1i (C ih : GS → Option GR) (μ : Nat) (lv : AL) (st : List Value) (n : Nat) (g : GH) (i : Instr) (nx x y : Nat) (v : Value) : Option GR :=
  match i with
  | .getfield _ => match st with
    | .ref a :: st => bif q_is n a x && Nat.ble a 999 && Nat.ble x 10 then (match v with
      | .int _ => fI (lkp 0 g.1 a y) (fun z => ih (μ, nx, lv, .int z :: st, n, g))
      | .null => (match lkp none g.2.2 a y with
        | some b => ih (μ, nx, lv, .ref b :: st, n, g)
        | none => none)
      | _ => none) else none
    | _ => none
  | .putfield _ => match st with
    | .int z :: .ref a :: st => bif q_is n a x && Nat.ble a 999 && Nat.ble x 10 then (match v with
      | .int _ => ih (μ, nx, lv, st, n, ((a, y, z) :: g.1, g.2))
      | .float _ => bif decide (z = 0 ∨ z = 1) then ih (μ, nx, lv, st, n, ((a, y, z) :: g.1, g.2)) else none
      | _ => none) else none
    | .ref b :: .ref a :: st => bif q_is n a x && Nat.ble a 999 && Nat.ble x 10 && q_ro n (.ref b) then (match v with
      | .null => ih (μ, nx, lv, st, n, (g.1, g.2.1, (a, y, some b) :: g.2.2))
      | _ => none) else none
    | _ => none
  | .iaload => match st with
    | .int j :: .ref a :: st => bif okI a n 11 j then fI (lkp 0 g.1 a j.toNatClampNeg) (fun z => ih (μ, nx, lv, .int z :: st, n, g)) else none
    | _ => none
  | .iastore => match st with
    | .int z :: .int j :: .ref a :: st => bif okI a n 11 j then fN j.toNatClampNeg (fun k => ih (μ, nx, lv, st, n, ((a, k, z) :: g.1, g.2))) else none
    | _ => none
  | .lastore => match st with
    | .long z :: .int j :: .ref a :: st => bif okI a n 12 j then fN j.toNatClampNeg (fun k => ih (μ, nx, lv, st, n, (g.1, (a, k, z) :: g.2.1, g.2.2))) else none
    | _ => none
  | .bastore => match st with
    | .int z :: .int j :: .ref a :: st => bif okI a n 14 j then fN j.toNatClampNeg (fun k => fI (vp_nar .boolean z) (fun z => ih (μ, nx, lv, st, n, ((a, k, z) :: g.1, g.2)))) else none
    | _ => none
  | .aastore => match st with
    | .ref b :: .int j :: .ref a :: st => bif okI a n 16 j && Nat.beq (SH b).1 7 && Nat.ble (b + 1) n then fN j.toNatClampNeg (fun k => ih (μ, nx, lv, st, n, (g.1, g.2.1, (a, k, some b) :: g.2.2))) else none
    | _ => none
  | .arraylength => match st with
    | .ref a :: st => bif Nat.beq (SH a).1 11 && Nat.ble (a + 1) n then ih (μ, nx, lv, .int (nI (SH a).2) :: st, n, g) else none
    | _ => none
  | .idiv => match st with
    | .int b :: .int a :: st => bif decide (b = 0) then none else fI (a / b) (fun z => ih (μ, nx, lv, .int z :: st, n, g))
    | _ => none
  | .new _ => bif newOK n (x, y) lv st g && Nat.ble x 10 then fN (n + 1) (fun m => ih (μ, nx, lv, .ref n :: st, m, g)) else none
  | .newarray _ => match st with
    | .int m :: st => bif newOK n (x, m.toNatClampNeg) lv st g && !decide (m < 0) && Nat.ble m.toNatClampNeg 3000 then fN (n + 1) (fun m => ih (μ, nx, lv, .ref n :: st, m, g)) else none
    | _ => none
  | .anewarray _ => match st with
    | .int m :: st => bif newOK n (x, m.toNatClampNeg) lv st g && !decide (m < 0) && Nat.ble m.toNatClampNeg 3000 && (Nat.beq x 15 || Nat.beq x 16) then fN (n + 1) (fun m => ih (μ, nx, lv, .ref n :: st, m, g)) else none
    | _ => none
  | .multianewarray _ _ => match st with
    | .int k :: .int m :: st => bif newOK n (17, 6) lv st g && decide (m = 6) && !decide (k < 0) && Nat.ble k.toNatClampNeg 1000 && Nat.ble (n + 7) 262 && (List.range 6).all (fun j => decide (SH (n + 1 + j) = (11, k.toNatClampNeg))) && (fre g n && fre g (n + 1) && fre g (n + 2) && fre g (n + 3) && fre g (n + 4) && fre g (n + 5) && fre g (n + 6)) then fN (n + 7) (fun m => ih (μ, nx, lv, .ref n :: st, m, six g n)) else none
    | _ => none
  | .invokestatic _ => bif Nat.beq x 998 then (match st with
      | [.int m, .int dp, .ref d, .int sp, .ref a] => bif Nat.beq (SH a).1 11 && Nat.beq (SH d).1 11 && Nat.ble (a + 1) n && Nat.ble (d + 1) n && Nat.ble a 999 && Nat.ble d 999 && !decide (sp < 0) && !decide (dp < 0) && !decide (m < 0) && Nat.ble (sp.toNatClampNeg + m.toNatClampNeg) (SH a).2 && Nat.ble (dp.toNatClampNeg + m.toNatClampNeg) (SH d).2 && (g.1.all (fun q => !Nat.beq q.1 a) && g.1.all (fun q => !Nat.beq q.1 d)) then ih (μ, nx, lv, [], n, g) else none
      | _ => none)
    else q_pop st (NPx x) [] (fun args st => gcl C ih μ nx x lv args st n g true)
  | .invokevirtual _ => q_pop st (NPx x + 1) [] (fun args st => gcl C ih μ nx x lv args st n g (q_rc n (MOx x) args))
  | .invokespecial _ => bif Nat.beq x 999 then go1 ih n (s1i ρ0 μ lv st n hz i nx x y v) g else q_pop st (NPx x + 1) [] (fun args st => gcl C ih μ nx x lv args st n g (q_rc n (MOx x) args))
  | .ireturn => match st with
    | [.int z] => bif Nat.beq x 0 || decide (z = 0 ∨ z = 1) then some (some (.int z), n, g) else none
    | _ => none
  | .return_ => match st with
    | [] => some (none, n, g)
    | _ => none
  | .ifCond c _ => match st with
    | .int z :: st => match c with
      | .eq => brI ih μ nx x lv st n g (decide (z = 0))
      | .ne => brI ih μ x nx lv st n g (decide (z = 0))
      | .lt => brI ih μ nx x lv st n g (decide (z < 0))
      | .ge => brI ih μ nx x lv st n g (decide (0 ≤ z))
      | .gt => brI ih μ nx x lv st n g (decide (0 < z))
      | .le => brI ih μ nx x lv st n g (decide (z ≤ 0))
    | _ => none
  | .if_icmp c _ => match st with
    | .int b :: .int a :: st => match c with
      | .eq => brI ih μ nx x lv st n g (decide (a = b))
      | .ne => brI ih μ x nx lv st n g (decide (a = b))
      | .lt => brI ih μ nx x lv st n g (decide (a < b))
      | .ge => brI ih μ nx x lv st n g (decide (b ≤ a))
      | .gt => brI ih μ nx x lv st n g (decide (b < a))
      | .le => brI ih μ nx x lv st n g (decide (a ≤ b))
    | _ => none
  | _ => go1 ih n (s1i ρ0 μ lv st n hz i nx x y v) g
noncomputable def e1 (C ih : GS → Option GR) : GS → Option GR
  | (μ, pc, lv, st, n, g) => match KT μ pc with
    | none => none
    | some (i, nx, x, y, v) => e1i C ih μ lv st n g i nx x y v
noncomputable def evS (C : GS → Option GR) (f : Nat) : GS → Option GR := Nat.rec (motive := fun _ => GS → Option GR) (fun _ => none) (fun _ ih => e1 C ih) f
noncomputable def evD (f : Nat) (d : Nat) : GS → Option GR := Nat.rec (motive := fun _ => GS → Option GR) (fun _ => none) (fun _ C => evS C f) d
/-! what it says holds -/
def SG (C : GS → Option GR) (d : Nat) : Prop := ∀ μ pc lv st n g v n1 g1, C (μ, pc, lv, st, n, g) = some (v, n1, g1) → n ≤ n1 ∧ ∀ B, BZ B → ∀ Q : Option Value → AH → Prop, Q v (den B g1) → Wps ρ0 (Cl ρ0 d) n1 Q (fun _ => False) (μ, pc, lv, st, n, den B g)
theorem bif_t {β : Type} {b : Bool} {x : Option β} {r : β} (h : (bif b then x else none) = some r) : b = true ∧ x = some r := by
  cases b with
  | true => exact ⟨rfl, h⟩
  | false => cases h
section
variable {C ih : GS → Option GR} {d : Nat} {μ pc : Nat} {lv : AL} {st : List Value} {n : Nat} {g : GH} {i : Instr} {nx x y : Nat} {v : Value} {r : Option Value} {n1 : Nat} {g1 : GH}
theorem z_s1 {h : AH} (hK : KT μ pc = some (i, nx, x, y, v)) : s1 ρ0 (μ, pc, lv, st, n, h) = s1i ρ0 μ lv st n h i nx x y v := by
  show (match KT μ pc with | none => none | some (i, nx, x, y, v) => s1i ρ0 μ lv st n h i nx x y v) = _
  rw [hK]
theorem z_c1 {h : AH} {n' : Nat} (hK : KT μ pc = some (i, nx, x, y, v)) : c1 ρ0 n' (μ, pc, lv, st, n, h) = c1i ρ0 n' μ lv st n h i nx x y v := by
  show (match KT μ pc with | none => none | some (i, nx, x, y, v) => c1i ρ0 n' μ lv st n h i nx x y v) = _
  rw [hK]
theorem z_b1 {h : AH} (hK : KT μ pc = some (i, nx, x, y, v)) : b1 (μ, pc, lv, st, n, h) = b1i μ lv st n h i nx x := by
  show (match KT μ pc with | none => none | some (i, nx, x, _, _) => b1i μ lv st n h i nx x) = _
  rw [hK]
/-- a plain step, the heap aside -/
theorem go1_s (hK : KT μ pc = some (i, nx, x, y, v)) (hi : noH i = true) (I : SG ih d) (h : go1 ih n (s1i ρ0 μ lv st n hz i nx x y v) g = some (r, n1, g1)) : n ≤ n1 ∧ ∀ B, BZ B → ∀ Q : Option Value → AH → Prop, Q r (den B g1) → Wps ρ0 (Cl ρ0 d) n1 Q (fun _ => False) (μ, pc, lv, st, n, den B g) := by
  cases e : s1i ρ0 μ lv st n hz i nx x y v with
  | none => rw [e] at h; cases h
  | some τ =>
    rw [e] at h
    obtain ⟨μ2, pc2, lv2, st2, n2, h2⟩ := τ
    unfold go1 at h
    dsimp only at h
    obtain ⟨e3, h⟩ := bif_t h
    have e3 := Nat.eq_of_beq_eq_true e3
    subst e3
    have key : ih (μ2, pc2, lv2, st2, n2, g) = some (r, n1, g1) := by
      split at h
      · rw [fI_eq] at h
        exact h
      · exact h
    obtain ⟨k1, k2⟩ := I _ _ _ _ _ _ _ _ _ key
    refine ⟨k1, fun B hB Q hQ => W_s ?_ (k2 B hB Q hQ)⟩
    rw [z_s1 hK, s1i_h ρ0 μ lv st n2 (den B g) i nx x y v hi, e]
    rfl
theorem br_s {c : Prop} [Decidable c] (I : SG ih d) {p1 p2 : Nat} {st2 : List Value} (h : brI ih μ p2 p1 lv st2 n g (decide c) = some (r, n1, g1)) (e : ∀ hh : AH, b1 (μ, pc, lv, st, n, hh) = some (c, (μ, p1, lv, st2, n, hh), (μ, p2, lv, st2, n, hh))) : n ≤ n1 ∧ ∀ B, BZ B → ∀ Q : Option Value → AH → Prop, Q r (den B g1) → Wps ρ0 (Cl ρ0 d) n1 Q (fun _ => False) (μ, pc, lv, st, n, den B g) := by
  unfold brI at h
  by_cases hc : c
  · rw [decide_eq_true hc] at h
    obtain ⟨k1, k2⟩ := I _ _ _ _ _ _ _ _ _ h
    exact ⟨k1, fun B hB Q hQ => W_bt (e _) hc (k2 B hB Q hQ)⟩
  · rw [decide_eq_false hc] at h
    obtain ⟨k1, k2⟩ := I _ _ _ _ _ _ _ _ _ h
    exact ⟨k1, fun B hB Q hQ => W_bf (e _) hc (k2 B hB Q hQ)⟩
theorem gcl_s (I : SG C d) (J : SG ih (d + 1)) {args st2 : List Value} {rc : Bool} (h : gcl C ih μ nx x lv args st2 n g rc = some (r, n1, g1))
    (e : ∀ (hh : AH) (n2 : Nat), q_ok x = true → k1 n1 n2 (μ, pc, lv, st, n, hh) = some ((Nat.ble n2 n1 && Nat.ble (q_cat st2) 8 && (Nat.beq n n2 || (lv.all (q_rl n) && st2.all (q_ro n))) && rc) = true, x, args, n, hh, q_mk μ nx lv st2 n2)) : n ≤ n1 ∧ ∀ B, BZ B → ∀ Q : Option Value → AH → Prop, Q r (den B g1) → Wps ρ0 (Cl ρ0 (d + 1)) n1 Q (fun _ => False) (μ, pc, lv, st, n, den B g) := by
  unfold gcl at h
  cases ea : a1 x args n hz with
  | none => rw [ea] at h; cases h
  | some τ =>
    obtain ⟨μ2, pc2, lv2, st3, n3, h3⟩ := τ
    rw [ea] at h
    dsimp only at h
    cases ec : C (x, 0, lv2, [], n, g) with
    | none => rw [ec] at h; cases h
    | some w =>
      obtain ⟨v1, n2, g2⟩ := w
      rw [ec] at h
      dsimp only at h
      obtain ⟨hb, h⟩ := bif_t h
      rw [Bool.and_eq_true, Bool.and_eq_true, Bool.and_eq_true] at hb
      obtain ⟨⟨⟨b1, b2⟩, b3⟩, b4⟩ := hb
      obtain ⟨k1, k2⟩ := I _ _ _ _ _ _ _ _ _ ec
      have ej : n2 ≤ n1 ∧ ∀ B, BZ B → ∀ Q : Option Value → AH → Prop, Q r (den B g1) → Wps ρ0 (Cl ρ0 (d + 1)) n1 Q (fun _ => False) (q_mk μ nx lv st2 n2 v1 (den B g2)) := by
        cases v1 with
        | none => exact J _ _ _ _ _ _ _ _ _ h
        | some w => exact J _ _ _ _ _ _ _ _ _ h
      refine ⟨Nat.le_trans k1 ej.1, fun B hB Q hQ => W_k (n1 := n2) (Cl.cm _) (e (den B g) n2 b1) ?_ ?_⟩
      · rw [Nat.ble_eq_true_of_le ej.1, b2, b3, b4]
        rfl
      · have ea2 : a1 x args n (den B g) = some (x, 0, lv2, [], n, den B g) := by
          unfold a1 at ea ⊢
          have q1 : ∀ (m : Nat) (vs : List Value) (f : AL → AL), (q_args vs m (fun lv => some ((x, 0, f lv, [], n, den B g) : AS))) = (q_args vs m (fun lv => some ((x, 0, f lv, [], n, hz) : AS))).map (fun τ => (x, 0, τ.2.2.1, [], n, den B g)) := by
            intro m
            induction m using Nat.strongRecOn with
            | ind m im =>
              intro vs f
              match m, vs with
              | 0, [] => rfl
              | 0, w :: vs => cases w <;> rfl
              | m + 1, [] => exact im m (Nat.lt_succ_self m) [] (fun l => f (none :: l))
              | m + 1, .int z :: vs => exact im m (Nat.lt_succ_self m) vs (fun l => f (some (.int z) :: l))
              | m + 1, .ref z :: vs => exact im m (Nat.lt_succ_self m) vs (fun l => f (some (.ref z) :: l))
              | 1, .long z :: vs => rfl
              | m + 2, .long z :: vs => exact im m (Nat.lt_succ_of_lt (Nat.lt_succ_self m)) vs (fun l => f (some (.long z) :: none :: l))
              | m + 1, .null :: vs => rfl
              | m + 1, .float z :: vs => rfl
              | m + 1, .double z :: vs => rfl
              | m + 1, .retAddr z :: vs => rfl
          have q2 := q1 (MLx x) args (fun l => l)
          rw [q2, ea]
          rfl
        exact Cl_of ea2 k1 b1 (k2 B hB _ (ej.2 B hB Q hQ))
theorem q_pop_st {β : Type} {w : β} : ∀ {st : List Value} {y : Nat} {acc : List Value} {k : List Value → List Value → Option β}, q_pop st y acc k = some w → ∃ args st2, k args st2 = some w ∧ ∀ {γ : Type} (k2 : List Value → List Value → Option γ), q_pop st y acc k2 = k2 args st2
  | st, 0, acc, k, h => ⟨acc, st, by simpa [q_pop] using h, fun k2 => by simp [q_pop]⟩
  | [], y + 1, acc, k, h => by simp [q_pop] at h
  | a :: st, y + 1, acc, k, h => by
    rw [q_pop] at h
    obtain ⟨args, st2, h1, h2⟩ := q_pop_st (st := st) (y := y) (acc := a :: acc) h
    exact ⟨args, st2, h1, fun k2 => by rw [q_pop]; exact h2 k2⟩
end
