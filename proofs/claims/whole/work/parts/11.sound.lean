/-! steps that ask for something -/
/-- the law of new int[n][k], proved in a part of its own -/
def MultiLaw : Prop := ∀ {p : Program} {l : Launch} {e : Env} {R : Room} {s : State} {m : MethodId} {args : Array Value} {below : List Frame} {meth : Method} {c : Code} {Qw : State → Prop} {ρ : AR} {G : AG} {μ : Nat} {cc : ByteArray} {ml : Nat} {rt : Option FieldType} {own n0 n' gc gs : Nat} {ad0 : Nat → Nat} (F : FF p s m args meth c R μ cc ml rt own n0 n' gc gs) (hG : G.1 ≤ s.heap.size) {j k : Nat} {pc nx x y : Nat} {v : Value} {lv : AL} {st : List Value} {n : Nat} {h : AH} {P : Prop} {τ' : AS} (hnx : isSw (.multianewarray j k) = false → nx = pc + lenI (.multianewarray j k) ∧ decode cc pc = .ok (.multianewarray j k, lenI (.multianewarray j k))) (hi : chkI μ own pc rt (.multianewarray j k) nx x y v = true) (hs : c1i ρ n' μ lv st n h (.multianewarray j k) nx x y v = some (P, τ')) (hp : P) (hX : WA ρ G p l e R s m args below meth c Qw μ ml n0 n' gc gs ad0 τ'), WA ρ G p l e R s m args below meth c Qw μ ml n0 n' gc gs ad0 (μ, pc, lv, st, n, h)
section SND
variable {p : Program} {l : Launch} {e : Env} {R : Room} {s : State} {m : MethodId} {args : Array Value} {below : List Frame} {meth : Method} {c : Code} {Qw : State → Prop}
variable {ρ : AR} {G : AG} {μ : Nat} {cc : ByteArray} {ml : Nat} {rt : Option FieldType} {own n0 n' gc gs : Nat} {ad0 : Nat → Nat}
theorem int_at {ad : Nat → Nat} {n : Nat} {h : AH} {a k q : Nat} (ha : a < n) (hs : SH a = (k, q)) (hk : k = 11 ∨ k = 13 ∨ k = 14) : (wsA ρ G ad n h)[a]? = some (ad a, .inl (G.2.2.1 k, q, .inl (hI h a))) := by
  rw [wsA_at ha, ent_int hs hk]
theorem long_at {ad : Nat → Nat} {n : Nat} {h : AH} {a q : Nat} (ha : a < n) (hs : SH a = (12, q)) : (wsA ρ G ad n h)[a]? = some (ad a, .inl (G.2.2.1 12, q, .inr (.inl (hJ h a)))) := by
  rw [wsA_at ha, ent_long hs]
theorem ref_at {ad : Nat → Nat} {n : Nat} {h : AH} {a k q : Nat} (ha : a < n) (hs : SH a = (k, q)) (hk : k = 15 ∨ k = 16 ∨ k = 17) : (wsA ρ G ad n h)[a]? = some (ad a, .inl (G.2.2.1 k, q, .inr (.inr (.inr (.inr (fun j => (rfR ρ h a j).map ad)))))) := by
  rw [wsA_at ha, ent_ref hs hk]
theorem ws_wI {ad : Nat → Nat} {n : Nat} {h : AH} {a k q j : Nat} {z : Int32} (ha : a < n) (hs : SH a = (k, q)) (hk : k = 11 ∨ k = 13 ∨ k = 14) : (wsA ρ G ad n h).set a (ad a, .inl (G.2.2.1 k, q, .inl (upd (hI h a) j z))) = wsA ρ G ad n (wI h a j z) := by
  rw [← wsA_set ha (h' := wI h a j z) (fun b hb => ent_wI hb), ent_int hs hk]
  have e1 : hI (wI h a j z) a = upd (hI h a) j z := up2_eq
  rw [e1]
theorem ws_wJ {ad : Nat → Nat} {n : Nat} {h : AH} {a q j : Nat} {z : Int64} (ha : a < n) (hs : SH a = (12, q)) : (wsA ρ G ad n h).set a (ad a, .inl (G.2.2.1 12, q, .inr (.inl (vp_updL (hJ h a) j z)))) = wsA ρ G ad n (wJ h a j z) := by
  rw [← wsA_set ha (h' := wJ h a j z) (fun b hb => ent_wJ hb), ent_long hs]
  have e1 : hJ (wJ h a j z) a = vp_updL (hJ h a) j z := up2_eq
  rw [e1]
theorem ws_wR {ad : Nat → Nat} {n : Nat} {h : AH} {a k q j b0 : Nat} (ha : a < n) (hs : SH a = (k, q)) (hk : k = 15 ∨ k = 16 ∨ k = 17) (hr : ρ.2 a = none) : (wsA ρ G ad n h).set a (ad a, .inl (G.2.2.1 k, q, .inr (.inr (.inr (.inr (va_up (fun j => (rfR ρ h a j).map ad) j (some (ad b0)))))))) = wsA ρ G ad n (wR h a j (some b0)) := by
  rw [← wsA_set ha (h' := wR h a j (some b0)) (fun b hb => ent_wR hb), ent_ref hs hk]
  have e1 : va_up (fun j => (rfR ρ h a j).map ad) j (some (ad b0)) = fun j' => (rfR ρ (wR h a j (some b0)) a j').map ad := by
    funext t
    unfold rfR
    rw [hr]
    dsimp only
    have e2 : hR (wR h a j (some b0)) a t = if t = j then some b0 else hR h a t := by
      show up2 h.2.2 a j (some b0) a t = _
      rw [up2_eq]
    rw [e2]
    unfold va_up
    by_cases ht : t = j
    · rw [if_pos ht, if_pos ht]
      rfl
    · rw [if_neg ht, if_neg ht]
  rw [e1]
theorem ws_cp {ad : Nat → Nat} {n : Nat} {h : AH} {a d q sp dp k : Nat} (hd : d < n) (hs : SH d = (11, q)) : (wsA ρ G ad n h).set d (ad d, .inl (G.2.2.1 11, q, .inl (va_cpy (hI h a) (hI h d) sp dp k))) = wsA ρ G ad n (cpI h a sp d dp k) := by
  rw [← wsA_set hd (h' := cpI h a sp d dp k) (fun b hb => ent_cpI hb), ent_int hs (Or.inl rfl)]
  have e1 : hI (cpI h a sp d dp k) d = va_cpy (hI h a) (hI h d) sp dp k := if_pos rfl
  rw [e1]
theorem old_ald {b L : Nat} {xs : Nat → Int32} {H : Heap} {locs : List Loc} {cells slots : Nat} {pc : Nat} {ls : Array Slot} {rest : List Value} {i : Int32} (hx : p.tables.exec = Jvm.exec) (hb : c.code = cc) (hO : OI G b L xs s H) (hin : vp_in i L) (hd : decode cc pc = .ok (.iaload, 1))
    (k1 : W p l e R s m args below meth c H locs cells slots Qw (F0 m (pc + 1) ls (.int (xs i.toNatClampNeg) :: rest))) : W p l e R s m args below meth c H locs cells slots Qw (F0 m pc ls (.int i :: .ref b :: rest)) := by
  obtain ⟨⟨scr, h1, h2, h3, h4, h5⟩, -⟩ := hO
  have hlt : i.toNatClampNeg < L := Nat.not_le.mp fun q => hin (Or.inr q)
  exact W.iald (v := .int (xs i.toNatClampNeg)) hx hb h1 h2 h3 (fun q => hin (q.imp id (fun q => Nat.le_trans h4.1 q))) (h5 _ hlt) rfl rfl hd k1
theorem vp_lt {i : Int32} {L : Nat} (h : vp_in i L) : i.toNatClampNeg < L := Nat.not_le.mp fun q => h (Or.inr q)
theorem ref_ald {ad : Nat → Nat} {n : Nat} {h : AH} {H : Heap} {locs : List Loc} {cells slots : Nat} {pc : Nat} {ls : Array Slot} {rest : List Value} {a : Nat} {i : Int32} (hx : p.tables.exec = Jvm.exec) (hb : c.code = cc) (hH : HR ρ G ad n h H) (hV : VR G ad s H) (P : aAt 15 a n i ∨ aAt 16 a n i ∨ aAt 17 a n i) (hd : decode cc pc = .ok (.aaload, 1))
    (k1 : W p l e R s m args below meth c H locs cells slots Qw (F0 m (pc + 1) ls (va_rf ((rfR ρ h a i.toNatClampNeg).map ad) :: rest))) : W p l e R s m args below meth c H locs cells slots Qw (F0 m pc ls (.int i :: .ref (ad a) :: rest)) := by
  rcases P with ⟨q, hs, ha, hin⟩ | ⟨q, hs, ha, hin⟩ | ⟨q, hs, ha, hin⟩
  · exact va_aldq hx hb hV.1.1 hH.1 a 4 (ref_at ha hs (by simp)) rfl hin hd k1
  · exact va_aldq hx hb hV.1.1 hH.1 a 5 (ref_at ha hs (by simp)) rfl hin hd k1
  · have hlt := vp_lt hin
    exact W.aald (v := va_rf ((rfR ρ h a i.toNatClampNeg).map ad)) (ty := .array .int) hx hb (hH.1 a _ (ref_at ha hs (by simp))) ((hV.1.1.2 6 _ rfl).1 q (fun j => va_rf ((rfR ρ h a j).map ad))) rfl (fun q => by cases q) (by show ¬ (i < 0 ∨ (arrV _ _ _).slots.size ≤ _); rw [arrV_size]; exact hin) (by show (arrV _ _ _).slots[_]? = _; rw [arrV_read _ _ hlt]) rfl rfl hd k1
theorem hr_wI {ad : Nat → Nat} {n : Nat} {h : AH} {H H1 : Heap} {a k q j : Nat} {z : Int32} (hH : HR ρ G ad n h H) (ha : a < n) (hs : SH a = (k, q)) (hk : k = 11 ∨ k = 13 ∨ k = 14) (hP : va_P G.2.1 vwCl ((wsA ρ G ad n h).set a (ad a, .inl (G.2.2.1 k, q, .inl (upd (hI h a) j z)))) H1) (hD : va_D (Ab G) ((wsA ρ G ad n h).set a (ad a, .inl (G.2.2.1 k, q, .inl (upd (hI h a) j z))))) : HR ρ G ad n (wI h a j z) H1 := by
  rw [ws_wI ha hs hk] at hP hD
  exact ⟨hP, hD, hH.2.2.1.of (fun b hb => up2_ne (by have := hH.2.2.2.1; omega)), hH.2.2.2⟩
theorem hr_wJ {ad : Nat → Nat} {n : Nat} {h : AH} {H H1 : Heap} {a q j : Nat} {z : Int64} (hH : HR ρ G ad n h H) (ha : a < n) (hs : SH a = (12, q)) (hP : va_P G.2.1 vwCl ((wsA ρ G ad n h).set a (ad a, .inl (G.2.2.1 12, q, .inr (.inl (vp_updL (hJ h a) j z))))) H1) (hD : va_D (Ab G) ((wsA ρ G ad n h).set a (ad a, .inl (G.2.2.1 12, q, .inr (.inl (vp_updL (hJ h a) j z)))))) : HR ρ G ad n (wJ h a j z) H1 := by
  rw [ws_wJ ha hs] at hP hD
  exact ⟨hP, hD, hH.2.2.1.of (fun b hb => rfl), hH.2.2.2⟩
theorem hr_wR {ad : Nat → Nat} {n : Nat} {h : AH} {H H1 : Heap} {a k q j b0 : Nat} (hv : 262 ≤ n ∨ q_ro n (.ref b0) = true) (hH : HR ρ G ad n h H) (ha : a < n) (hs : SH a = (k, q)) (hk : k = 15 ∨ k = 16 ∨ k = 17) (hr : ρ.2 a = none) (hP : va_P G.2.1 vwCl ((wsA ρ G ad n h).set a (ad a, .inl (G.2.2.1 k, q, .inr (.inr (.inr (.inr (va_up (fun j => (rfR ρ h a j).map ad) j (some (ad b0))))))))) H1) (hD : va_D (Ab G) ((wsA ρ G ad n h).set a (ad a, .inl (G.2.2.1 k, q, .inr (.inr (.inr (.inr (va_up (fun j => (rfR ρ h a j).map ad) j (some (ad b0)))))))))) : HR ρ G ad n (wR h a j (some b0)) H1 := by
  rw [ws_wR ha hs hk hr] at hP hD
  exact ⟨hP, hD, hH.2.2.1.of (fun b hb => rfl), nrv_wR hv hH.2.2.2⟩
theorem tok_any {ad : Nat → Nat} {H : Heap} {b : Nat} (hV : VR G ad s H) (h1 : 1000 ≤ b) (h2 : b < 1038) : va_Any "SnapWed$Token" s H (ad b) := by
  obtain ⟨t, rfl⟩ : ∃ t, b = 1000 + t := ⟨b - 1000, by omega⟩
  obtain ⟨cell, g1, g2, g3, -⟩ := (hV.2.2.1 t (by omega)).1
  obtain ⟨kC, hkC, -⟩ := Vm.findClass_spec g3
  refine ⟨cell, g1, g2, ⟨kC, hkC⟩, fun comp hc => ?_⟩
  have e1 : comp = cell.cls := Option.some.inj (hc.symm.trans g3)
  rw [e1]
  exact va_asg _ _
theorem q_get_P {β : Type} {h : AH} {a x y : Nat} {v : Value} {k : Value → β} {Pc P : Prop} {r : β} (hs : q_get ρ h a x y v (fun w => some (Pc, k w)) = some (P, r)) : P = Pc ∧ q_get ρ h a x y v (fun w => some (k w)) = some r := by
  unfold q_get at hs ⊢
  cases hb : Nat.beq x 20 with
  | true =>
    rw [hb] at hs
    obtain ⟨h1, h2⟩ := Prod.mk.inj (Option.some.inj hs)
    exact ⟨h1.symm, congrArg some h2⟩
  | false =>
    rw [hb] at hs
    dsimp only [cond_false] at hs ⊢
    cases v with
    | null =>
      dsimp only at hs ⊢
      cases hr : ρ.1 a y with
      | none =>
        rw [hr] at hs
        obtain ⟨h1, h2⟩ := Prod.mk.inj (Option.some.inj hs)
        exact ⟨h1.symm, congrArg some h2⟩
      | some b =>
        rw [hr] at hs
        obtain ⟨h1, h2⟩ := Prod.mk.inj (Option.some.inj hs)
        exact ⟨h1.symm, congrArg some h2⟩
    | int z =>
      obtain ⟨h1, h2⟩ := Prod.mk.inj (Option.some.inj hs)
      exact ⟨h1.symm, congrArg some h2⟩
    | float z =>
      obtain ⟨h1, h2⟩ := Prod.mk.inj (Option.some.inj hs)
      exact ⟨h1.symm, congrArg some h2⟩
    | long z =>
      obtain ⟨h1, h2⟩ := Prod.mk.inj (Option.some.inj hs)
      exact ⟨h1.symm, congrArg some h2⟩
    | _ => simp at hs
theorem q_set_P {β : Type} {n : Nat} {h : AH} {a y : Nat} {v w : Value} {k : AH → β} {Pc P : Prop} {r : β} (hs : q_set ρ n h a y v w (fun h => some (Pc, k h)) = some (P, r)) : P = Pc ∧ q_set ρ n h a y v w (fun h => some (k h)) = some r := by
  unfold q_set at hs ⊢
  cases v with
  | int z =>
    cases w with
    | int u =>
      obtain ⟨h1, h2⟩ := Prod.mk.inj (Option.some.inj hs)
      exact ⟨h1.symm, congrArg some h2⟩
    | _ => simp at hs
  | long z =>
    cases w with
    | long u =>
      obtain ⟨h1, h2⟩ := Prod.mk.inj (Option.some.inj hs)
      exact ⟨h1.symm, congrArg some h2⟩
    | _ => simp at hs
  | null =>
    dsimp only at hs ⊢
    cases hr : ρ.1 a y with
    | some b => rw [hr] at hs; cases hs
    | none =>
      rw [hr] at hs
      cases w with
      | ref u =>
        dsimp only at hs ⊢
        cases hv : Nat.ble 262 n || q_ro n (.ref u) with
        | false => rw [hv] at hs; cases hs
        | true =>
          rw [hv] at hs
          obtain ⟨h1, h2⟩ := Prod.mk.inj (Option.some.inj hs)
          exact ⟨h1.symm, congrArg some h2⟩
      | _ => simp at hs
  | _ => simp at hs
theorem FK_lta : (List.range 11).all (fun x => (List.range (vwX x).2.2).all (fun y => Nat.ble (FK x y) 3)) = true := by decide +kernel
theorem FK_lt {x y : Nat} (hx : x < 11) (hy : y < (vwX x).2.2) : FK x y = 0 ∨ FK x y = 1 ∨ FK x y = 2 ∨ FK x y = 3 := by
  have := Nat.le_of_ble_eq_true (List.all_eq_true.mp (List.all_eq_true.mp FK_lta x (List.mem_range.mpr hx)) y (List.mem_range.mpr hy))
  omega
theorem SH_noa : (List.range 262).all (fun a => Nat.ble (SH a).1 17) = true := by decide +kernel
theorem SH_no {a : Nat} (h : a < 262) : (SH a).1 ≠ 99 := by
  have := Nat.le_of_ble_eq_true (List.all_eq_true.mp SH_noa a (List.mem_range.mpr h))
  omega
theorem ent_ad {ad ad' : Nat → Nat} {h : AH} {a : Nat} (hρ : (∀ a k, ρ.1 a k = none) ∧ ∀ a, ρ.2 a = none) (hr : ∀ k b, hR h a k = some b → ad' b = ad b) : ent ρ G ad' h a = ent ρ G ad h a := by
  have e0 : ∀ k, (hR h a k).map ad' = (hR h a k).map ad := by
    intro k
    cases hk : hR h a k with
    | none => rfl
    | some b => exact congrArg some (hr k b hk)
  have e1 : eF ρ ad' h a = eF ρ ad h a := by
    funext ci k
    unfold eF rfA
    rw [hρ.1 a k]
    dsimp only
    rw [e0 k]
  have e2 : (fun j => (rfR ρ h a j).map ad') = fun j => (rfR ρ h a j).map ad := by
    funext j
    unfold rfR
    rw [hρ.2 a]
    exact e0 j
  unfold ent
  rw [e1, e2]
theorem wsA_new {ad : Nat → Nat} {n q : Nat} {h h' : AH} (hn : n < 262) (hN : NRV n h) (hρ : (∀ a k, ρ.1 a k = none) ∧ ∀ a, ρ.2 a = none) (ho : ∀ a, a < n → hI h' a = hI h a ∧ hJ h' a = hJ h a ∧ hR h' a = hR h a) : wsA ρ G (va_up ad n q) (n + 1) h' = wsA ρ G ad n h ++ [(q, ent ρ G (va_up ad n q) h' n)] := by
  unfold wsA
  rw [List.range_succ, List.map_append]
  congr 1
  · apply List.map_congr_left
    intro a ha
    have ha := List.mem_range.mp ha
    have e1 : va_up ad n q a = ad a := va_up_ne _ _ (by omega)
    rw [e1, ent_congr (ho a ha).1 (ho a ha).2.1 (ho a ha).2.2]
    rw [ent_ad hρ (fun k b hb => va_up_ne _ _ (by rcases hN.2 hn a k b ha hb with h1 | h1 <;> omega))]
  · simp [va_up]
theorem zH_lo {n : Nat} {h : AH} : ∀ a, a < n → hI (zH h n) a = hI h a ∧ hJ (zH h n) a = hJ h a ∧ hR (zH h n) a = hR h a := fun a ha => ⟨if_neg (by omega), if_neg (by omega), if_neg (by omega)⟩
theorem zH_nrv {n : Nat} {h : AH} (hn : n < 262) (hN : NRV n h) : NRV (n + 1) (zH h n) := by
  refine ⟨by omega, fun _ a k b ha hb => ?_⟩
  have hb2 : (if a = n then (fun _ => none) else h.2.2 a) k = some b := hb
  by_cases e1 : a = n
  · rw [if_pos e1] at hb2
    cases hb2
  · rw [if_neg e1] at hb2
    rcases hN.2 hn a k b (by omega) hb2 with h1 | h1
    · exact Or.inl (by omega)
    · exact Or.inr h1
theorem zH_hst {n : Nat} {h : AH} (hn : n < 262) (hh : Hst G h) : Hst G (zH h n) := hh.of (fun b hb => if_neg (by omega))
/-- behind a making of one cell -/
theorem sd_made {pc2 : Nat} {lv : AL} {st : List Value} {n : Nat} {h : AH} {ad : Nat → Nat} {ls : Array Slot} {H1 : Heap} {locs : List Loc} {q : Nat} {x0 : va_E} (hX : WA ρ G p l e R s m args below meth c Qw μ ml n0 n' gc gs ad0 (μ, pc2, lv, .ref n :: st, n + 1, zH h n)) (hlt : n < n') (hn : n < 262) (hn0 : n0 ≤ n) (hfr : q_fr ρ n lv st) (hl : LV ls ml ad lv) (hN : NRV n h) (hh : Hst G h) (hx : ent ρ G (va_up ad n q) (zH h n) n = x0)
    (hP : va_P G.2.1 vwCl (wsA ρ G ad n h ++ [(q, x0)]) H1) (hD : va_D (Ab G) (wsA ρ G ad n h ++ [(q, x0)])) (hV : VR G ad s H1) (hS : va_S (Ab G) s.heap H1 locs) (had : ∀ i, i < n0 ∨ n' ≤ i → ad i = ad0 i) :
    W p l e R s m args below meth c H1 locs (gc + (n - n0) + 1) (gs + (sl n - sl n0) + (SH n).2) Qw (F0 m pc2 ls (.ref q :: st.map (cv ad))) := by
  have hag : ∀ i, i < n ∨ n + 1 ≤ i → va_up ad n q i = ad i := fun i hi => va_up_ne _ _ (by omega)
  obtain ⟨f1, f2⟩ := (Bool.and_eq_true _ _).mp hfr.2
  subst hx
  rw [← wsA_new hn hN hfr.1 zH_lo] at hP hD
  have w := hX (va_up ad n q) ls H1 locs rfl (hl.agree (n := n) (n1 := n + 1) (by omega) hag f1) ⟨hP, hD, zH_hst hn hh, zH_nrv hn hN⟩ (hV.ad (fun i hi => hag i (Or.inr (by omega)))) hS (by dsimp only; omega) hlt (fun i hi => (hag i (by omega)).trans (had i hi))
  dsimp only at w
  have e1 : gc + (n + 1 - n0) = gc + (n - n0) + 1 := by omega
  have e2 : gs + (sl (n + 1) - sl n0) = gs + (sl n - sl n0) + (SH n).2 := by
    show gs + (sl n + (SH n).2 - sl n0) = _
    have := sl_mono hn0
    omega
  have e3 : (Value.ref n :: st).map (cv (va_up ad n q)) = .ref q :: st.map (cv ad) := by
    rw [List.map_cons, st_agree (n := n) (n1 := n + 1) (by omega) hag f2]
    show Value.ref (va_up ad n q n) :: _ = _
    rw [va_up_self]
  rw [e1, e2, e3] at w
  exact w
theorem new_kept {H H1 : Heap} {locs locs1 : List Loc} (hG : G.1 ≤ s.heap.size) (hS : va_S (Ab G) s.heap H locs) (hS1 : va_S (Ab G) s.heap H1 locs1) {ad : Nat → Nat} (hV : VR G ad s H) : VR G ad s H1 := hV.kept (old_kept hG hS hS1)
theorem inst_all {ci : Nat} (h : ci < 11) : Cond.instantiable (vwX ci).1 (vwX ci).2.2 ∈ wAll := by
  rcases (show ci = 0 ∨ ci = 1 ∨ ci = 2 ∨ ci = 3 ∨ ci = 4 ∨ ci = 5 ∨ ci = 6 ∨ ci = 7 ∨ ci = 8 ∨ ci = 9 ∨ ci = 10 by omega) with rfl | rfl | rfl | rfl | rfl | rfl | rfl | rfl | rfl | rfl | rfl
  · exact wT2 (i := 106) rfl rfl
  · exact wT1 (i := 148) rfl rfl
  · exact wT1 (i := 231) rfl rfl
  · exact wT1 (i := 168) rfl rfl
  · exact wT1 (i := 201) rfl rfl
  · exact wT1 (i := 222) rfl rfl
  · exact wT1 (i := 81) rfl rfl
  · exact wT1 (i := 94) rfl rfl
  · exact wT1 (i := 33) rfl rfl
  · exact wT1 (i := 25) rfl rfl
  · exact wT5 (i := 209) rfl rfl
theorem eF_zero {ad : Nat → Nat} {n : Nat} {h : AH} {x k : Nat} (hρ : (∀ a k, ρ.1 a k = none) ∧ ∀ a, ρ.2 a = none) (hx : x < 11) (hk : k < (vwX x).2.2) : defaultValue (tyA x k) = eF ρ ad (zH h n) n x k := by
  obtain ⟨f0, f1, f3, f2, -⟩ := FK_at hx hk
  have z1 : hI (zH h n) n = fun _ => 0 := if_pos rfl
  have z2 : hJ (zH h n) n = fun _ => 0 := if_pos rfl
  have z3 : hR (zH h n) n = fun _ => none := if_pos rfl
  unfold eF rfA
  rw [hρ.1 n k]
  dsimp only
  rw [z1, z2, z3]
  have hfk : FK x k = 0 ∨ FK x k = 1 ∨ FK x k = 2 ∨ FK x k = 3 := FK_lt hx hk
  rcases hfk with e | e | e | e
  · rw [e, f0 e]
    rfl
  · rw [e, f1 e]
    rfl
  · rw [e]
    have := f2 e
    generalize tyA x k = ty at this
    cases ty <;> first | (simp [refT] at this; done) | rfl
  · rw [e, f3 e]
    rfl
set_option maxHeartbeats 4000000 in
theorem sd_new (F : FF p s m args meth c R μ cc ml rt own n0 n' gc gs) (hG : G.1 ≤ s.heap.size) {j : Nat} {pc nx x y : Nat} {v : Value} {lv : AL} {st : List Value} {n : Nat} {h : AH} {P : Prop} {τ' : AS} (hnx : isSw (.new j) = false → nx = pc + lenI (.new j) ∧ decode cc pc = .ok (.new j, lenI (.new j))) (hi : chkI μ own pc rt (.new j) nx x y v = true) (hs : c1i ρ n' μ lv st n h (.new j) nx x y v = some (P, τ')) (hp : P) (hX : WA ρ G p l e R s m args below meth c Qw μ ml n0 n' gc gs ad0 τ') : WA ρ G p l e R s m args below meth c Qw μ ml n0 n' gc gs ad0 (μ, pc, lv, st, n, h) := by
  obtain ⟨rfl, hd⟩ := hnx rfl
  obtain ⟨rfl, rfl⟩ := Prod.mk.inj (Option.some.inj hs)
  obtain ⟨hlt, h262, hSH, hx10, hfr⟩ := hp
  intro ad ls H locs hμ hl hH hV hS hn0 hn1 had
  dsimp only at hμ hl hH hn0 hn1 ⊢
  obtain ⟨hx, hb, hml, hr, hlk, hown, hts, hck, hol, hnm, hfr2, hlo, hRc, hRs⟩ := id F
  have hx11 : x < 11 := by omega
  have hy : y = (vwX x).2.2 := by
    have h1 := SH_obj (a := n) (ci := x) (by rw [hSH]) hx10
    rw [hSH] at h1
    exact (Prod.mk.inj h1).2
  have hi' : (Nat.beq x 900 || CLx.contains (own, j, x)) = true := hi
  have hcl : Cond.classLink (cnX own) j (vwX x).1 ∈ wAll := by
    rw [Bool.or_eq_true] at hi'
    rcases hi' with h1 | h1
    · have := Nat.eq_of_beq_eq_true h1
      omega
    · obtain ⟨b, hw⟩ := all_zip (by decide +kernel) CL_ok _ (inL h1)
      have h2 := inAt_in hw
      have e1 : clW (own, j, x) = Cond.classLink (cnX own) j (vwX x).1 := by
        rcases (show x = 0 ∨ x = 1 ∨ x = 2 ∨ x = 3 ∨ x = 4 ∨ x = 5 ∨ x = 6 ∨ x = 7 ∨ x = 8 ∨ x = 9 ∨ x = 10 by omega) with rfl | rfl | rfl | rfl | rfl | rfl | rfl | rfl | rfl | rfl | rfl <;> rfl
      have h3 : clW (own, j, x) ∈ wAll := h2
      rw [e1] at h3
      exact h3
  have hini : Cond.initialized (vwX x).1 ∈ wAll := by
    rw [← cn_vw hx11]
    exact IN_at (by omega)
  have hsl : sl n + (vwX x).2.2 ≤ sl n' := by
    have h1 : sl (n + 1) = sl n + (vwX x).2.2 := by
      show sl n + (SH n).2 = _
      rw [hSH, hy]
    rw [← h1]
    exact sl_mono hlt
  refine va_new (ci := x) (fs := (List.range (vwX x).2.2).map (eF ρ ad (zH h n) n x)) hx hb hts (in_all hx11) (tyA x) (ty_all hx11) hown (hts _ hcl) (hts _ (inst_all hx11)) (hts _ hini) hV.1.1 hH.1 hH.2.1 hS (fun q hq => Nat.le_trans hG hq) (vw_at hx11) (fun k hk => ?_) (by omega) (by have := sl_mono hn0; omega) hd (fun q H1 hP1 hD1 hS1 => ?_)
  · rw [eF_zero (ρ := ρ) (ad := ad) (n := n) (h := h) hfr.1 hx11 hk]
    unfold vp_V
    rw [List.getD_eq_getElem?_getD, fs_at hk]
    rfl
  · have w := sd_made (q := q) hX hlt h262 hn0 hfr hl hH.2.2.2 hH.2.2.1 (x0 := .inr (x, (List.range (vwX x).2.2).map (eF ρ ad (zH h n) n x))) ?_ hP1 hD1 (new_kept hG hS hS1 hV) hS1 had
    · rw [hSH, hy] at w
      exact w
    · rw [ent_obj (SH_obj (by rw [hSH]) hx10) (by omega)]
      congr 2
      apply List.map_congr_left
      intro k hk
      have hk := List.mem_range.mp hk
      rw [← eF_zero (ρ := ρ) (ad := ad) (n := n) (h := h) hfr.1 hx11 hk, ← eF_zero (ρ := ρ) (ad := va_up ad n q) (n := n) (h := h) hfr.1 hx11 hk]
theorem arr_cls {cA : ClassId} {ty : FieldType} {k t0 : Nat} (hK : va_K G.2.1 vwCl (tysG G) s) (hK1 : va_K G.2.1 vwCl (tysG G ++ [(cA, ty)]) s) (ht : (tysG G)[t0]? = some (G.2.2.1 k, ty)) : cA = G.2.2.1 k := by
  have h1 := (hK1.2 7 (cA, ty) rfl).2
  have h2 := (hK.2 t0 _ ht).2
  cases ty with
  | object C =>
    obtain ⟨_, _, -, -, -, e1⟩ := h1
    obtain ⟨_, _, -, -, -, e2⟩ := h2
    exact Option.some.inj (e1.symm.trans e2)
  | _ =>
    exact Option.some.inj (Eq.trans (Eq.symm (h1 : s.vm.findClass _ = some cA)) (h2 : s.vm.findClass _ = some (G.2.2.1 k)))
theorem ac_int : Cond.arrayClass .int ∈ wAll := wT1 (i := 78) rfl rfl
theorem ac_long : Cond.arrayClass .long ∈ wAll := wT1 (i := 79) rfl rfl
theorem ac_byte : Cond.arrayClass .byte ∈ wAll := wT1 (i := 77) rfl rfl
theorem ac_bool : Cond.arrayClass .boolean ∈ wAll := wT6 (i := 129) rfl rfl
set_option maxHeartbeats 4000000 in
theorem sd_newarray (F : FF p s m args meth c R μ cc ml rt own n0 n' gc gs) (hG : G.1 ≤ s.heap.size) {t : ArrayType} {pc nx x y : Nat} {v : Value} {lv : AL} {st : List Value} {n : Nat} {h : AH} {P : Prop} {τ' : AS} (hnx : isSw (.newarray t) = false → nx = pc + lenI (.newarray t) ∧ decode cc pc = .ok (.newarray t, lenI (.newarray t))) (hi : chkI μ own pc rt (.newarray t) nx x y v = true) (hs : c1i ρ n' μ lv st n h (.newarray t) nx x y v = some (P, τ')) (hp : P) (hX : WA ρ G p l e R s m args below meth c Qw μ ml n0 n' gc gs ad0 τ') : WA ρ G p l e R s m args below meth c Qw μ ml n0 n' gc gs ad0 (μ, pc, lv, st, n, h) := by
  obtain ⟨rfl, hd⟩ := hnx rfl
  rcases st with _ | ⟨w1, st⟩
  · simp [c1i] at hs
  cases w1 with
  | int mm =>
    obtain ⟨rfl, rfl⟩ := Prod.mk.inj (Option.some.inj hs)
    obtain ⟨hlt, h262, hSH, hm0, hm3, hfr⟩ := hp
    intro ad ls H locs hμ hl hH hV hS hn0 hn1 had
    dsimp only at hμ hl hH hn0 hn1 ⊢
    obtain ⟨hx, hb, hml, hr, hlk, hown, hts, hck, hol, hnm, hfr2, hlo, hRc, hRs⟩ := id F
    have hxt : x = atOf t := Nat.eq_of_beq_eq_true hi
    have hsl : sl n + mm.toNatClampNeg ≤ sl n' := by
      have h1 : sl (n + 1) = sl n + mm.toNatClampNeg := by
        show sl n + (SH n).2 = _
        rw [hSH]
      rw [← h1]
      exact sl_mono hlt
    have hc1 : gc + (n - n0) + 1 ≤ R.cells := by omega
    have hs1 : gs + (sl n - sl n0) + mm.toNatClampNeg ≤ R.slots := by have := sl_mono hn0; omega
    have z1 : hI (zH h n) n = fun _ => 0 := if_pos rfl
    have z2 : hJ (zH h n) n = fun _ => 0 := if_pos rfl
    have e9 : (SH n).2 = mm.toNatClampNeg := by rw [hSH]
    cases t with
    | int =>
      refine va_newa (atype := .int) (a0 := (mm.toNatClampNeg, .inl (fun _ => 0))) hx hb (hts _ ac_int) rfl hV.1.1 hH.1 hH.2.1 hS (fun q hq => Nat.le_trans hG hq) (fun _ => rfl) hm0 rfl (by show mm.toNatClampNeg * 4 ≤ _; omega) hc1 hs1 hd (fun q cA H1 hK1 hP1 hD1 hS1 => ?_)
      obtain rfl := arr_cls (k := 11) (t0 := 0) hV.1.1 hK1 rfl
      have w := sd_made (q := q) hX hlt h262 hn0 ⟨hfr.1, by have := hfr.2; simpa [q_ro] using this⟩ hl hH.2.2.2 hH.2.2.1 (by rw [ent_int (k := 11) (m := mm.toNatClampNeg) (by rw [hSH, hxt]; rfl) (by simp), z1]) hP1 hD1 (new_kept hG hS hS1 hV) hS1 had
      rw [e9] at w
      exact w
    | long =>
      refine va_newa (atype := .long) (a0 := (mm.toNatClampNeg, .inr (.inl (fun _ => 0)))) hx hb (hts _ ac_long) rfl hV.1.1 hH.1 hH.2.1 hS (fun q hq => Nat.le_trans hG hq) (fun _ => rfl) hm0 rfl (by show mm.toNatClampNeg * 8 ≤ _; omega) hc1 hs1 hd (fun q cA H1 hK1 hP1 hD1 hS1 => ?_)
      obtain rfl := arr_cls (k := 12) (t0 := 1) hV.1.1 hK1 rfl
      have w := sd_made (q := q) hX hlt h262 hn0 ⟨hfr.1, by have := hfr.2; simpa [q_ro] using this⟩ hl hH.2.2.2 hH.2.2.1 (by rw [ent_long (m := mm.toNatClampNeg) (by rw [hSH, hxt]; rfl), z2]) hP1 hD1 (new_kept hG hS hS1 hV) hS1 had
      rw [e9] at w
      exact w
    | byte =>
      refine va_newa (atype := .byte) (a0 := (mm.toNatClampNeg, .inl (fun _ => 0))) hx hb (hts _ ac_byte) rfl hV.1.1 hH.1 hH.2.1 hS (fun q hq => Nat.le_trans hG hq) (fun _ => rfl) hm0 rfl (by show mm.toNatClampNeg * 1 ≤ _; omega) hc1 hs1 hd (fun q cA H1 hK1 hP1 hD1 hS1 => ?_)
      obtain rfl := arr_cls (k := 13) (t0 := 2) hV.1.1 hK1 rfl
      have w := sd_made (q := q) hX hlt h262 hn0 ⟨hfr.1, by have := hfr.2; simpa [q_ro] using this⟩ hl hH.2.2.2 hH.2.2.1 (by rw [ent_int (k := 13) (m := mm.toNatClampNeg) (by rw [hSH, hxt]; rfl) (by simp), z1]) hP1 hD1 (new_kept hG hS hS1 hV) hS1 had
      rw [e9] at w
      exact w
    | boolean =>
      refine va_newa (atype := .boolean) (a0 := (mm.toNatClampNeg, .inl (fun _ => 0))) hx hb (hts _ ac_bool) rfl hV.1.1 hH.1 hH.2.1 hS (fun q hq => Nat.le_trans hG hq) (fun _ => rfl) hm0 rfl (by show mm.toNatClampNeg * 1 ≤ _; omega) hc1 hs1 hd (fun q cA H1 hK1 hP1 hD1 hS1 => ?_)
      obtain rfl := arr_cls (k := 14) (t0 := 3) hV.1.1 hK1 rfl
      have w := sd_made (q := q) hX hlt h262 hn0 ⟨hfr.1, by have := hfr.2; simpa [q_ro] using this⟩ hl hH.2.2.2 hH.2.2.1 (by rw [ent_int (k := 14) (m := mm.toNatClampNeg) (by rw [hSH, hxt]; rfl) (by simp), z1]) hP1 hD1 (new_kept hG hS hS1 hV) hS1 had
      rw [e9] at w
      exact w
    | _ =>
      have h99 := SH_no (a := n)
      rw [hSH, hxt] at h99
      exact absurd rfl (h99 h262)
  | _ => simp [c1i] at hs
set_option maxHeartbeats 4000000 in
theorem sd_anewarray (F : FF p s m args meth c R μ cc ml rt own n0 n' gc gs) (hG : G.1 ≤ s.heap.size) {j : Nat} {pc nx x y : Nat} {v : Value} {lv : AL} {st : List Value} {n : Nat} {h : AH} {P : Prop} {τ' : AS} (hnx : isSw (.anewarray j) = false → nx = pc + lenI (.anewarray j) ∧ decode cc pc = .ok (.anewarray j, lenI (.anewarray j))) (hi : chkI μ own pc rt (.anewarray j) nx x y v = true) (hs : c1i ρ n' μ lv st n h (.anewarray j) nx x y v = some (P, τ')) (hp : P) (hX : WA ρ G p l e R s m args below meth c Qw μ ml n0 n' gc gs ad0 τ') : WA ρ G p l e R s m args below meth c Qw μ ml n0 n' gc gs ad0 (μ, pc, lv, st, n, h) := by
  obtain ⟨rfl, hd⟩ := hnx rfl
  rcases st with _ | ⟨w1, st⟩
  · simp [c1i] at hs
  cases w1 with
  | int mm =>
    obtain ⟨rfl, rfl⟩ := Prod.mk.inj (Option.some.inj hs)
    obtain ⟨hlt, h262, hSH, hm0, hm3, hx56, hfr⟩ := hp
    intro ad ls H locs hμ hl hH hV hS hn0 hn1 had
    dsimp only at hμ hl hH hn0 hn1 ⊢
    obtain ⟨hx, hb, hml, hr, hlk, hown, hts, hck, hol, hnm, hfr2, hlo, hRc, hRs⟩ := id F
    have hsl : sl n + mm.toNatClampNeg ≤ sl n' := by
      have h1 : sl (n + 1) = sl n + mm.toNatClampNeg := by
        show sl n + (SH n).2 = _
        rw [hSH]
      rw [← h1]
      exact sl_mono hlt
    have hc1 : gc + (n - n0) + 1 ≤ R.cells := by omega
    have hs1 : gs + (sl n - sl n0) + mm.toNatClampNeg ≤ R.slots := by have := sl_mono hn0; omega
    have e9 : (SH n).2 = mm.toNatClampNeg := by rw [hSH]
    have hcl : clW (own, j, x) ∈ wAll := by
      obtain ⟨b, hw⟩ := all_zip (by decide +kernel) CL_ok _ (inL (show CLx.contains (own, j, x) = true from hi))
      exact inAt_in hw
    have z3 : ∀ (ad' : Nat → Nat), (fun j => (rfR ρ (zH h n) n j).map ad') = fun _ => none := by
      intro ad'
      funext j
      unfold rfR
      rw [hfr.1.2 n]
      have e3 : hR (zH h n) n j = none := by
        show (if n = n then (fun _ => none) else h.2.2 n) j = none
        rw [if_pos rfl]
      dsimp only
      rw [e3]
      rfl
    rcases hx56 with rfl | rfl
    · refine va_newq (C := "SnapWed$Token") hx hb hown (hts _ hcl) hV.1.2.1 hV.1.1 hH.1 hH.2.1 hS (fun q hq => Nat.le_trans hG hq) hm0 rfl (by omega) hc1 hs1 hd (fun q cA H1 hK1 hP1 hD1 hS1 => ?_)
      obtain rfl := arr_cls (k := 15) (t0 := 4) hV.1.1 hK1 rfl
      have w := sd_made (q := q) hX hlt h262 hn0 ⟨hfr.1, by have := hfr.2; simpa [q_ro] using this⟩ hl hH.2.2.2 hH.2.2.1 (by rw [ent_ref (k := 15) (m := mm.toNatClampNeg) hSH (by simp), z3]) hP1 hD1 (new_kept hG hS hS1 hV) hS1 had
      rw [e9] at w
      exact w
    · refine va_newq (C := "SnapWed$Scene") hx hb hown (hts _ hcl) hV.1.2.2.1 hV.1.1 hH.1 hH.2.1 hS (fun q hq => Nat.le_trans hG hq) hm0 rfl (by omega) hc1 hs1 hd (fun q cA H1 hK1 hP1 hD1 hS1 => ?_)
      obtain rfl := arr_cls (k := 16) (t0 := 5) hV.1.1 hK1 rfl
      have w := sd_made (q := q) hX hlt h262 hn0 ⟨hfr.1, by have := hfr.2; simpa [q_ro] using this⟩ hl hH.2.2.2 hH.2.2.1 (by rw [ent_ref (k := 16) (m := mm.toNatClampNeg) hSH (by simp), z3]) hP1 hD1 (new_kept hG hS hS1 hV) hS1 had
      rw [e9] at w
      exact w
  | _ => simp [c1i] at hs
theorem ac_stat : Cond.static arraycopyName ∈ wAll := wT2 (i := 140) rfl rfl
theorem ac_nat : Cond.native arraycopyName ∈ wAll := wT2 (i := 141) rfl rfl
theorem ac_ini : Cond.initialized "java/lang/System" ∈ wAll := wT1 (i := 13) rfl rfl
set_option maxHeartbeats 4000000 in
set_option maxRecDepth 100000 in
theorem sd_c1 (hML : MultiLaw) (F : FF p s m args meth c R μ cc ml rt own n0 n' gc gs) (hG : G.1 ≤ s.heap.size) {τ τ' : AS} {P : Prop} (hs : c1 ρ n' τ = some (P, τ')) (hp : P) (hX : WA ρ G p l e R s m args below meth c Qw μ ml n0 n' gc gs ad0 τ') : WA ρ G p l e R s m args below meth c Qw μ ml n0 n' gc gs ad0 τ := by
  obtain ⟨μ1, pc, lv, st, n, h⟩ := τ
  intro ad ls H locs hμ hl hH hV hS hn0 hn1 had
  dsimp only at hμ hl hH hn0 hn1 ⊢
  subst hμ
  obtain ⟨hx, hb, hml, hr, hlk, hown, hts, hck, hol, hnm, hfr, hlo, hRc, hRs⟩ := id F
  unfold c1 at hs
  dsimp only at hs
  cases hK : KT μ1 pc with
  | none => rw [hK] at hs; cases hs
  | some q =>
    obtain ⟨i, nx, x, y, v⟩ := q
    rw [hK] at hs
    dsimp only at hs
    obtain ⟨hnx, hd0, hi⟩ := chk_at (hck pc) hK
    cases i with
    | iaload =>
      obtain ⟨rfl, hd⟩ := hnx rfl
      rcases st with _ | ⟨w1, st⟩
      · simp [c1i] at hs
      cases w1 with
      | int j =>
        rcases st with _ | ⟨w2, st⟩
        · simp [c1i] at hs
        cases w2 with
        | ref a =>
          obtain ⟨rfl, rfl⟩ := Prod.mk.inj (Option.some.inj hs)
          have k1 := hX ad ls H locs rfl hl hH hV hS hn0 hn1 had
          rcases hp with ⟨q, hq, ha, hin⟩ | ⟨q, hq, hin⟩ | ⟨hq, L, hL1, hL2, hin⟩
          · exact va_iald hx hb hV.1.1 hH.1 a 0 (int_at ha hq (Or.inl rfl)) rfl hin hd k1
          · rcases SH_21 (show (SH a).1 = 21 by rw [hq]) with rfl | rfl
            · have e1 : q = 6 := (Prod.mk.inj hq).2.symm
              subst e1
              have e2 := hH.2.2.1.1 j.toNatClampNeg (vp_lt hin)
              dsimp only [List.map_cons, cv] at k1
              rw [e2] at k1
              exact old_ald hx hb hV.2.2.2.2.2.2.1 hin hd k1
            · have e1 : q = 38 := (Prod.mk.inj hq).2.symm
              subst e1
              have e2 := hH.2.2.1.2.1 j.toNatClampNeg (vp_lt hin)
              dsimp only [List.map_cons, cv] at k1
              rw [e2] at k1
              exact old_ald hx hb hV.2.2.2.2.2.2.2.1 hin hd k1
          · have ha := SH_22 (show (SH a).1 = 22 by rw [hq])
            subst ha
            have hGL := hH.2.2.1.2.2.2
            have e1 : L = G.2.2.2.1 := (nI_eq (by omega) (by omega)).mp (hL1.symm.trans hGL.1)
            subst e1
            have e2 := hH.2.2.1.2.2.1 j.toNatClampNeg (vp_lt hin)
            dsimp only [List.map_cons, cv] at k1
            rw [e2] at k1
            exact old_ald hx hb hV.2.2.2.2.2.2.2.2 hin hd k1
        | _ => simp [c1i] at hs
      | _ => simp [c1i] at hs
    | laload =>
      obtain ⟨rfl, hd⟩ := hnx rfl
      rcases st with _ | ⟨w1, st⟩
      · simp [c1i] at hs
      cases w1 with
      | int j =>
        rcases st with _ | ⟨w2, st⟩
        · simp [c1i] at hs
        cases w2 with
        | ref a =>
          obtain ⟨rfl, rfl⟩ := Prod.mk.inj (Option.some.inj hs)
          obtain ⟨q, hq, ha, hin⟩ := hp
          exact va_lald hx hb hV.1.1 hH.1 a 1 (long_at ha hq) rfl hin hd (hX ad ls H locs rfl hl hH hV hS hn0 hn1 had)
        | _ => simp [c1i] at hs
      | _ => simp [c1i] at hs
    | baload =>
      obtain ⟨rfl, hd⟩ := hnx rfl
      rcases st with _ | ⟨w1, st⟩
      · simp [c1i] at hs
      cases w1 with
      | int j =>
        rcases st with _ | ⟨w2, st⟩
        · simp [c1i] at hs
        cases w2 with
        | ref a =>
          obtain ⟨rfl, rfl⟩ := Prod.mk.inj (Option.some.inj hs)
          rcases hp with ⟨q, hq, ha, hin⟩ | ⟨q, hq, ha, hin⟩
          · exact va_bald hx hb hV.1.1 hH.1 a 2 (int_at ha hq (by simp)) rfl hin hd (hX ad ls H locs rfl hl hH hV hS hn0 hn1 had)
          · exact va_zald hx hb hV.1.1 hH.1 a 3 (int_at ha hq (by simp)) rfl hin hd (hX ad ls H locs rfl hl hH hV hS hn0 hn1 had)
        | _ => simp [c1i] at hs
      | _ => simp [c1i] at hs
    | aaload =>
      obtain ⟨rfl, hd⟩ := hnx rfl
      rcases st with _ | ⟨w1, st⟩
      · simp [c1i] at hs
      cases w1 with
      | int j =>
        rcases st with _ | ⟨w2, st⟩
        · simp [c1i] at hs
        cases w2 with
        | ref a =>
          simp only [c1i] at hs
          cases h11 : Nat.beq a 1100 with
          | true =>
            rw [h11] at hs
            have ha := Nat.eq_of_beq_eq_true h11
            subst ha
            obtain ⟨rfl, rfl⟩ := Prod.mk.inj (Option.some.inj hs)
            have k1 := hX ad ls H locs rfl hl hH hV hS hn0 hn1 had
            obtain ⟨⟨scr, g1, g2, g3, g4, g5⟩, -⟩ := hV.2.2.2.2.2.1
            exact W.aald (v := .ref (ad (1000 + j.toNatClampNeg))) hx hb g1 g2 rfl g3 (fun q => hp (q.imp id (fun q => Nat.le_trans g4.1 q))) (g5 _ (vp_lt hp)) rfl rfl hd k1
          | false =>
            rw [h11] at hs
            dsimp only [cond_false] at hs
            cases hρ : ρ.2 a with
            | some bt =>
              obtain ⟨b0, t0⟩ := bt
              rw [hρ] at hs
              obtain ⟨rfl, rfl⟩ := Prod.mk.inj (Option.some.inj hs)
              have k1 := hX ad ls H locs rfl hl hH hV hS hn0 hn1 had
              refine ref_ald hx hb hH hV hp hd ?_
              have e1 : rfR ρ h a j.toNatClampNeg = some (b0 + t0 * j.toNatClampNeg) := by unfold rfR; rw [hρ]
              rw [e1]
              exact k1
            | none =>
              rw [hρ] at hs
              obtain ⟨rfl, rfl⟩ := Prod.mk.inj (Option.some.inj hs)
              have k1 := hX ad ls H locs rfl hl hH hV hS hn0 hn1 had
              refine ref_ald hx hb hH hV hp hd ?_
              have e1 : rfR ρ h a j.toNatClampNeg = hR h a j.toNatClampNeg := by unfold rfR; rw [hρ]
              rw [e1, ← cv_rf]
              exact k1
        | _ => simp [c1i] at hs
      | _ => simp [c1i] at hs
    | iastore =>
      obtain ⟨rfl, hd⟩ := hnx rfl
      rcases st with _ | ⟨w1, st⟩
      · simp [c1i] at hs
      cases w1 with
      | int z =>
        rcases st with _ | ⟨w2, st⟩
        · simp [c1i] at hs
        cases w2 with
        | int j =>
          rcases st with _ | ⟨w3, st⟩
          · simp [c1i] at hs
          cases w3 with
          | ref a =>
            obtain ⟨rfl, rfl⟩ := Prod.mk.inj (Option.some.inj hs)
            obtain ⟨q, hq, ha, hin⟩ := hp
            exact va_iast hx hb hV.1.1 hH.1 hH.2.1 hS a 0 (int_at ha hq (Or.inl rfl)) rfl hin hd (fun H1 locs1 hP1 hD1 hS1 => hX ad ls H1 locs1 rfl hl (hr_wI hH ha hq (Or.inl rfl) hP1 hD1) (hV.kept (old_kept hG hS hS1)) hS1 hn0 hn1 had)
          | _ => simp [c1i] at hs
        | _ => simp [c1i] at hs
      | _ => simp [c1i] at hs
    | lastore =>
      obtain ⟨rfl, hd⟩ := hnx rfl
      rcases st with _ | ⟨w1, st⟩
      · simp [c1i] at hs
      cases w1 with
      | long z =>
        rcases st with _ | ⟨w2, st⟩
        · simp [c1i] at hs
        cases w2 with
        | int j =>
          rcases st with _ | ⟨w3, st⟩
          · simp [c1i] at hs
          cases w3 with
          | ref a =>
            obtain ⟨rfl, rfl⟩ := Prod.mk.inj (Option.some.inj hs)
            obtain ⟨q, hq, ha, hin⟩ := hp
            exact va_last hx hb hV.1.1 hH.1 hH.2.1 hS a 1 (long_at ha hq) rfl hin hd (fun H1 locs1 hP1 hD1 hS1 => hX ad ls H1 locs1 rfl hl (hr_wJ hH ha hq hP1 hD1) (hV.kept (old_kept hG hS hS1)) hS1 hn0 hn1 had)
          | _ => simp [c1i] at hs
        | _ => simp [c1i] at hs
      | _ => simp [c1i] at hs
    | bastore =>
      obtain ⟨rfl, hd⟩ := hnx rfl
      rcases st with _ | ⟨w1, st⟩
      · simp [c1i] at hs
      cases w1 with
      | int z =>
        rcases st with _ | ⟨w2, st⟩
        · simp [c1i] at hs
        cases w2 with
        | int j =>
          rcases st with _ | ⟨w3, st⟩
          · simp [c1i] at hs
          cases w3 with
          | ref a =>
            simp only [c1i] at hs
            cases h13 : Nat.beq (SH a).1 13 with
            | true =>
              rw [h13] at hs
              obtain ⟨rfl, rfl⟩ := Prod.mk.inj (Option.some.inj hs)
              obtain ⟨q, hq, ha, hin⟩ := hp
              exact va_bast hx hb hV.1.1 hH.1 hH.2.1 hS a 2 (int_at ha hq (by simp)) rfl hin hd (fun H1 locs1 hP1 hD1 hS1 => hX ad ls H1 locs1 rfl hl (hr_wI hH ha hq (by simp) hP1 hD1) (hV.kept (old_kept hG hS hS1)) hS1 hn0 hn1 had)
            | false =>
              rw [h13] at hs
              obtain ⟨rfl, rfl⟩ := Prod.mk.inj (Option.some.inj hs)
              obtain ⟨q, hq, ha, hin⟩ := hp
              exact va_zast hx hb hV.1.1 hH.1 hH.2.1 hS a 3 (int_at ha hq (by simp)) rfl hin hd (fun H1 locs1 hP1 hD1 hS1 => hX ad ls H1 locs1 rfl hl (hr_wI hH ha hq (by simp) hP1 hD1) (hV.kept (old_kept hG hS hS1)) hS1 hn0 hn1 had)
          | _ => simp [c1i] at hs
        | _ => simp [c1i] at hs
      | _ => simp [c1i] at hs
    | aastore =>
      obtain ⟨rfl, hd⟩ := hnx rfl
      rcases st with _ | ⟨w1, st⟩
      · simp [c1i] at hs
      cases w1 with
      | ref b0 =>
        rcases st with _ | ⟨w2, st⟩
        · simp [c1i] at hs
        cases w2 with
        | int j =>
          rcases st with _ | ⟨w3, st⟩
          · simp [c1i] at hs
          cases w3 with
          | ref a =>
            obtain ⟨rfl, rfl⟩ := Prod.mk.inj (Option.some.inj hs)
            obtain ⟨hρ, ⟨⟨q, hq, ha, hin⟩, hb1, hb2⟩ | ⟨⟨q, hq, ha, hin⟩, hb1, hb2⟩⟩ := hp
            · exact va_astqM hx hb hV.1.1 hH.1 hH.2.1 hS a 4 (ref_at ha hq (by simp)) rfl (tok_any hV hb1 hb2) hin hd (fun H1 locs1 hP1 hD1 hS1 => hX ad ls H1 locs1 rfl hl (hr_wR (Or.inr (by show (Nat.ble (b0 + 1) n || Nat.ble 1000 b0) = true; rw [Nat.ble_eq_true_of_le hb1]; simp)) hH ha hq (by simp) hρ hP1 hD1) (hV.kept (old_kept hG hS hS1)) hS1 hn0 hn1 had)
            · exact va_astq (r := vwX 7) hx hb hV.1.1 hH.1 hH.2.1 hS a 5 b0 7 (ref_at ha hq (by simp)) rfl (obj_at hb2 hb1 (by decide)) rfl hin hd (fun H1 locs1 hP1 hD1 hS1 => hX ad ls H1 locs1 rfl hl (hr_wR (Or.inr (by show (Nat.ble (b0 + 1) n || Nat.ble 1000 b0) = true; rw [Nat.ble_eq_true_of_le (show b0 + 1 ≤ n from hb2)]; simp)) hH ha hq (by simp) hρ hP1 hD1) (hV.kept (old_kept hG hS hS1)) hS1 hn0 hn1 had)
          | _ => simp [c1i] at hs
        | _ => simp [c1i] at hs
      | _ => simp [c1i] at hs
    | arraylength =>
      obtain ⟨rfl, hd⟩ := hnx rfl
      rcases st with _ | ⟨w1, st⟩
      · simp [c1i] at hs
      cases w1 with
      | ref a =>
        obtain ⟨rfl, rfl⟩ := Prod.mk.inj (Option.some.inj hs)
        have k1 := hX ad ls H locs rfl hl hH hV hS hn0 hn1 had
        rcases hp with ⟨hq, ha⟩ | rfl
        · exact va_alen hx hb hV.1.1 hH.1 a 0 (int_at (q := (SH a).2) ha (Prod.ext hq rfl) (Or.inl rfl)) rfl rfl hd k1
        · obtain ⟨⟨scr, g1, g2, g3, g4, g5⟩, -⟩ := hV.2.2.2.2.2.1
          exact W.alen (n := Int32.ofNat 38) hx hb g1 g2 (by first | exact g4.2 | (rw [← g4.2])) rfl rfl hd k1
      | _ => simp [c1i] at hs
    | idiv =>
      obtain ⟨rfl, hd⟩ := hnx rfl
      rcases st with _ | ⟨w1, st⟩
      · simp [c1i] at hs
      cases w1 with
      | int b =>
        rcases st with _ | ⟨w2, st⟩
        · simp [c1i] at hs
        cases w2 with
        | int a =>
          obtain ⟨rfl, rfl⟩ := Prod.mk.inj (Option.some.inj hs)
          exact lv_idiv hx hb hd hp (hX ad ls H locs rfl hl hH hV hS hn0 hn1 had)
        | _ => simp [c1i] at hs
      | _ => simp [c1i] at hs
    | irem =>
      obtain ⟨rfl, hd⟩ := hnx rfl
      rcases st with _ | ⟨w1, st⟩
      · simp [c1i] at hs
      cases w1 with
      | int b =>
        rcases st with _ | ⟨w2, st⟩
        · simp [c1i] at hs
        cases w2 with
        | int a =>
          obtain ⟨rfl, rfl⟩ := Prod.mk.inj (Option.some.inj hs)
          exact lv_irem hx hb hd hp (hX ad ls H locs rfl hl hH hV hS hn0 hn1 had)
        | _ => simp [c1i] at hs
      | _ => simp [c1i] at hs
    | ldiv =>
      obtain ⟨rfl, hd⟩ := hnx rfl
      rcases st with _ | ⟨w1, st⟩
      · simp [c1i] at hs
      cases w1 with
      | long b =>
        rcases st with _ | ⟨w2, st⟩
        · simp [c1i] at hs
        cases w2 with
        | long a =>
          obtain ⟨rfl, rfl⟩ := Prod.mk.inj (Option.some.inj hs)
          exact lv_ldiv hx hb hd hp (hX ad ls H locs rfl hl hH hV hS hn0 hn1 had)
        | _ => simp [c1i] at hs
      | _ => simp [c1i] at hs
    | lrem =>
      obtain ⟨rfl, hd⟩ := hnx rfl
      rcases st with _ | ⟨w1, st⟩
      · simp [c1i] at hs
      cases w1 with
      | long b =>
        rcases st with _ | ⟨w2, st⟩
        · simp [c1i] at hs
        cases w2 with
        | long a =>
          obtain ⟨rfl, rfl⟩ := Prod.mk.inj (Option.some.inj hs)
          exact lv_lrem hx hb hd hp (hX ad ls H locs rfl hl hH hV hS hn0 hn1 had)
        | _ => simp [c1i] at hs
      | _ => simp [c1i] at hs
    | getfield j =>
      obtain ⟨rfl, hd⟩ := hnx rfl
      rcases st with _ | ⟨w1, st⟩
      · simp [c1i] at hs
      cases w1 with
      | ref a =>
        simp only [c1i] at hs
        obtain ⟨hp2, hs2⟩ := q_get_P hs
        rw [hp2] at hp
        exact sd_get F hd hi hl hH hV hS hp hs2 hX hn0 hn1 had
      | _ => simp [c1i] at hs
    | putfield j =>
      obtain ⟨rfl, hd⟩ := hnx rfl
      by_cases hfl : ∃ u, v = .float u
      · obtain ⟨u, rfl⟩ := hfl
        rcases st with _ | ⟨w1, st⟩
        · simp [c1i] at hs
        cases w1 with
        | int z =>
          rcases st with _ | ⟨w2, st⟩
          · simp [c1i] at hs
          cases w2 with
          | ref a =>
            obtain ⟨rfl, rfl⟩ := Prod.mk.inj (Option.some.inj hs)
            obtain ⟨hq, ha, hx10, hz⟩ := hp
            obtain ⟨hx11, hy, hk⟩ := put_y (by omega) hi
            obtain ⟨-, -, f3, -, -⟩ := FK_at hx11 hy
            have hk3 : FK x y = 3 := hk.symm
            refine sd_putH (w := .int z) F hG hd hi hl hH hV hS hq ha (by omega) (putI (Or.inr hk3) ?_ ?_) hX hn0 hn1 had
            · rw [f3 hk3]
              rcases hz with rfl | rfl <;> rfl
            · rw [f3 hk3]
              rcases hz with rfl | rfl <;> rfl
          | _ => simp [c1i] at hs
        | _ => simp [c1i] at hs
      · rcases st with _ | ⟨w1, st⟩
        · cases v <;> first | (exact absurd ⟨_, rfl⟩ hfl) | simp [c1i] at hs
        rcases st with _ | ⟨w2, st⟩
        · cases v <;> first | (exact absurd ⟨_, rfl⟩ hfl) | simp [c1i] at hs
        cases w2 with
        | ref a =>
          have hs1 : q_set ρ n h a y v w1 (fun h => some ((SH a).1 = x ∧ a < n ∧ x ≤ 10, (μ1, pc + lenI (.putfield j), lv, st, n, h))) = some (P, τ') := by
            cases v <;> first | (exact absurd ⟨_, rfl⟩ hfl) | exact hs
          obtain ⟨hp2, hs2⟩ := q_set_P hs1
          rw [hp2] at hp
          exact sd_put F hG hd hi hl hH hV hS hp.1 hp.2.1 (by omega) hs2 hX hn0 hn1 had
        | _ => cases v <;> first | (exact absurd ⟨_, rfl⟩ hfl) | simp [c1i] at hs
    | invokestatic j =>
      obtain ⟨rfl, hd⟩ := hnx rfl
      rcases st with _ | ⟨w1, st⟩
      · simp [c1i] at hs
      cases w1 with
      | int k =>
        rcases st with _ | ⟨w2, st⟩
        · simp [c1i] at hs
        cases w2 with
        | int dp =>
          rcases st with _ | ⟨w3, st⟩
          · simp [c1i] at hs
          cases w3 with
          | ref d =>
            rcases st with _ | ⟨w4, st⟩
            · simp [c1i] at hs
            cases w4 with
            | int sp =>
              rcases st with _ | ⟨w5, st⟩
              · simp [c1i] at hs
              cases w5 with
              | ref a =>
                simp only [c1i] at hs
                cases h98 : Nat.beq x 998 with
                | false => rw [h98] at hs; cases hs
                | true =>
                  rw [h98] at hs
                  have hx9 := Nat.eq_of_beq_eq_true h98
                  subst hx9
                  obtain ⟨rfl, rfl⟩ := Prod.mk.inj (Option.some.inj hs)
                  obtain ⟨q1, q2, hq1, hq2, ha, hda, g1, g2, g3, g4, g5, rfl⟩ := hp
                  refine va_copyi hx hb (hml.trans hl.1.symm) hown (hts _ (ol_link (x := 998) (by decide) (by decide) hi)) (hts _ ac_nat) (hts _ ac_stat) (hts _ ac_ini) hV.1.1 hH.1 hH.2.1 hS a d 0 0 (int_at ha hq1 (Or.inl rfl)) (int_at hda hq2 (Or.inl rfl)) rfl rfl rfl g1 g2 g3 g4 g5 (fun _ _ => rfl) hfr (by show 0 + (nativeFrameWords "java/lang/System" "arraycopy" 5 + 11) ≤ _; exact Nat.le_trans (by decide) hlo) hd (fun H1 locs1 hP1 hD1 hS1 => ?_)
                  rw [ws_cp hda hq2] at hP1 hD1
                  exact hX ad ls H1 locs1 rfl hl ⟨hP1, hD1, hH.2.2.1.of (fun b hb => if_neg (Nat.ne_of_gt (Nat.lt_of_lt_of_le hda (Nat.le_trans hH.2.2.2.1 hb)))), hH.2.2.2⟩ (hV.kept (old_kept hG hS hS1)) hS1 hn0 hn1 had
              | _ => simp [c1i] at hs
            | _ => simp [c1i] at hs
          | _ => simp [c1i] at hs
        | _ => simp [c1i] at hs
      | _ => simp [c1i] at hs
    | new j => exact sd_new F hG hnx hi hs hp hX ad ls H locs rfl hl hH hV hS hn0 hn1 had
    | newarray t => exact sd_newarray F hG hnx hi hs hp hX ad ls H locs rfl hl hH hV hS hn0 hn1 had
    | anewarray j => exact sd_anewarray F hG hnx hi hs hp hX ad ls H locs rfl hl hH hV hS hn0 hn1 had
    | multianewarray j k => exact hML F hG hnx hi hs hp hX ad ls H locs rfl hl hH hV hS hn0 hn1 had
    | _ => simp [c1i] at hs
end SND
