/-! what the abstract machine's states say of the machine's -/
/-- the old cells' end, the classes' numbers, the array classes by their kinds, the script -/
abbrev AG : Type := Nat × va_G × (Nat → ClassId) × Nat × (Nat → Int32)
abbrev Ab (G : AG) : Nat → Prop := fun q => G.1 ≤ q
def cv (ad : Nat → Nat) (v : Value) : Value := match v with
  | .ref a => .ref (ad a)
  | w => w
theorem cv_cat (ad : Nat → Nat) (v : Value) : (cv ad v).category = v.category := by cases v <;> rfl
def tysG (G : AG) : List (ClassId × FieldType) := [(G.2.2.1 11, .int), (G.2.2.1 12, .long), (G.2.2.1 13, .byte), (G.2.2.1 14, .boolean), (G.2.2.1 15, .object "SnapWed$Token"), (G.2.2.1 16, .object "SnapWed$Scene"), (G.2.2.1 17, .array .int)]
def rfA (ρ : AR) (h : AH) (a k : Nat) : Option Nat := match ρ.1 a k with
  | some b => some b
  | none => hR h a k
def rfR (ρ : AR) (h : AH) (a j : Nat) : Option Nat := match ρ.2 a with
  | some (b, t) => some (b + t * j)
  | none => hR h a j
def eF (ρ : AR) (ad : Nat → Nat) (h : AH) (a ci k : Nat) : Value := bif Nat.beq (FK ci k) 0 || Nat.beq (FK ci k) 3 then .int (hI h a k) else bif Nat.beq (FK ci k) 1 then .long (hJ h a k) else va_rf ((rfA ρ h a k).map ad)
def ent (ρ : AR) (G : AG) (ad : Nat → Nat) (h : AH) (a : Nat) : va_E :=
  bif Nat.ble (SH a).1 10 then .inr ((SH a).1, (List.range (SH a).2).map (eF ρ ad h a (SH a).1))
  else bif Nat.beq (SH a).1 12 then .inl (G.2.2.1 12, (SH a).2, .inr (.inl (hJ h a)))
  else bif Nat.ble 15 (SH a).1 then .inl (G.2.2.1 (SH a).1, (SH a).2, .inr (.inr (.inr (.inr (fun j => (rfR ρ h a j).map ad)))))
  else .inl (G.2.2.1 (SH a).1, (SH a).2, .inl (hI h a))
def wsA (ρ : AR) (G : AG) (ad : Nat → Nat) (n : Nat) (h : AH) : va_W := (List.range n).map (fun a => (ad a, ent ρ G ad h a))
def PAIRS : List Int32 := [31, 481, 3618, 12868, 21640, 26896]
def SWM : List Int32 := [0, 0, 0, 0, 0, 0, 0, 1, 2, 3, 0, 0, 4, 5, 6, 7, 8, 0, 0, 0, 0, 0, 0, 0, 0, 0, 0, 0, 0, 0, 0, 0, 0, 0, 0, 0, 0, 0]
/-- what the heap holds of the old rows of ints -/
def Hst (G : AG) (h : AH) : Prop := (∀ j, j < 6 → hI h 1101 j = PAIRS.getD j 0) ∧ (∀ j, j < 38 → hI h 1102 j = SWM.getD j 0) ∧ (∀ j, j < G.2.2.2.1 → hI h 1103 j = G.2.2.2.2 j) ∧ hI h 1104 0 = nI G.2.2.2.1 ∧ G.2.2.2.1 ≤ 3584
/-- how many cells there are; while they are made, references go to made ones alone -/
def NRV (n : Nat) (h : AH) : Prop := n ≤ 1000 ∧ (n < 262 → ∀ a k b, a < n → hR h a k = some b → b < n ∨ 1000 ≤ b)
def HR (ρ : AR) (G : AG) (ad : Nat → Nat) (n : Nat) (h : AH) (H : Heap) : Prop := va_P G.2.1 vwCl (wsA ρ G ad n h) H ∧ va_D (Ab G) (wsA ρ G ad n h) ∧ Hst G h ∧ NRV n h
def OI (G : AG) (b L : Nat) (xs : Nat → Int32) (U : State) (H : Heap) : Prop := (∃ scr : Cell, H[b]? = some scr ∧ U.isArrayOf scr .int ∧ scr.vm ≠ .unknown ∧ (L ≤ scr.slots.size ∧ scr.slots.size.toInt32 = Int32.ofNat L) ∧ ∀ j : Nat, j < L → scr.slots[j]? = some (.int (xs j))) ∧ ¬ Ab G b
def OT (G : AG) (ad : Nat → Nat) (b : Nat) (U : State) (H : Heap) : Prop := (∃ scr : Cell, H[b]? = some scr ∧ U.isArrayOf scr (.object "SnapWed$Token") ∧ scr.vm ≠ .unknown ∧ (38 ≤ scr.slots.size ∧ scr.slots.size.toInt32 = Int32.ofNat 38) ∧ ∀ j : Nat, j < 38 → scr.slots[j]? = some (.ref (ad (1000 + j)))) ∧ ¬ Ab G b
/-- the old cells that are used -/
def Old (G : AG) (ad : Nat → Nat) (U : State) (H : Heap) : Prop :=
  (∀ t, t < 38 → va_O "SnapWed$Token" (ad (1000 + t)) (Ab G) U H ∧ ∀ k, k < 4 → va_OF (tkX.getD k ("", "", "")).1 (tkX.getD k ("", "", "")).2.1 (tkX.getD k ("", "", "")).2.2 (tkF k t) (ad (1000 + t)) (Ab G) U H) ∧
  (∀ t u, t < 38 → u < 38 → ad (1000 + t) = ad (1000 + u) → t = u) ∧
  (∀ x, (1000 ≤ x ∧ x < 1038) ∨ (1100 ≤ x ∧ x ≤ 1102) → va_Z (slN x).1 (slN x).2.1 (slN x).2.2 (.ref (ad x)) (Ab G) U H) ∧
  OT G ad (ad 1100) U H ∧ OI G (ad 1101) 6 (fun j => PAIRS.getD j 0) U H ∧ OI G (ad 1102) 38 (fun j => SWM.getD j 0) U H ∧ OI G (ad 1103) G.2.2.2.1 G.2.2.2.2 U H
/-- rows of rows of ints: the row's class is that of ints -/
def AOm (U : State) : Prop := ∃ (cI cA : ClassId) (kA : Class), U.vm.findClass (FieldType.array .int).toString = some cI ∧ U.vm.findClass ("[" ++ (FieldType.array .int).toString) = some cA ∧ U.vm.classes[cA]? = some kA ∧ kA.kind = .array cI (.array .int)
theorem AOm.moved {u U : State} (hvm : u.vm.Alike U.vm) (h : AOm u) : AOm U := by
  obtain ⟨cI, cA, kA, h1, h2, h3, h4⟩ := h
  obtain ⟨k', hk', he⟩ := hvm.2.2 _ _ h3
  exact ⟨cI, cA, k', by rw [hvm.findClass]; exact h1, by rw [hvm.findClass]; exact h2, hk', by rw [he]; exact h4⟩
theorem AOm.of {A : Array Value} {U : State} (h : (Cond.arrayOver (.array .int)).before A U = true) : AOm U := by
  obtain ⟨comp, c, k, h1, h2, h3, h4, h5⟩ := arrayOverA_spec h
  exact ⟨comp, c, k, h1, h5, h3, h4⟩
/-- array classes over classes of ours -/
def AOx (U : State) : Prop := va_AO "SnapWed$Token" U ∧ va_AO "SnapWed$Scene" U ∧ AOm U
def VR (G : AG) (ad : Nat → Nat) (U : State) (H : Heap) : Prop := (va_K G.2.1 vwCl (tysG G) U ∧ AOx U) ∧ (∀ w ∈ wNest, va_Nw w U) ∧ Old G ad U H
theorem OI.kept {G : AG} {b L : Nat} {xs : Nat → Int32} {U : State} {H H1 : Heap} (h : OI G b L xs U H) (hq : ∀ a : Nat, a < H.size → ¬ Ab G a → H1[a]? = H[a]?) : OI G b L xs U H1 := by
  obtain ⟨⟨scr, h1, h2⟩, h3⟩ := h
  exact ⟨⟨scr, by rw [hq b (Array.getElem?_eq_some_iff.mp h1).1 h3]; exact h1, h2⟩, h3⟩
theorem OT.kept {G : AG} {ad : Nat → Nat} {b : Nat} {U : State} {H H1 : Heap} (h : OT G ad b U H) (hq : ∀ a : Nat, a < H.size → ¬ Ab G a → H1[a]? = H[a]?) : OT G ad b U H1 := by
  obtain ⟨⟨scr, h1, h2⟩, h3⟩ := h
  exact ⟨⟨scr, by rw [hq b (Array.getElem?_eq_some_iff.mp h1).1 h3]; exact h1, h2⟩, h3⟩
theorem Old.kept {G : AG} {ad : Nat → Nat} {U : State} {H H1 : Heap} (h : Old G ad U H) (hq : ∀ a : Nat, a < H.size → ¬ Ab G a → H1[a]? = H[a]?) : Old G ad U H1 := by
  obtain ⟨h1, h2, h3, h4, h5, h6, h7⟩ := h
  exact ⟨fun t ht => ⟨(h1 t ht).1.kept hq, fun k hk => ((h1 t ht).2 k hk).kept hq⟩, h2, fun x hx => (h3 x hx).kept hq, h4.kept hq, h5.kept hq, h6.kept hq, h7.kept hq⟩
theorem OI.moved {G : AG} {b L : Nat} {xs : Nat → Int32} {u U : State} {H : Heap} (hvm : u.vm.Alike U.vm) (h : OI G b L xs u H) : OI G b L xs U H := by
  obtain ⟨⟨scr, h1, h2, h4⟩, h3⟩ := h
  exact ⟨⟨scr, h1, State.isArrayOf_alike hvm h2, h4⟩, h3⟩
theorem OT.moved {G : AG} {ad : Nat → Nat} {b : Nat} {u U : State} {H : Heap} (hvm : u.vm.Alike U.vm) (h : OT G ad b u H) : OT G ad b U H := by
  obtain ⟨⟨scr, h1, h2, h4⟩, h3⟩ := h
  exact ⟨⟨scr, h1, State.isArrayOf_alike hvm h2, h4⟩, h3⟩
theorem Old.moved {G : AG} {ad : Nat → Nat} {u U : State} {H : Heap} (hvm : u.vm.Alike U.vm) (h : Old G ad u H) : Old G ad U H := by
  obtain ⟨h1, h2, h3, h4, h5, h6, h7⟩ := h
  exact ⟨fun t ht => ⟨(h1 t ht).1.moved hvm, fun k hk => ((h1 t ht).2 k hk).moved hvm⟩, h2, fun x hx => (h3 x hx).moved hvm, h4.moved hvm, h5.moved hvm, h6.moved hvm, h7.moved hvm⟩
theorem Old.ad {G : AG} {ad ad' : Nat → Nat} {U : State} {H : Heap} (h : Old G ad U H) (ha : ∀ i, 1000 ≤ i → ad' i = ad i) : Old G ad' U H := by
  obtain ⟨h1, h2, h3, h4, h5, h6, h7⟩ := h
  refine ⟨fun t ht => ?_, fun t u ht hu => ?_, fun x hx => ?_, ?_, ?_, ?_, ?_⟩
  · rw [ha _ (by omega)]; exact h1 t ht
  · rw [ha _ (by omega), ha _ (by omega)]; exact h2 t u ht hu
  · rw [ha _ (by omega)]; exact h3 x hx
  · rw [ha _ (by omega)]
    obtain ⟨⟨scr, a1, a2, a3, a4, a5⟩, b1⟩ := h4
    exact ⟨⟨scr, a1, a2, a3, a4, fun j hj => by rw [ha _ (by omega)]; exact a5 j hj⟩, b1⟩
  · rw [ha _ (by omega)]; exact h5
  · rw [ha _ (by omega)]; exact h6
  · rw [ha _ (by omega)]; exact h7
theorem nest_warm {s U : State} (hW : s.WarmedH U.vm) {w : Cond} (hn : isNest w = true) (h : va_Nw w s) : va_Nw w U := by
  cases w <;> first | exact va_Nw.warmF hW h | exact va_Nw.warmM hW h | exact va_Nw.warmC hW h | exact va_Nw.warmD hW h | (simp [isNest] at hn)
theorem VR.warm {G : AG} {ad : Nat → Nat} {s U : State} {H : Heap} (hW : s.WarmedH U.vm) (h : VR G ad s H) : VR G ad U H :=
  ⟨⟨va_K.moved hW.alike h.1.1, h.1.2.1.moved hW.alike, h.1.2.2.1.moved hW.alike, h.1.2.2.2.moved hW.alike⟩, fun w hw => nest_warm hW (List.mem_filter.mp hw).2 (h.2.1 w hw), h.2.2.moved hW.alike⟩
theorem VR.kept {G : AG} {ad : Nat → Nat} {s : State} {H H1 : Heap} (h : VR G ad s H) (hq : ∀ a : Nat, a < H.size → ¬ Ab G a → H1[a]? = H[a]?) : VR G ad s H1 := ⟨h.1, h.2.1, h.2.2.kept hq⟩
theorem VR.ad {G : AG} {ad ad' : Nat → Nat} {s : State} {H : Heap} (h : VR G ad s H) (ha : ∀ i, 1000 ≤ i → ad' i = ad i) : VR G ad' s H := ⟨h.1, h.2.1, h.2.2.ad ha⟩
/-! the worlds -/
theorem wsA_at {ρ : AR} {G : AG} {ad : Nat → Nat} {n : Nat} {h : AH} {a : Nat} (ha : a < n) : (wsA ρ G ad n h)[a]? = some (ad a, ent ρ G ad h a) := by
  unfold wsA
  rw [List.getElem?_map, List.getElem?_range ha]
  rfl
theorem wsA_set {ρ : AR} {G : AG} {ad : Nat → Nat} {n : Nat} {h h' : AH} {a : Nat} (ha : a < n) (ho : ∀ b, b ≠ a → ent ρ G ad h' b = ent ρ G ad h b) : (wsA ρ G ad n h).set a (ad a, ent ρ G ad h' a) = wsA ρ G ad n h' := by
  apply List.ext_getElem?
  intro j
  have hl : a < (wsA ρ G ad n h).length := by unfold wsA; rw [List.length_map, List.length_range]; exact ha
  by_cases hj : j = a
  · subst hj
    rw [List.getElem?_set_self hl, wsA_at ha]
  · rw [List.getElem?_set_ne (Ne.symm hj)]
    by_cases hn : j < n
    · rw [wsA_at hn, wsA_at hn, ho j hj]
    · have e1 : (wsA ρ G ad n h)[j]? = none := by rw [List.getElem?_eq_none_iff]; unfold wsA; rw [List.length_map, List.length_range]; omega
      have e2 : (wsA ρ G ad n h')[j]? = none := by rw [List.getElem?_eq_none_iff]; unfold wsA; rw [List.length_map, List.length_range]; omega
      rw [e1, e2]
theorem ent_congr {ρ : AR} {G : AG} {ad : Nat → Nat} {h h' : AH} {b : Nat} (h1 : hI h' b = hI h b) (h2 : hJ h' b = hJ h b) (h3 : hR h' b = hR h b) : ent ρ G ad h' b = ent ρ G ad h b := by
  have e0 : rfA ρ h' b = rfA ρ h b := by funext k; unfold rfA; rw [h3]
  have e1 : eF ρ ad h' b = eF ρ ad h b := by funext ci k; unfold eF; rw [h1, h2, e0]
  have e2 : rfR ρ h' b = rfR ρ h b := by funext k; unfold rfR; rw [h3]
  unfold ent
  rw [e1, h1, h2, e2]
theorem up2_ne {α : Type} {f : Nat → Nat → α} {a k b : Nat} {v : α} (h : b ≠ a) : up2 f a k v b = f b := if_neg h
theorem up2_eq {α : Type} {f : Nat → Nat → α} {a k : Nat} {v : α} : up2 f a k v a = fun j => if j = k then v else f a j := if_pos rfl
theorem ent_wI {ρ : AR} {G : AG} {ad : Nat → Nat} {h : AH} {a k b : Nat} {v : Int32} (hb : b ≠ a) : ent ρ G ad (wI h a k v) b = ent ρ G ad h b := ent_congr (up2_ne hb) rfl rfl
theorem ent_wJ {ρ : AR} {G : AG} {ad : Nat → Nat} {h : AH} {a k b : Nat} {v : Int64} (hb : b ≠ a) : ent ρ G ad (wJ h a k v) b = ent ρ G ad h b := ent_congr rfl (up2_ne hb) rfl
theorem ent_wR {ρ : AR} {G : AG} {ad : Nat → Nat} {h : AH} {a k b : Nat} {v : Option Nat} (hb : b ≠ a) : ent ρ G ad (wR h a k v) b = ent ρ G ad h b := ent_congr rfl rfl (up2_ne hb)
theorem ent_cpI {ρ : AR} {G : AG} {ad : Nat → Nat} {h : AH} {a sp d dp n b : Nat} (hb : b ≠ d) : ent ρ G ad (cpI h a sp d dp n) b = ent ρ G ad h b := ent_congr (if_neg hb) rfl rfl
theorem ent_obj {ρ : AR} {G : AG} {ad : Nat → Nat} {h : AH} {a k m : Nat} (hs : SH a = (k, m)) (hk : k ≤ 10) : ent ρ G ad h a = .inr (k, (List.range m).map (eF ρ ad h a k)) := by
  unfold ent; rw [hs]; dsimp only; rw [Nat.ble_eq_true_of_le hk]; rfl
theorem ent_int {ρ : AR} {G : AG} {ad : Nat → Nat} {h : AH} {a k m : Nat} (hs : SH a = (k, m)) (hk : k = 11 ∨ k = 13 ∨ k = 14) : ent ρ G ad h a = .inl (G.2.2.1 k, m, .inl (hI h a)) := by
  unfold ent; rw [hs]; rcases hk with rfl | rfl | rfl <;> rfl
theorem ent_long {ρ : AR} {G : AG} {ad : Nat → Nat} {h : AH} {a m : Nat} (hs : SH a = (12, m)) : ent ρ G ad h a = .inl (G.2.2.1 12, m, .inr (.inl (hJ h a))) := by
  unfold ent; rw [hs]; rfl
theorem ent_ref {ρ : AR} {G : AG} {ad : Nat → Nat} {h : AH} {a k m : Nat} (hs : SH a = (k, m)) (hk : k = 15 ∨ k = 16 ∨ k = 17) : ent ρ G ad h a = .inl (G.2.2.1 k, m, .inr (.inr (.inr (.inr (fun j => (rfR ρ h a j).map ad))))) := by
  unfold ent; rw [hs]; rcases hk with rfl | rfl | rfl <;> rfl
theorem Hst.of {G : AG} {h h' : AH} (hh : Hst G h) (e : ∀ b, 1000 ≤ b → hI h' b = hI h b) : Hst G h' := by
  unfold Hst
  rw [e 1101 (by decide), e 1102 (by decide), e 1103 (by decide), e 1104 (by decide)]
  exact hh
/-! the locals -/
def LV (ls : Array Slot) (nL : Nat) (ad : Nat → Nat) (lv : AL) : Prop := ls.size = nL ∧ lv_wf ls ∧ lv.length = nL ∧ ∀ (i : Nat) (v : Value), lv[i]? = some (some v) → ls[i]? = some (.val (cv ad v))
def lvA (ad : Nat → Nat) : Nat → AL → List (Nat × Value)
  | _, [] => []
  | i, none :: l => lvA ad (i + 1) l
  | i, some v :: l => (i, cv ad v) :: lvA ad (i + 1) l
theorem lvA_mem {ad : Nat → Nat} : ∀ (l : AL) (i : Nat) (q : Nat × Value), q ∈ lvA ad i l ↔ ∃ (k : Nat) (v : Value), l[k]? = some (some v) ∧ q = (i + k, cv ad v)
  | [], i, q => by simp [lvA]
  | none :: l, i, q => by
    rw [lvA, lvA_mem l (i + 1) q]
    constructor
    · rintro ⟨k, v, h1, h2⟩
      exact ⟨k + 1, v, by simpa using h1, by rw [h2]; congr 1; omega⟩
    · rintro ⟨k, v, h1, h2⟩
      cases k with
      | zero => simp at h1
      | succ k => exact ⟨k, v, by simpa using h1, by rw [h2]; congr 1; omega⟩
  | some w :: l, i, q => by
    rw [lvA, List.mem_cons, lvA_mem l (i + 1) q]
    constructor
    · rintro (rfl | ⟨k, v, h1, h2⟩)
      · exact ⟨0, w, rfl, rfl⟩
      · exact ⟨k + 1, v, by simpa using h1, by rw [h2]; congr 1; omega⟩
    · rintro ⟨k, v, h1, h2⟩
      cases k with
      | zero =>
        left
        simp at h1
        rw [h2, h1]
        rfl
      | succ k => exact Or.inr ⟨k, v, by simpa using h1, by rw [h2]; congr 1; omega⟩
theorem LV.has {ls : Array Slot} {nL : Nat} {ad : Nat → Nat} {lv : AL} (h : LV ls nL ad lv) : lv_has ls nL (lvA ad 0 lv) := by
  refine ⟨h.1, h.2.1, fun q hq => ?_⟩
  obtain ⟨k, v, h1, rfl⟩ := (lvA_mem lv 0 q).mp hq
  rw [Nat.zero_add]
  exact h.2.2.2 k v h1
theorem q_lget_some {β : Type} {k : Value → Option β} {r : β} : ∀ {lv : AL} {i : Nat}, q_lget lv i k = some r → ∃ v, lv[i]? = some (some v) ∧ k v = some r
  | [], i, h => by simp [q_lget] at h
  | none :: l, 0, h => by simp [q_lget] at h
  | some v :: l, 0, h => ⟨v, rfl, h⟩
  | none :: l, i + 1, h => by
    obtain ⟨v, h1, h2⟩ := q_lget_some (lv := l) (i := i) (by simpa [q_lget] using h)
    exact ⟨v, by simpa using h1, h2⟩
  | some w :: l, i + 1, h => by
    obtain ⟨v, h1, h2⟩ := q_lget_some (lv := l) (i := i) (by simpa [q_lget] using h)
    exact ⟨v, by simpa using h1, h2⟩
def clr (a : Option Value) : Option Value := match a with
  | some (.int x) => some (.int x)
  | some (.ref x) => some (.ref x)
  | some .null => some .null
  | _ => none
theorem q_clr_eq {β : Type} (a : Option Value) (k : Option Value → β) : q_clr a k = k (clr a) := by
  cases a with
  | none => rfl
  | some v => cases v <;> rfl
theorem clr_some {a : Option Value} {v : Value} (h : clr a = some v) : a = some v ∧ v.category = 1 := by
  cases a with
  | none => cases h
  | some w => cases w <;> first | (cases h; exact ⟨rfl, rfl⟩) | cases h
/-- what is left of the locals when place i is written -/
def lvKeep (lv lv' : AL) (i : Nat) (v : Value) : Prop := lv'.length = lv.length ∧ i < lv.length ∧ ∀ (j : Nat) (w : Value), lv'[j]? = some (some w) → (j = i ∧ w = v) ∨ (j ≠ i ∧ lv[j]? = some (some w) ∧ ¬ (j + 1 = i ∧ w.category = 2))
theorem q_put1_some {β : Type} {v : Value} {r : β} : ∀ {lv : AL} {i : Nat} {k : AL → Option β}, q_put1 lv i v k = some r → ∃ lv', k lv' = some r ∧ lvKeep lv lv' i v
  | [], i, k, h => by simp [q_put1] at h
  | a :: l, 0, k, h => by
    refine ⟨some v :: l, h, by simp, by simp, fun j w hj => ?_⟩
    cases j with
    | zero => left; simp at hj; exact ⟨rfl, hj.symm⟩
    | succ j => right; exact ⟨by omega, by simpa using hj, by omega⟩
  | a :: l, 1, k, h => by
    rw [q_put1, q_clr_eq] at h
    obtain ⟨l', h1, h2, h3, h4⟩ := q_put1_some (lv := l) (i := 0) h
    refine ⟨clr a :: l', h1, by simp [h2], by simp; exact h3, fun j w hj => ?_⟩
    cases j with
    | zero =>
      right
      simp at hj
      obtain ⟨e1, e2⟩ := clr_some hj
      exact ⟨by omega, by rw [e1]; rfl, by omega⟩
    | succ j =>
      rcases h4 j w (by simpa using hj) with ⟨e1, e2⟩ | ⟨e1, e2, e3⟩
      · left; exact ⟨by omega, e2⟩
      · right; exact ⟨by omega, by simpa using e2, by omega⟩
  | a :: l, i + 2, k, h => by
    rw [q_put1] at h
    obtain ⟨l', h1, h2, h3, h4⟩ := q_put1_some (lv := l) (i := i + 1) h
    refine ⟨a :: l', h1, by simp [h2], by simp; omega, fun j w hj => ?_⟩
    cases j with
    | zero => right; exact ⟨by omega, by simpa using hj, by omega⟩
    | succ j =>
      rcases h4 j w (by simpa using hj) with ⟨e1, e2⟩ | ⟨e1, e2, e3⟩
      · left; exact ⟨by omega, e2⟩
      · right; exact ⟨by omega, by simpa using e2, fun q => e3 ⟨by omega, q.2⟩⟩
/-- .. when the places i and i + 1 are written -/
def lvKeep2 (lv lv' : AL) (i : Nat) (v : Value) : Prop := lv'.length = lv.length ∧ i + 1 < lv.length ∧ ∀ (j : Nat) (w : Value), lv'[j]? = some (some w) → (j = i ∧ w = v) ∨ (j ≠ i ∧ j ≠ i + 1 ∧ lv[j]? = some (some w) ∧ ¬ (j + 1 = i ∧ w.category = 2))
theorem q_put2_some {β : Type} {v : Value} {r : β} : ∀ {lv : AL} {i : Nat} {k : AL → Option β}, q_put2 lv i v k = some r → ∃ lv', k lv' = some r ∧ lvKeep2 lv lv' i v
  | [], i, k, h => by simp [q_put2] at h
  | [a], 0, k, h => by simp [q_put2] at h
  | a :: b :: l, 0, k, h => by
    refine ⟨some v :: none :: l, h, by simp, by simp, fun j w hj => ?_⟩
    cases j with
    | zero => left; simp at hj; exact ⟨rfl, hj.symm⟩
    | succ j =>
      cases j with
      | zero => simp at hj
      | succ j => right; exact ⟨by omega, by omega, by simpa using hj, by omega⟩
  | a :: l, 1, k, h => by
    rw [q_put2, q_clr_eq] at h
    obtain ⟨l', h1, h2, h3, h4⟩ := q_put2_some (lv := l) (i := 0) h
    refine ⟨clr a :: l', h1, by simp [h2], by simp; omega, fun j w hj => ?_⟩
    cases j with
    | zero =>
      right
      simp at hj
      obtain ⟨e1, e2⟩ := clr_some hj
      exact ⟨by omega, by omega, by rw [e1]; rfl, by omega⟩
    | succ j =>
      rcases h4 j w (by simpa using hj) with ⟨e1, e2⟩ | ⟨e1, e0, e2, e3⟩
      · left; exact ⟨by omega, e2⟩
      · right; exact ⟨by omega, by omega, by simpa using e2, by omega⟩
  | a :: l, i + 2, k, h => by
    rw [q_put2] at h
    obtain ⟨l', h1, h2, h3, h4⟩ := q_put2_some (lv := l) (i := i + 1) h
    refine ⟨a :: l', h1, by simp [h2], by simp; omega, fun j w hj => ?_⟩
    cases j with
    | zero => right; exact ⟨by omega, by omega, by simpa using hj, by omega⟩
    | succ j =>
      rcases h4 j w (by simpa using hj) with ⟨e1, e2⟩ | ⟨e1, e0, e2, e3⟩
      · left; exact ⟨by omega, e2⟩
      · right; exact ⟨by omega, by omega, by simpa using e2, fun q => e3 ⟨by omega, q.2⟩⟩
theorem LV.put1 {ls ls' : Array Slot} {nL i : Nat} {ad : Nat → Nat} {lv lv' : AL} {v : Value} (h : LV ls nL ad lv) (hk : lvKeep lv lv' i v) (hh : lv_has ls' nL ((i, cv ad v) :: (lvA ad 0 lv).filter (fun q => !(q.1 == i) && !(q.1 + 1 == i && q.2.category == 2)))) : LV ls' nL ad lv' := by
  refine ⟨hh.1, hh.2.1, hk.1.trans h.2.2.1, fun j w hj => ?_⟩
  rcases hk.2.2 j w hj with ⟨rfl, rfl⟩ | ⟨h1, h2, h3⟩
  · exact hh.2.2 _ List.mem_cons_self
  · refine hh.2.2 (j, cv ad w) (List.mem_cons_of_mem _ (List.mem_filter.mpr ⟨(lvA_mem lv 0 _).mpr ⟨j, w, h2, by rw [Nat.zero_add]⟩, ?_⟩))
    rw [cv_cat]
    simp only [Bool.and_eq_true, Bool.not_eq_true', beq_eq_false_iff_ne, Bool.and_eq_false_iff, beq_iff_eq]
    refine ⟨h1, ?_⟩
    by_cases q : j + 1 = i
    · right; simpa using fun c => h3 ⟨q, c⟩
    · left; simpa using q
theorem LV.put2 {ls ls' : Array Slot} {nL i : Nat} {ad : Nat → Nat} {lv lv' : AL} {v : Value} (h : LV ls nL ad lv) (hk : lvKeep2 lv lv' i v) (hh : lv_has ls' nL ((i, cv ad v) :: (lvA ad 0 lv).filter (fun q => !(q.1 == i) && (!(q.1 == i + 1) && !(q.1 + 1 == i && q.2.category == 2))))) : LV ls' nL ad lv' := by
  refine ⟨hh.1, hh.2.1, hk.1.trans h.2.2.1, fun j w hj => ?_⟩
  rcases hk.2.2 j w hj with ⟨rfl, rfl⟩ | ⟨h1, h0, h2, h3⟩
  · exact hh.2.2 _ List.mem_cons_self
  · refine hh.2.2 (j, cv ad w) (List.mem_cons_of_mem _ (List.mem_filter.mpr ⟨(lvA_mem lv 0 _).mpr ⟨j, w, h2, by rw [Nat.zero_add]⟩, ?_⟩))
    rw [cv_cat]
    simp only [Bool.and_eq_true, Bool.not_eq_true', beq_eq_false_iff_ne, Bool.and_eq_false_iff, beq_iff_eq]
    refine ⟨h1, h0, ?_⟩
    by_cases q : j + 1 = i
    · right; simpa using fun c => h3 ⟨q, c⟩
    · left; simpa using q
theorem cv_agree {ad ad' : Nat → Nat} {n n1 : Nat} {v : Value} (h1 : n1 ≤ 1000) (ha : ∀ i, i < n ∨ n1 ≤ i → ad' i = ad i) (hv : q_ro n v = true) : cv ad' v = cv ad v := by
  cases v with
  | ref b =>
    have hb : b < n ∨ n1 ≤ b := by
      have h2 : (Nat.ble (b + 1) n || Nat.ble 1000 b) = true := hv
      rw [Bool.or_eq_true] at h2
      rcases h2 with h2 | h2
      · exact Or.inl (Nat.le_of_ble_eq_true h2)
      · have := Nat.le_of_ble_eq_true h2
        exact Or.inr (by omega)
    show Value.ref (ad' b) = Value.ref (ad b)
    rw [ha b hb]
  | _ => rfl
theorem st_agree {ad ad' : Nat → Nat} {n n1 : Nat} {st : List Value} (h1 : n1 ≤ 1000) (ha : ∀ i, i < n ∨ n1 ≤ i → ad' i = ad i) (hv : st.all (q_ro n) = true) : st.map (cv ad') = st.map (cv ad) := by
  apply List.map_congr_left
  intro v hm
  exact cv_agree h1 ha (List.all_eq_true.mp hv v hm)
theorem LV.agree {ls : Array Slot} {nL : Nat} {ad ad' : Nat → Nat} {n n1 : Nat} {lv : AL} (h : LV ls nL ad lv) (h1 : n1 ≤ 1000) (ha : ∀ i, i < n ∨ n1 ≤ i → ad' i = ad i) (hv : lv.all (q_rl n) = true) : LV ls nL ad' lv := by
  refine ⟨h.1, h.2.1, h.2.2.1, fun i v hi => ?_⟩
  rw [cv_agree h1 ha (List.all_eq_true.mp hv (some v) (List.mem_of_getElem? hi))]
  exact h.2.2.2 i v hi
