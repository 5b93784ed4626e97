theorem R_len {d : Nat} {Q : Option Value → AH → Prop} {μ pc nx x y : Nat} {vv : Value} {lv : AL} {st : List Value} {h : AH} {a m : Nat} (e : KT μ pc = some (.arraylength, nx, x, y, vv)) (hs : SH a = (11, m)) (w : Rw d Q (μ, nx, lv, .int (nI m) :: st, 262, h)) : Rw d Q (μ, pc, lv, .ref a :: st, 262, h) := by
  have ha := (SH_row hs (by omega) (by omega)).1
  refine W_c (P := ((SH a).1 = 11 ∧ a < 262) ∨ a = 1100) (σ' := (μ, nx, lv, .int (nI (SH a).2) :: st, 262, h)) ?_ (Or.inl ⟨by rw [hs], ha⟩) ?_
  · rw [c1_at e]; rfl
  · rw [hs]; exact w
section
variable {d a b : Nat} {h : AH} {L : SL} {S : SS} {Q : Option Value → AH → Prop}
theorem c_fill {m : Nat} {v : Int32} (hs : SH a = (11, m)) (h1 : ∀ h', Fr (fun q => Nat.beq q a) h h' → (∀ j, j < m → hI h' a j = v) → Q none h') : Rc (d + 1) m_J7_fill_53178 [.ref a, .int v] h Q := by
  have hm := (SH_row hs (by omega) (by omega)).2
  refine R_in rfl rfl ?_
  refine R_gs 3 rfl ?_
  refine R_len rfl hs ?_
  refine R_gs 5 rfl ?_
  refine w_inv (W := fun j (s : AH) => Rw d Q (m_J7_fill_53178, 5, [some (.ref a), some (.int v), some (.int (nI j)), some (.int (nI m))], [], 262, s)) m (fun j s => Fr (fun q => Nat.beq q a) h s ∧ ∀ i, i < j → hI s a i = v) (s0 := h) ⟨Fr.refl _ h, fun i hi => absurd hi (by omega)⟩ (fun j s hj hi w => ?_) (fun s hi => ?_)
  ·
    refine R_gs 7 rfl ?_
    refine W_bf rfl (ltc hj (by omega)) ?_
    refine R_gs 13 rfl ?_
    refine R_is rfl hs (ix_nI _) hj ?_
    refine R_gs 5 rfl ?_
    rw [nI_1]; exact w _ ⟨hi.1.wI (Nat.beq_refl a), fun i hij => by rw [wI_at]; by_cases e : i = j; rw [if_pos e]; rw [if_neg e]; exact hi.2 i (by omega)⟩
  ·
    refine R_gs 7 rfl ?_
    refine W_bt rfl (gec (by omega)) ?_
    refine W_f rfl (by first | rfl | exact ⟨rfl, by first | decide | assumption | exact Or.inl rfl | exact Or.inr rfl | exact b2i_01 _⟩) ?_
    exact h1 _ hi.1 hi.2
theorem c_worthOf (hT : St h) (ha : a = 143 ∨ a = 171) (hO : LandOK L) (hL : LandC h a L) (hb : b = 7 ∨ b = 14) (hS : SceneC h b L S) (hV : SceneOK L S) {p q k : Nat} (hp : p < lP L) (hq : q < lP L) (hpq : p ≠ q) {c : List Int32} (hk : k = a + 22 ∨ k = a + 25) (hC : LawC h k c) (hK : LawOK c) (h1 : ∀ h', Fr xsc h h' → Q (some (.int (law3 L c (sW S) p q))) h') : Rc (d + 3) m_X9_worthOf [.ref b, .ref k, .ref a, .int (nI p), .int (nI q)] h Q := by
  obtain ⟨o1, o2, o3, o4, -⟩ := id hO
  have hb' := hb
  have emn : (if nI q < nI p then nI q else nI p) = nI (if p < q then p else q) := by
    by_cases e : p < q
    · rw [if_pos e, if_neg (fun h => absurd ((nI_ltI (by omega) (by omega)).mp h) (by omega))]
    · rw [if_neg e, if_pos ((nI_ltI (by omega) (by omega)).mpr (by omega))]
  have emx : (if nI p < nI q then nI q else nI p) = nI (if p < q then q else p) := by
    by_cases e : p < q
    · rw [if_pos e, if_pos ((nI_ltI (by omega) (by omega)).mpr (by omega))]
    · rw [if_neg e, if_neg (fun h => absurd ((nI_ltI (by omega) (by omega)).mp h) (by omega))]
  have hmn : (if p < q then p else q) < lP L := by split <;> omega
  have hmx : (if p < q then q else p) < lP L := by split <;> omega
  have e1 : lG L (if p < q then p else q) (if p < q then q else p) = (if p < q then lG L p q else lG L q p) := by split <;> rfl
  have e2 : lG L (if p < q then q else p) (if p < q then p else q) = (if p < q then lG L q p else lG L p q) := by split <;> rfl
  rcases ha with rfl | rfl <;> rcases hb with rfl | rfl <;> rcases hk with rfl | rfl
  all_goals
    refine R_in rfl rfl ?_
    refine R_gs 18 rfl ?_
    rw [emn, emx]
    refine R_k rfl rfl (c_spouseCount hT hb' hO hS hV (by omega) ?_)
    refine R_gs 24 rfl ?_
    refine R_k rfl rfl (c_spouseCount hT hb' hO hS hV (by omega) ?_)
    refine R_gs 37 rfl ?_
    refine R_ro rfl rfl rfl (by repeat (first | with_reducible apply ix_add | with_reducible apply ix_mul | with_reducible exact ix_nI _ | with_reducible exact ix_lit _ | exact rfl)) (by omega) ?_
    refine R_gs 40 rfl ?_
    refine R_il rfl (by first | rfl | exact shO (by decide) (by omega) | exact shG (by decide) (by omega)) (by repeat (first | with_reducible apply ix_add | with_reducible apply ix_mul | with_reducible exact ix_nI _ | with_reducible exact ix_lit _ | exact rfl)) (by omega) (by first | exact hL.G hmn hmx) ?_
    refine R_gs 47 rfl ?_
    refine R_ro rfl rfl rfl (by repeat (first | with_reducible apply ix_add | with_reducible apply ix_mul | with_reducible exact ix_nI _ | with_reducible exact ix_lit _ | exact rfl)) (by omega) ?_
    refine R_gs 50 rfl ?_
    refine R_il rfl (by first | rfl | exact shO (by decide) (by omega) | exact shG (by decide) (by omega)) (by repeat (first | with_reducible apply ix_add | with_reducible apply ix_mul | with_reducible exact ix_nI _ | with_reducible exact ix_lit _ | exact rfl)) (by omega) (by first | exact hL.G hmx hmn) ?_
    refine R_gs 53 rfl ?_
    refine R_k rfl rfl (c_worth (by decide) hC hK (fun h' hf => ?_))
    refine W_f rfl (by first | rfl | exact ⟨rfl, by first | decide | assumption | exact Or.inl rfl | exact Or.inr rfl | exact b2i_01 _⟩) ?_
    rw [nI_add, e1, e2]; exact h1 _ (hf.mono (fun q hq => by have := Nat.eq_of_beq_eq_true hq; subst this; rfl))
end
