theorem q_rcS {b : Nat} (hs : Sc b) (args : List Value) : q_rc 262 7 (.ref b :: args) = true := by
  show q_is 262 b 7 = true
  unfold q_is
  rw [hs.2, Nat.ble_eq_true_of_le (by have := hs.1; omega : b + 1 ≤ 262)]
  rfl
theorem Sc_h : ∀ j, j < 16 → Sc (23 + 7 * j) := by
  intro j hj
  exact ⟨by omega, (by decide +kernel : ∀ j, j < 16 → SH (23 + 7 * j) = (7, 11)) j hj⟩
theorem Sc_m : ∀ j, j < 4 → Sc (207 + 7 * j) := by
  intro j hj
  exact ⟨by omega, (by decide +kernel : ∀ j, j < 4 → SH (207 + 7 * j) = (7, 11)) j hj⟩
theorem Sc_7 : Sc 7 := ⟨by decide, rfl⟩
theorem Sc_14 : Sc 14 := ⟨by decide, rfl⟩
def HisC (h : AH) (L : SL) (n : Nat) (hs : Nat → SS) : Prop := n ≤ 16 ∧ ∃ x, x < 16 ∧ hI h 21 1 = nI x ∧ hI h 21 2 = nI n ∧ ∀ k, k < n → SceneC h (23 + 7 * ((x + 16 - n + k) % 16)) L (hs k)
def HisM (h : AH) (L : SL) (n : Nat) (hs : Nat → SS) : Prop := hI h 235 25 = nI n ∧ ∀ k, k < n → SceneM h (40 * (5 + k)) L (hs k)
def hputN (n : Nat) : Nat := if n = 16 then 16 else n + 1
def hputS (n : Nat) (hs : Nat → SS) (S : SS) (k : Nat) : SS := if n = 16 then (if k = 15 then S else hs (k + 1)) else (if k = n then S else hs k)
def xhis (q : Nat) : Bool := Nat.beq q 21 || (Nat.ble 23 q && Nat.ble q 134)
theorem xhis_t {q : Nat} (h1 : 23 ≤ q) (h2 : q ≤ 134) : xhis q = true := by
  unfold xhis
  rw [Nat.ble_eq_true_of_le h1, Nat.ble_eq_true_of_le h2]; simp
theorem xq_of {b q : Nat} (h : xq b q = true) : b ≤ q ∧ q ≤ b + 5 := by
  unfold xq at h
  simpa using h
theorem xq_n {b q : Nat} (h : q < b ∨ b + 5 < q) : xq b q = false := by
  cases e : xq b q with
  | false => rfl
  | true => have := xq_of e; omega
section
variable {d a b : Nat} {h : AH} {L : SL} {S : SS} {Q : Option Value → AH → Prop}
theorem c_remember (hO : LandOK L) (hS : SceneC h 7 L S) {n : Nat} {hs : Nat → SS} (hH : HisC h L n hs) (h1 : ∀ h', Fr xhis h h' → HisC h' L (hputN n) (hputS n hs S) → Q none h') : Rc (d + 2) m_X2_remember [.ref 21, .ref 7] h Q := by
  obtain ⟨hn, x, hx, e1, e2, e3⟩ := hH
  have sx := Sc_h x hx
  have e1' := e1
  refine R_in rfl rfl ?_
  refine R_gs 8 rfl ?_
  rw [e1']
  refine R_al rfl rfl rfl (Or.inl rfl) rfl hx ?_
  refine R_gs 10 rfl ?_
  refine R_k rfl (q_rcS sx [.ref 7]) (c_copyButHeard sx Sc_7 (by omega) (fun g cg fg tg => ?_))
  have fx : ∀ q, 23 + 7 * x ≤ q ∧ q ≤ 23 + 7 * x + 5 → xhis q = true := fun q hq => xhis_t (by omega) (by omega)
  have fg' := fg.mono (Y := xhis) (fun q hq => fx q (xq_of hq))
  have e1' : hI g 21 1 = nI x := by rw [fg.I (xq_n (by omega))]; exact e1
  have e2' : hI (wI g 21 1 (nI ((x + 1) % 16))) 21 2 = nI n := by rw [wI_at, if_neg (by decide), fg.I (xq_n (by omega))]; exact e2
  refine R_gs 22 rfl ?_
  rw [e1']
  refine W_c rfl (by decide) ?_
  rw [(by decide +kernel : ∀ x, x < 16 → nI x + 1 - (nI x + 1) / 16 * 16 = nI ((x + 1) % 16)) x hx]
  refine R_gs 41 rfl ?_
  rw [e2']
  refine W_f rfl (by first | rfl | exact ⟨rfl, by first | decide | assumption | exact Or.inl rfl | exact Or.inr rfl | exact b2i_01 _⟩) ?_
  rw [(by decide +kernel : ∀ n, n < 17 → (if (16 : Int32) < nI n + 1 then 16 else nI n + 1) = nI (hputN n)) n (by omega)]
  refine h1 _ ((fg'.wI rfl).wI rfl) ?_
  have ki : ∀ {k T}, k < n → (23 + 7 * ((x + 16 - n + k) % 16)) ≠ 23 + 7 * x → SceneC h (23 + 7 * ((x + 16 - n + k) % 16)) L T → SceneC (wI (wI g 21 1 (nI ((x + 1) % 16))) 21 2 (nI (hputN n))) (23 + 7 * ((x + 16 - n + k) % 16)) L T := fun {k T} hk hne hS => ((hS.fr fg (xq_n (by omega)) (xq_n (by omega)) (xq_n (by omega)) (xq_n (by omega)) (xq_n (by omega))).fr (((Fr.refl (fun q => Nat.beq q 21) g).wI rfl).wI rfl) (bq_f (by omega)) (bq_f (by omega)) (bq_f (by omega)) (bq_f (by omega)) (bq_f (by omega)))
  have kn : SceneC (wI (wI g 21 1 (nI ((x + 1) % 16))) 21 2 (nI (hputN n))) (23 + 7 * x) L S := (cg.sc hO hS).fr (((Fr.refl (fun q => Nat.beq q 21) g).wI rfl).wI rfl) (bq_f (by omega)) (bq_f (by omega)) (bq_f (by omega)) (bq_f (by omega)) (bq_f (by omega))
  refine ⟨by unfold hputN; split <;> omega, (x + 1) % 16, by omega, ?_, ?_, fun k hk => ?_⟩
  · rw [wI_at, if_neg (by decide), wI_at, if_pos rfl]
  · rw [wI_at, if_pos rfl]
  · unfold hputN at hk ⊢; unfold hputS; by_cases e : n = 16; { rw [if_pos e] at hk ⊢; rw [if_pos e]; by_cases e2 : k = 15; { rw [if_pos e2, show ((x + 1) % 16 + 16 - 16 + k) % 16 = x by omega]; unfold hputN at kn; rw [if_pos e] at kn; exact kn }; { rw [if_neg e2, show ((x + 1) % 16 + 16 - 16 + k) % 16 = (x + 16 - n + (k + 1)) % 16 by omega]; have := ki (k := k + 1) (by omega) (by omega) (e3 (k + 1) (by omega)); unfold hputN at this; rw [if_pos e] at this; exact this } }; { rw [if_neg e] at hk ⊢; rw [if_neg e]; by_cases e2 : k = n; { rw [if_pos e2, show ((x + 1) % 16 + 16 - (n + 1) + k) % 16 = x by omega]; unfold hputN at kn; rw [if_neg e] at kn; exact kn }; { rw [if_neg e2, show ((x + 1) % 16 + 16 - (n + 1) + k) % 16 = (x + 16 - n + k) % 16 by omega]; have := ki (k := k) (by omega) (by omega) (e3 k (by omega)); unfold hputN at this; rw [if_neg e] at this; exact this } }
theorem c_giveBack (hO : LandOK L) {n : Nat} {hs : Nat → SS} (hH : HisC h L n hs) (h2 : n = 0 → Q (some (.int 0)) h) (h1 : 0 < n → ∀ h', Fr (fun q => Nat.beq q 21 || xq 7 q) h h' → hI h' 7 10 = hI h 7 10 → HisC h' L (n - 1) hs → SceneC h' 7 L (hs (n - 1)) → Q (some (.int 1)) h') : Rc (d + 2) m_X2_giveBack [.ref 21, .ref 7] h Q := by
  obtain ⟨hn, x, hx, e1, e2, e3⟩ := hH
  have hx' : (x + 15) % 16 < 16 := by omega
  have sx := Sc_h _ hx'
  refine R_in rfl rfl ?_
  refine R_gs 4 rfl ?_
  rw [e2]
  refine W_b rfl (fun hc4 => ?_) (fun hc4 => ?_)
  ·
    refine R_gs 8 rfl ?_
    refine W_f rfl (by first | rfl | exact ⟨rfl, by first | decide | assumption | exact Or.inl rfl | exact Or.inr rfl | exact b2i_01 _⟩) ?_
    exact h2 (nI_eqc (b := 0) hc4 (by omega) (by omega))
  ·
    have hz : 0 < n := Nat.pos_of_ne_zero (fun e => hc4 (by rw [e]; rfl))
    refine R_gs 21 rfl ?_
    rw [e1]
    refine W_c rfl (by decide) ?_
    rw [(by decide +kernel : ∀ x, x < 16 → nI x + 16 - 1 - (nI x + 16 - 1) / 16 * 16 = nI ((x + 15) % 16)) x hx]
    refine R_gs 44 rfl ?_
    rw [show hI (wI h 21 1 (nI ((x + 15) % 16))) 21 2 = nI n from e2, show nI n - 1 = nI (n - 1) from dn_p hz]
    rw [show hI (wI (wI h 21 1 (nI ((x + 15) % 16))) 21 2 (nI (n - 1))) 21 1 = nI ((x + 15) % 16) from rfl]
    refine R_al rfl rfl rfl (Or.inl rfl) rfl hx' ?_
    have f0 : Fr (fun q => Nat.beq q 21) h (wI (wI h 21 1 (nI ((x + 15) % 16))) 21 2 (nI (n - 1))) := ((Fr.refl _ h).wI rfl).wI rfl
    refine R_k rfl (q_rcS Sc_7 [.ref (23 + 7 * ((x + 15) % 16))]) (c_copyButHeard Sc_7 sx (by omega) (fun g cg fg tg => ?_))
    refine R_gs 49 rfl ?_
    refine W_f rfl (by first | rfl | exact ⟨rfl, by first | decide | assumption | exact Or.inl rfl | exact Or.inr rfl | exact b2i_01 _⟩) ?_
    have g0 := f0.mono (Y := fun q => Nat.beq q 21 || xq 7 q) (fun q hq => by show (_ || _) = true; rw [hq]; rfl)
    have g1 := fg.mono (Y := fun q => Nat.beq q 21 || xq 7 q) (fun q hq => by show (_ || _) = true; rw [hq, Bool.or_true])
    have ki : ∀ {k}, k < n → SceneC (wI (wI h 21 1 (nI ((x + 15) % 16))) 21 2 (nI (n - 1))) (23 + 7 * ((x + 16 - n + k) % 16)) L (hs k) := fun {k} hk => (e3 k hk).fr f0 (bq_f (by omega)) (bq_f (by omega)) (bq_f (by omega)) (bq_f (by omega)) (bq_f (by omega))
    refine h1 hz _ (g0.trans g1) (tg.trans rfl) ⟨by omega, (x + 15) % 16, hx', ?_, ?_, fun k hk => ?_⟩ ?_
    · rw [fg.I (xq_n (by omega))]; rfl
    · rw [fg.I (xq_n (by omega))]; rfl
    · rw [show ((x + 15) % 16 + 16 - (n - 1) + k) % 16 = (x + 16 - n + k) % 16 by omega]; exact (ki (k := k) (by omega)).fr fg (xq_n (by omega)) (xq_n (by omega)) (xq_n (by omega)) (xq_n (by omega)) (xq_n (by omega))
    · have := ki (k := n - 1) (by omega); rw [show (x + 16 - n + (n - 1)) % 16 = (x + 15) % 16 by omega] at this; exact cg.sc hO this
theorem m_keeps (hL : LandM h L) (hO : LandOK L) (hS : SceneM h 0 L S) {n : Nat} {hs : Nat → SS} (hn : n ≤ 16) (hH : HisM h L n hs) (h1 : ∀ h', Fr (fun q => Nat.beq q 251 || Nat.beq q 235) h h' → FldX 25 h h' → Only 200 634 h h' → HisM h' L (hputN n) (hputS n hs S) → Q none h') : Rc (d + 2) m_X13_keeps [.ref 235] h Q := by
  obtain ⟨e1, e2⟩ := hH
  by_cases en : n = 16
  ·
    subst en
    refine R_in rfl rfl ?_
    refine R_gs 6 rfl ?_
    rw [e1]
    refine W_bt rfl (rfl) ?_
    refine R_gs 11 rfl ?_
    refine w_inv (W := fun j (s : AH) => Rw (d + 1) Q (m_X13_keeps, 11, [_, some (.int (nI (j + 1)))], [], 262, s)) 15 (fun j s => Fr (fun q => Nat.beq q 251) h s ∧ Only 200 634 h s ∧ (∀ k, k < j → SceneM s (40 * (5 + k)) L (hs (k + 1))) ∧ ∀ k, j ≤ k → k < 16 → SceneM s (40 * (5 + k)) L (hs k)) (s0 := h) ⟨Fr.refl _ h, Only.refl _ _ h, fun k hk => absurd hk (by omega), fun k _ hk => e2 k hk⟩ (fun j s hj hi w => ?_) (fun s hi => ?_)
    ·
      obtain ⟨i1, i2, i3, i4⟩ := hi
      refine R_gs 14 rfl ?_
      refine W_bf rfl (ltc (N := 16) (by omega) (by omega)) ?_
      refine R_gs 34 rfl ?_
      rw [show (40 : Int32) * (5 + nI (j + 1)) = nI (40 * (5 + (j + 1))) from ix_mul (ix_lit 40) (ix_add (ix_lit 5) rfl), show (40 : Int32) * (5 + nI (j + 1) - 1) = nI (40 * (5 + j)) from ix_mul (ix_lit 40) (by rw [show (5 : Int32) + nI (j + 1) = nI (5 + j + 1) from (ix_add (j := 5) (k := j + 1) (ix_lit 5) rfl), nI_pred])]
      refine R_k rfl rfl (m_copies (n := 34) (by omega) (by omega) (by omega) (fun s' f' o' c' => ?_))
      refine R_gs 11 rfl ?_
      rw [nI_1]; refine w s' ⟨i1.trans f', i2.trans (fun k hk => o' k (by omega)), fun k hk => ?_, fun k hk hk2 => (i4 k (by omega) hk2).only hO o' (by omega)⟩; by_cases e : k = j; { subst e; exact (i4 (k + 1) (by omega) (by omega)).cp hO c' }; { exact (i3 k (by omega)).only hO o' (by omega) }
    ·
      obtain ⟨i1, i2, i3, i4⟩ := hi
      refine R_gs 14 rfl ?_
      refine W_bt rfl (gec (N := 16) (by omega)) ?_
      refine R_gs 66 rfl ?_
      have e25 : hI s 235 25 = nI 16 := by rw [i1.I rfl]; exact e1
      rw [show hI s 235 25 - 1 = nI 15 from by rw [e25]; rfl, show hI (wI s 235 25 (nI 15)) 235 25 = nI 15 from rfl, show (40 : Int32) * (5 + nI 15) = nI (40 * (5 + 15)) from ix_mul (ix_lit 40) (ix_add (ix_lit 5) rfl)]
      have ow : ∀ {k T}, SceneM s k L T → SceneM (wI s 235 25 (nI 15)) k L T := fun {k T} hS => hS.fr (((Fr.refl (fun q => Nat.beq q 235) s).wI rfl)) rfl
      have s0 : SceneM (wI s 235 25 (nI 15)) 0 L S := ow (hS.only hO i2 (by omega))
      refine R_k rfl rfl (m_copies (f := 0) (n := 34) (by omega) (by omega) (by omega) (fun s' f' o' c' => ?_))
      refine R_gs 79 rfl ?_
      refine W_f rfl (by first | rfl | exact ⟨rfl, by first | decide | assumption | exact Or.inl rfl | exact Or.inr rfl | exact b2i_01 _⟩) ?_
      have F1 : Fr (fun q => Nat.beq q 251 || Nat.beq q 235) h s := i1.mono (fun q hq => by show (_ || _) = true; rw [hq]; rfl)
      have F2 := f'.mono (Y := fun q => Nat.beq q 251 || Nat.beq q 235) (fun q hq => by show (_ || _) = true; rw [hq]; rfl)
      have g25 : hI s' 235 25 = nI 15 := by rw [f'.I rfl]; rfl
      refine h1 _ (((F1.wI rfl).trans F2).wI rfl) (fun k hk => ?_) (fun k hk => ?_) ⟨?_, fun k hk => ?_⟩
      · rw [wI_at, if_neg hk, f'.I rfl, wI_at, if_neg hk, i1.I rfl]
      · exact (o' k (by omega)).trans (i2 k hk)
      · rw [wI_at, if_pos rfl, g25]; rfl
      · refine SceneM.fr (?_ : SceneM s' _ L _) ((Fr.refl (fun q => Nat.beq q 235) s').wI rfl) rfl; show SceneM s' (40 * (5 + k)) L (if 16 = 16 then (if k = 15 then S else hs (k + 1)) else _); rw [if_pos rfl]; by_cases e : k = 15; { subst e; rw [if_pos rfl]; exact s0.cp hO c' }; { rw [if_neg e]; have hk' : k < 16 := hk; exact (ow (i3 k (by omega))).only hO o' (by omega) }
  ·
    have e16 : ¬ nI n = 16 := fun e => en (nI_eqc (b := 16) e (by omega) (by omega))
    refine R_in rfl rfl ?_
    refine R_gs 6 rfl ?_
    rw [e1]
    refine W_bf rfl (e16) ?_
    refine R_gs 66 rfl ?_
    rw [e1, show (40 : Int32) * (5 + nI n) = nI (40 * (5 + n)) from ix_mul (ix_lit 40) (ix_add (ix_lit 5) rfl)]
    refine R_k rfl rfl (m_copies (f := 0) (n := 34) (by omega) (by omega) (by omega) (fun s' f' o' c' => ?_))
    refine R_gs 79 rfl ?_
    refine W_f rfl (by first | rfl | exact ⟨rfl, by first | decide | assumption | exact Or.inl rfl | exact Or.inr rfl | exact b2i_01 _⟩) ?_
    have F2 := f'.mono (Y := fun q => Nat.beq q 251 || Nat.beq q 235) (fun q hq => by show (_ || _) = true; rw [hq]; rfl)
    have g25 : hI s' 235 25 = nI n := by rw [f'.I rfl]; exact e1
    have en2 : hputN n = n + 1 := by unfold hputN; rw [if_neg en]
    refine h1 _ (F2.wI rfl) (fun k hk => ?_) (fun k hk => o' k (by omega)) ⟨?_, fun k hk => ?_⟩
    · rw [wI_at, if_neg hk, f'.I rfl]
    · rw [wI_at, if_pos rfl, g25, en2, nI_1]
    · refine SceneM.fr (?_ : SceneM s' _ L _) ((Fr.refl (fun q => Nat.beq q 235) s').wI rfl) rfl; rw [en2] at hk; unfold hputS; rw [if_neg en]; by_cases e : k = n; { subst e; rw [if_pos rfl]; exact hS.cp hO c' }; { rw [if_neg e]; exact (e2 k (by omega)).only hO o' (by omega) }
end
