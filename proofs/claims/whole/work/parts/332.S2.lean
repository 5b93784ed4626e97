/-! letters, packed, tell the words apart -/
def vl (B : Nat) : List Nat → Nat
  | [] => 0
  | c :: r => B * vl B r + c
theorem vl_inj {B : Nat} : ∀ (r r' : List Nat), (∀ c, c ∈ r → 0 < c ∧ c < B) → (∀ c, c ∈ r' → 0 < c ∧ c < B) → vl B r = vl B r' → r = r'
  | [], [], _, _, _ => rfl
  | [], c :: r', _, h, e => by
    have := h c List.mem_cons_self
    have e : 0 = B * vl B r' + c := e
    omega
  | c :: r, [], h, _, e => by
    have := h c List.mem_cons_self
    have e : B * vl B r + c = 0 := e
    omega
  | c :: r, c' :: r', h, h', e => by
    have e : B * vl B r + c = B * vl B r' + c' := e
    have hc := h c List.mem_cons_self
    have hc' := h' c' List.mem_cons_self
    have e1 : c = c' := by
      have := congrArg (· % B) e
      simp only [Nat.mul_add_mod, Nat.mod_eq_of_lt hc.2, Nat.mod_eq_of_lt hc'.2] at this
      exact this
    subst e1
    have e2 : vl B r = vl B r' := Nat.eq_of_mul_eq_mul_left (by omega : 0 < B) (by omega)
    rw [vl_inj r r' (fun x hx => h x (List.mem_cons_of_mem _ hx)) (fun x hx => h' x (List.mem_cons_of_mem _ hx)) e2]
theorem pkC_vl (l : List Nat) : pkC l = vl 256 l.reverse := by
  unfold pkC
  rw [← List.foldr_reverse]
  generalize l.reverse = r
  induction r with
  | nil => rfl
  | cons c r ih => rw [List.foldr_cons, ih]; rfl
theorem pkM_vl (l : List Nat) : pkM l = vl 37 (l.reverse.map (fun c => c - 96)) := by
  unfold pkM
  rw [← List.foldr_reverse]
  generalize l.reverse = r
  induction r with
  | nil => rfl
  | cons c r ih => rw [List.foldr_cons, ih]; rfl
theorem pkC_inj {l l' : List Nat} (h : LtO l) (h' : LtO l') : pkC l = pkC l' ↔ l = l' := by
  refine ⟨fun e => ?_, fun e => by rw [e]⟩
  rw [pkC_vl, pkC_vl] at e
  have := vl_inj _ _ (fun c hc => by have := h.2.2 c (List.mem_reverse.mp hc); omega) (fun c hc => by have := h'.2.2 c (List.mem_reverse.mp hc); omega) e
  exact List.reverse_inj.mp this
theorem map_inj96 : ∀ (l l' : List Nat), (∀ c, c ∈ l → 97 ≤ c) → (∀ c, c ∈ l' → 97 ≤ c) → l.map (fun c => c - 96) = l'.map (fun c => c - 96) → l = l'
  | [], [], _, _, _ => rfl
  | [], _ :: _, _, _, e => by simp at e
  | _ :: _, [], _, _, e => by simp at e
  | c :: l, c' :: l', h, h', e => by
    rw [List.map_cons, List.map_cons, List.cons.injEq] at e
    have h1 := h c List.mem_cons_self
    have h2 := h' c' List.mem_cons_self
    rw [map_inj96 l l' (fun x hx => h x (List.mem_cons_of_mem _ hx)) (fun x hx => h' x (List.mem_cons_of_mem _ hx)) e.2, show c = c' by omega]
theorem pkM_inj {l l' : List Nat} (h : LtO l) (h' : LtO l') : pkM l = pkM l' ↔ l = l' := by
  refine ⟨fun e => ?_, fun e => by rw [e]⟩
  rw [pkM_vl, pkM_vl] at e
  have := vl_inj _ _ (fun c hc => by obtain ⟨x, hx, rfl⟩ := List.mem_map.mp hc; have := h.2.2 x (List.mem_reverse.mp hx); omega) (fun c hc => by obtain ⟨x, hx, rfl⟩ := List.mem_map.mp hc; have := h'.2.2 x (List.mem_reverse.mp hx); omega) e
  have := map_inj96 _ _ (fun c hc => (h.2.2 c (List.mem_reverse.mp hc)).1) (fun c hc => (h'.2.2 c (List.mem_reverse.mp hc)).1) this
  exact List.reverse_inj.mp this
theorem LtO.b {l : List Nat} (h : LtO l) : pkC l < 2 ^ 63 := pkC_b h.2.1 (fun c hc => (h.2.2 c hc).2)
theorem pkMF {l : List Nat} : ∀ {v : Nat}, (∀ c, c ∈ l → c ≤ 122) → l.foldl (fun v c => 37 * v + (c - 96)) v < (v + 1) * 37 ^ l.length := by
  induction l with
  | nil => intro v _; show v < (v + 1) * 1; omega
  | cons c l ih =>
    intro v h
    have h1 := ih (v := 37 * v + (c - 96)) (fun x hx => h x (List.mem_cons_of_mem _ hx))
    have h2 := h c List.mem_cons_self
    show l.foldl _ (37 * v + (c - 96)) < _
    refine Nat.lt_of_lt_of_le h1 ?_
    rw [List.length_cons, Nat.pow_succ, Nat.mul_comm (37 ^ l.length) 37, ← Nat.mul_assoc]
    exact Nat.mul_le_mul_right _ (by omega)
theorem LtO.bM {l : List Nat} (h : LtO l) : pkM l < 2 ^ 63 := by
  refine Nat.lt_of_lt_of_le (pkMF (v := 0) (fun c hc => (h.2.2 c hc).2)) ?_
  rw [Nat.zero_add, Nat.one_mul]
  exact Nat.le_trans (Nat.pow_le_pow_right (by decide) h.2.1) (by decide)
def NmO (N : SN') : Prop := N.1 ≤ 15 ∧ ∀ k, k < N.1 → (N.2 k).1 ≤ 2 ∧ LtO (N.2 k).2.1 ∧ (N.2 k).2.2 < 6
section
variable {d a : Nat} {h h' : AH} {K : TKs} {s : RS} {N : SN'} {Q : Option Value → AH → Prop}
theorem CF.tok (c : CF h K s) : va_rf (hR h 1 7) = .ref (1000 + tk K s.1) := by rw [c.2.1.2.2.1]; rfl
theorem CF.fz (c : CF h K s) : hI h 6 1 = 0 ↔ s.2 = 0 := by
  rw [c.2.2.1]
  exact nI_eq (b := 0) (by have := c.2.2.2; omega) (by omega)
theorem CF.tg (c : CF h K s) (kO : TokOK K) : TkG (K.2 s.1) := kO.2.1 s.1 c.2.1.1
theorem CF.t38 (c : CF h K s) (kO : TokOK K) : tk K s.1 < 38 := (c.tg kO).1
theorem CF.fr (c : CF h K s) {X : Nat → Bool} (f : Fr X h h') (x1 : X 1 = false) (x3 : X 3 = false) (x4 : X 4 = false) (x5 : X 5 = false) (x6 : X 6 = false) : CF h' K s := by
  obtain ⟨⟨a1, a2⟩, ⟨b1, b2, b3, b4, b5, b6⟩, c3, c4⟩ := c
  refine ⟨⟨by rw [f.I x1]; exact a1, fun i hi => ?_⟩, ⟨b1, by rw [f.I x1]; exact b2, by rw [f.R x1]; exact b3, by rw [f.I x1]; exact b4, by rw [f.J x1]; exact b5, by rw [f.J x1]; exact b6⟩, by rw [f.I x6]; exact c3, c4⟩
  have := a2 i hi
  unfold TkX at *
  rw [f.R x3, f.I x4, f.J x5]; exact this
theorem CF.f6 (c : CF h K s) {v : Nat} (hv : v ≤ 20000) : CF (wI h 6 1 (nI v)) K (s.1, v) := ⟨⟨c.1.1, c.1.2⟩, ⟨c.2.1.1, c.2.1.2.1, c.2.1.2.2.1, c.2.1.2.2.2.1, c.2.1.2.2.2.2.1, c.2.1.2.2.2.2.2⟩, rfl, hv⟩
theorem bl_n {b : Bool} {k : Nat} (hs : b = false ∨ ¬ s.2 = 0) : bl K b k s = s := by
  unfold bl
  rcases hs with e | e
  · rw [e]; rfl
  · rw [decide_eq_false e, Bool.and_false]; rfl
theorem bl_y {k : Nat} (hs : s.2 = 0) : bl K true k s = (s.1, k + 16 * tb K s.1) := by
  unfold bl; rw [decide_eq_true hs]; rfl
theorem bl_1 {b : Bool} {k : Nat} : (bl K b k s).1 = s.1 := by unfold bl; split <;> rfl
theorem c_blame (kO : TokOK K) {k : Nat} (hk : k ≤ 5) (c : CF h K s) (h1 : ∀ h', Fr xrd h h' → CF h' K (bl K true k s) → Q none h') : Rc (d + 1) m_X8_blame [.ref 6, .int (nI k)] h Q := by
  have b4 : tb K s.1 ≤ 1000 := (c.tg kO).2.1
  have e8 : hI h 1 8 = nI (tb K s.1) := c.2.1.2.2.2.1
  refine R_in rfl rfl ?_
  refine R_gs 4 rfl ?_
  refine W_b rfl (fun hc4 => ?_) (fun hc4 => ?_)
  ·
    rw [c.fz] at hc4
    refine R_gs 23 rfl ?_
    try rw [e8]
    refine W_f rfl (by first | rfl | exact ⟨rfl, by first | decide | assumption | exact Or.inl rfl | exact Or.inr rfl | exact b2i_01 _⟩) ?_
    rw [bl_y hc4] at h1; rw [show nI k + 16 * nI (tb K s.1) = nI (k + 16 * tb K s.1) from by rw [show (16 : Int32) = nI 16 from rfl, nI_mul, nI_add]]; exact h1 _ ((Fr.refl _ h).wI rfl) (c.f6 (by omega))
  ·
    rw [c.fz] at hc4
    refine W_f rfl (by first | rfl | exact ⟨rfl, by first | decide | assumption | exact Or.inl rfl | exact Or.inr rfl | exact b2i_01 _⟩) ?_
    rw [bl_n (Or.inr hc4)] at h1; exact h1 _ (Fr.refl _ h) c
theorem c_blameIf (kO : TokOK K) {b : Bool} {k : Nat} (hk : k ≤ 5) (c : CF h K s) (h1 : ∀ h', Fr xrd h h' → CF h' K (bl K b k s) → Q none h') : Rc (d + 2) m_X8_blameIf [.ref 6, .int (b2i b), .int (nI k)] h Q := by
  cases b with
  | false =>
    refine R_in rfl rfl ?_
    refine R_gs 1 rfl ?_
    refine W_bt rfl (by decide) ?_
    refine W_f rfl (by first | rfl | exact ⟨rfl, by first | decide | assumption | exact Or.inl rfl | exact Or.inr rfl | exact b2i_01 _⟩) ?_
    exact h1 _ (Fr.refl _ h) c
  | true =>
    refine R_in rfl rfl ?_
    refine R_gs 1 rfl ?_
    refine W_bf rfl (by decide) ?_
    refine R_gs 6 rfl ?_
    refine R_k rfl rfl (c_blame kO hk c (fun h2 f2 c2 => ?_))
    refine W_f rfl (by first | rfl | exact ⟨rfl, by first | decide | assumption | exact Or.inl rfl | exact Or.inr rfl | exact b2i_01 _⟩) ?_
    exact h1 _ f2 c2
theorem c_step (kO : TokOK K) (c : CF h K s) (h1 : ∀ h', Fr xrd h h' → CF h' K (sp K s) → Q none h') : Rc (d + 2) m_X8_step [.ref 6] h Q := by
  unfold sp at h1
  refine R_in rfl rfl ?_
  refine R_gs 4 rfl ?_
  refine W_b rfl (fun hc4 => ?_) (fun hc4 => ?_)
  ·
    rw [c.fz] at hc4
    refine R_gs 11 rfl ?_
    refine R_k rfl rfl (c_advance c.1 kO.1 (fun i hi => (kO.2.1 i hi).1) c.2.1 (fun h2 f2 x2 u2 => ?_))
    refine W_f rfl (by first | rfl | exact ⟨rfl, by first | decide | assumption | exact Or.inl rfl | exact Or.inr rfl | exact b2i_01 _⟩) ?_
    rw [if_pos hc4] at h1; exact h1 _ (f2.mono (fun q hq => by have := Nat.eq_of_beq_eq_true hq; subst this; rfl)) ⟨c.1.fr f2 x2.2, u2, (congrFun (f2.I (b := 6) rfl) 1).trans (c.2.2.1.trans (by rw [hc4])), Nat.zero_le _⟩
  ·
    rw [c.fz] at hc4
    refine W_f rfl (by first | rfl | exact ⟨rfl, by first | decide | assumption | exact Or.inl rfl | exact Or.inr rfl | exact b2i_01 _⟩) ?_
    rw [if_neg hc4] at h1; exact h1 _ (Fr.refl _ h) c
theorem c_expect (kO : TokOK K) {t : Nat} (ht : t < 38) (c : CF h K s) (h1 : ∀ h', Fr xrd h h' → CF h' K (ex K t s) → Q none h') : Rc (d + 3) m_X8_expect [.ref 6, .ref (1000 + t)] h Q := by
  have t1 := c.t38 kO
  refine R_in rfl rfl ?_
  refine R_gs 8 rfl ?_
  rw [c.tok]
  refine R_gs 9 rfl ?_
  refine R_jdn 17 (!decide (tk K s.1 = t)) rfl (by omega) (by omega) (by omega) (by omega) (by rw [Bool.not_eq_false', decide_eq_true_eq]; constructor <;> intro _ <;> omega) rfl rfl ?_
  refine R_gs 18 rfl ?_
  refine R_k rfl rfl (c_blameIf kO (k := 1) (by decide) c (fun h2 f2 c2 => ?_))
  refine R_gs 22 rfl ?_
  refine R_k rfl rfl (c_step kO c2 (fun h3 f3 c3 => ?_))
  refine W_f rfl (by first | rfl | exact ⟨rfl, by first | decide | assumption | exact Or.inl rfl | exact Or.inr rfl | exact b2i_01 _⟩) ?_
  exact h1 _ (f2.trans f3) c3
theorem SH_t {t : Nat} (ht : t < 38) : (SH (1000 + t)).1 = 20 ∧ (1000 + t < 262 ∨ 1000 ≤ 1000 + t) := ⟨by rw [SH_tk t ht], Or.inr (Nat.le_add_right 1000 t)⟩
theorem tkF1 {t : Nat} (ht : t < 38) : tkF 1 (1000 + t - 1000) = .int (nI (rol t)) := by rw [Nat.add_sub_cancel_left, ← (rol_L t ht).1]; rfl
theorem tkF2 {t : Nat} : tkF 2 (1000 + t - 1000) = .int (mea t) := by rw [Nat.add_sub_cancel_left]; rfl
theorem c_isName {t : Nat} (ht : t < 38) (h1 : Q (some (.int (b2i (isNm t)))) h) : Rc (d + 1) m_X11_isName [.ref (1000 + t)] h Q := by
  have r6 := (rol_L t ht).2
  unfold isNm at h1
  refine R_in rfl rfl ?_
  refine R_gs 4 rfl ?_
  refine W_d rfl (by omega) (by omega) (by omega) (by omega) (fun hc4 => ?_) (fun hc4 => ?_)
  ·
    refine R_gs 20 rfl ?_
    refine W_f rfl (by first | rfl | exact ⟨rfl, by first | decide | assumption | exact Or.inl rfl | exact Or.inr rfl | exact b2i_01 _⟩) ?_
    rw [decide_eq_true (show t = 3 by omega)] at h1; exact h1
  ·
    refine R_gs 8 rfl ?_
    refine W_c rfl (SH_t ht) ?_
    rw [tkF1 ht]
    refine R_gs 12 rfl ?_
    refine W_b rfl (fun hc12 => ?_) (fun hc12 => ?_)
    ·
      rw [show (nI (rol t) = 4 ↔ rol t = 4) from nI_eq (b := 4) (by omega) (by omega)] at hc12
      refine R_gs 20 rfl ?_
      refine W_f rfl (by first | rfl | exact ⟨rfl, by first | decide | assumption | exact Or.inl rfl | exact Or.inr rfl | exact b2i_01 _⟩) ?_
      rw [decide_eq_true hc12, Bool.or_true] at h1; exact h1
    ·
      rw [show (nI (rol t) = 4 ↔ rol t = 4) from nI_eq (b := 4) (by omega) (by omega)] at hc12
      refine R_gs 20 rfl ?_
      refine W_f rfl (by first | rfl | exact ⟨rfl, by first | decide | assumption | exact Or.inl rfl | exact Or.inr rfl | exact b2i_01 _⟩) ?_
      rw [decide_eq_false (show ¬ t = 3 by omega), decide_eq_false hc12] at h1; exact h1
theorem c_startsPart {t : Nat} (ht : t < 38) (h1 : Q (some (.int (b2i (stPt t)))) h) : Rc (d + 1) m_X11_startsPart [.ref (1000 + t)] h Q := by
  have r6 := (rol_L t ht).2
  unfold stPt at h1
  refine R_in rfl rfl ?_
  refine R_gs 4 rfl ?_
  refine W_d rfl (by omega) (by omega) (by omega) (by omega) (fun hc4 => ?_) (fun hc4 => ?_)
  ·
    refine R_gs 34 rfl ?_
    refine W_f rfl (by first | rfl | exact ⟨rfl, by first | decide | assumption | exact Or.inl rfl | exact Or.inr rfl | exact b2i_01 _⟩) ?_
    rw [decide_eq_true (show t = 2 by omega)] at h1; exact h1
  ·
    refine R_gs 11 rfl ?_
    refine W_d rfl (by omega) (by omega) (by omega) (by omega) (fun hc11 => ?_) (fun hc11 => ?_)
    ·
      refine R_gs 34 rfl ?_
      refine W_f rfl (by first | rfl | exact ⟨rfl, by first | decide | assumption | exact Or.inl rfl | exact Or.inr rfl | exact b2i_01 _⟩) ?_
      rw [decide_eq_true (show t = 27 by omega), Bool.true_or, Bool.or_true] at h1; exact h1
    ·
      refine R_gs 18 rfl ?_
      refine W_d rfl (by omega) (by omega) (by omega) (by omega) (fun hc18 => ?_) (fun hc18 => ?_)
      ·
        refine R_gs 34 rfl ?_
        refine W_f rfl (by first | rfl | exact ⟨rfl, by first | decide | assumption | exact Or.inl rfl | exact Or.inr rfl | exact b2i_01 _⟩) ?_
        rw [decide_eq_true (show t = 4 by omega), Bool.true_or, Bool.or_true, Bool.or_true] at h1; exact h1
      ·
        refine R_gs 22 rfl ?_
        refine W_c rfl (SH_t ht) ?_
        rw [tkF1 ht]
        refine R_gs 26 rfl ?_
        refine W_b rfl (fun hc26 => ?_) (fun hc26 => ?_)
        ·
          rw [show (nI (rol t) = 4 ↔ rol t = 4) from nI_eq (b := 4) (by omega) (by omega)] at hc26
          refine R_gs 34 rfl ?_
          refine W_f rfl (by first | rfl | exact ⟨rfl, by first | decide | assumption | exact Or.inl rfl | exact Or.inr rfl | exact b2i_01 _⟩) ?_
          rw [decide_eq_true hc26, Bool.or_true, Bool.or_true, Bool.or_true] at h1; exact h1
        ·
          rw [show (nI (rol t) = 4 ↔ rol t = 4) from nI_eq (b := 4) (by omega) (by omega)] at hc26
          refine R_gs 34 rfl ?_
          refine W_f rfl (by first | rfl | exact ⟨rfl, by first | decide | assumption | exact Or.inl rfl | exact Or.inr rfl | exact b2i_01 _⟩) ?_
          rw [decide_eq_false (show ¬ t = 2 by omega), decide_eq_false (show ¬ t = 27 by omega), decide_eq_false (show ¬ t = 4 by omega), decide_eq_false hc26] at h1; exact h1
theorem fnN_s {σ : Nat} {l : List Nat} {j m : Nat} : fnN N σ l j (m + 1) = if (N.2 j).2.1 = l ∧ (N.2 j).1 = σ then nI (N.2 j).2.2 else fnN N σ l (j + 1) m := rfl
theorem c_find (ha : a = 143 ∨ a = 171) (hN : NamC h a N) (nO : NmO N) {l : List Nat} (hl : LtO l) {σ : Nat} (hσ : σ ≤ 2) (h1 : Q (some (.int (fnd N σ l))) h) : Rc (d + 1) m_X7_find [.ref a, .ref (1007 + σ), .long (lN64 (pkC l))] h Q := by
  have n1 := nO.1
  rcases ha with rfl | rfl
  all_goals
    have n3 := hN.1
    refine R_in rfl rfl ?_
    refine R_gs 3 rfl ?_
    refine w_inv (W := fun j (_ : Unit) => Rw d Q (m_X7_find, 3, [some (.ref _), some (.ref (1007 + σ)), some (.long (lN64 (pkC l))), none, some (.int (nI j))], [], 262, h)) N.1 (fun j _ => Q (some (.int (fnN N σ l j (N.1 - j)))) h) (s0 := ()) h1 (fun j _ hj hi w => ?_) (fun _ hi => ?_)
    ·
      rw [show N.1 - j = N.1 - (j + 1) + 1 by omega, fnN_s] at hi
      have nj := nO.2 j hj
      obtain ⟨q1, q2, q3⟩ := hN.2 j hj
      refine R_gs 9 rfl ?_
      try rw [n3]
      refine W_bf rfl (fun e => absurd ((nI_leI (by omega) (by omega)).mp e) (by omega)) ?_
      refine R_gs 18 rfl ?_
      refine R_ll rfl rfl (ix_nI _) (by omega) q1 ?_
      refine R_gs 21 rfl ?_
      refine W_b rfl (fun hc21 => ?_) (fun hc21 => ?_)
      ·
        rw [lg_eq, l64_eq nj.2.1.b hl.b, pkC_inj nj.2.1 hl] at hc21
        refine R_gs 30 rfl ?_
        refine R_tl rfl rfl rfl (ix_nI _) (by omega) (v := .ref (1007 + (N.2 j).1)) (by show va_rf (hR h _ j) = _; rw [q3]; rfl) ?_
        refine R_gs 32 rfl ?_
        refine W_d rfl (by omega) (by omega) (by omega) (by omega) (fun hc32 => ?_) (fun hc32 => ?_)
        ·
          refine R_gs 41 rfl ?_
          refine R_il rfl rfl (ix_nI _) (by omega) q2 ?_
          refine W_f rfl (by first | rfl | exact ⟨rfl, by first | decide | assumption | exact Or.inl rfl | exact Or.inr rfl | exact b2i_01 _⟩) ?_
          rw [if_pos ⟨hc21, by omega⟩] at hi; exact hi
        ·
          refine R_gs 3 rfl ?_
          rw [nI_1]; rw [if_neg (fun e => hc32 (by omega))] at hi; exact w () hi
      ·
        rw [lg_eq, l64_eq nj.2.1.b hl.b, pkC_inj nj.2.1 hl] at hc21
        refine R_gs 3 rfl ?_
        rw [nI_1]; rw [if_neg (fun e => hc21 e.1)] at hi; exact w () hi
    ·
      rw [Nat.sub_self] at hi
      refine R_gs 9 rfl ?_
      try rw [n3]
      refine W_bt rfl (Int32.le_refl _) ?_
      refine R_gs 50 rfl ?_
      refine W_f rfl (by first | rfl | exact ⟨rfl, by first | decide | assumption | exact Or.inl rfl | exact Or.inr rfl | exact b2i_01 _⟩) ?_
      exact hi
end
