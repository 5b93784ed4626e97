/-! a truth that is laid by a branch: both sides meet again -/
section
variable {d : Nat} {Q : Option Value → AH → Prop} {σ σ1 σ0 : AS} {c : Prop} {μ pc : Nat} {lv : AL} {st : List Value} {h : AH} {x y : Nat}
theorem R_j (stop : Nat) (b : Bool) (e : b1 σ = some (c, σ1, σ0)) (hb : b = true ↔ c) (e1 : sgo ρ1 stop 400 σ1 = some (μ, pc, lv, .int 1 :: st, 262, h)) (e0 : sgo ρ1 stop 400 σ0 = some (μ, pc, lv, .int 0 :: st, 262, h)) (w : Rw d Q (μ, pc, lv, .int (b2i b) :: st, 262, h)) : Rw d Q σ := by
  refine W_b e (fun hc => R_gs stop e1 ?_) (fun hc => R_gs stop e0 ?_)
  · rw [hb.mpr hc] at w; exact w
  · cases b with
    | false => exact w
    | true => exact absurd (hb.mp rfl) hc
theorem R_jn (stop : Nat) (b : Bool) (e : b1 σ = some (c, σ1, σ0)) (hb : b = false ↔ c) (e1 : sgo ρ1 stop 400 σ1 = some (μ, pc, lv, .int 0 :: st, 262, h)) (e0 : sgo ρ1 stop 400 σ0 = some (μ, pc, lv, .int 1 :: st, 262, h)) (w : Rw d Q (μ, pc, lv, .int (b2i b) :: st, 262, h)) : Rw d Q σ := by
  refine W_b e (fun hc => R_gs stop e1 ?_) (fun hc => R_gs stop e0 ?_)
  · rw [hb.mpr hc] at w; exact w
  · cases b with
    | true => exact w
    | false => exact absurd (hb.mp rfl) hc
theorem R_jd (stop : Nat) (b : Bool) (e : d1 σ = some (x, y, σ1, σ0)) (h1 : 1000 ≤ x) (h2 : x < 1038) (h3 : 1000 ≤ y) (h4 : y < 1038) (hb : b = true ↔ x = y) (e1 : sgo ρ1 stop 400 σ1 = some (μ, pc, lv, .int 1 :: st, 262, h)) (e0 : sgo ρ1 stop 400 σ0 = some (μ, pc, lv, .int 0 :: st, 262, h)) (w : Rw d Q (μ, pc, lv, .int (b2i b) :: st, 262, h)) : Rw d Q σ := by
  refine W_d e h1 h2 h3 h4 (fun hc => R_gs stop e1 ?_) (fun hc => R_gs stop e0 ?_)
  · rw [hb.mpr hc] at w; exact w
  · cases b with
    | false => exact w
    | true => exact absurd (hb.mp rfl) hc
theorem R_jdn (stop : Nat) (b : Bool) (e : d1 σ = some (x, y, σ1, σ0)) (h1 : 1000 ≤ x) (h2 : x < 1038) (h3 : 1000 ≤ y) (h4 : y < 1038) (hb : b = false ↔ x = y) (e1 : sgo ρ1 stop 400 σ1 = some (μ, pc, lv, .int 0 :: st, 262, h)) (e0 : sgo ρ1 stop 400 σ0 = some (μ, pc, lv, .int 1 :: st, 262, h)) (w : Rw d Q (μ, pc, lv, .int (b2i b) :: st, 262, h)) : Rw d Q σ := by
  refine W_d e h1 h2 h3 h4 (fun hc => R_gs stop e1 ?_) (fun hc => R_gs stop e0 ?_)
  · rw [hb.mpr hc] at w; exact w
  · cases b with
    | true => exact w
    | false => exact absurd (hb.mp rfl) hc
end
theorem b2i_01 (b : Bool) : b2i b = 0 ∨ b2i b = 1 := by cases b; exact Or.inl rfl; exact Or.inr rfl
/-- receivers that are known by their bounds alone -/
theorem q_tk {t : Nat} (ht : t < 38) : q_rc 262 12 [.ref (1000 + t)] = true := by
  show Nat.beq (SH (1000 + t)).1 20 = true
  rw [SH_tk t ht]; rfl
theorem q_tk4 {t : Nat} (ht : t < 38) : q_rc 262 14 [.ref (1000 + t)] = true := by
  show Nat.beq (SH (1000 + t)).1 20 = true
  rw [SH_tk t ht]; rfl
/-! reading: where one stands, and the fault (0: none) -/
abbrev RS : Type := Nat × Nat
def tk (K : TKs) (i : Nat) : Nat := (K.2 i).1
def tb (K : TKs) (i : Nat) : Nat := (K.2 i).2.1
def tn (K : TKs) (i : Nat) : Nat := (K.2 i).2.2.1
def tl (K : TKs) (i : Nat) : List Nat := (K.2 i).2.2.2
def rol (t : Nat) : Nat := [6, 6, 6, 6, 6, 6, 6, 6, 6, 6, 6, 6, 6, 6, 6, 6, 6, 6, 6, 6, 6, 6, 6, 5, 5, 5, 5, 6, 0, 0, 1, 1, 2, 2, 3, 4, 4, 4].getD t 6
def mea (t : Nat) : Int32 := TKM.getD t 0
theorem rol_L : ∀ t, t < 38 → TKR.getD t 0 = nI (rol t) ∧ rol t ≤ 6 := by decide +kernel
def bl (K : TKs) (b : Bool) (k : Nat) (s : RS) : RS := if (b && decide (s.2 = 0)) = true then (s.1, k + 16 * tb K s.1) else s
def sp (K : TKs) (s : RS) : RS := if s.2 = 0 then (nxI K s.1, 0) else s
def ex (K : TKs) (t : Nat) (s : RS) : RS := sp K (bl K (!decide (tk K s.1 = t)) 1 s)
def isNm (t : Nat) : Bool := decide (t = 3) || decide (rol t = 4)
def stPt (t : Nat) : Bool := decide (t = 2) || (decide (t = 27) || (decide (t = 4) || decide (rol t = 4)))
/-- what is known of all tokens of a text -/
def TkG (x : TK) : Prop := x.1 < 38 ∧ x.2.1 ≤ 1000 ∧ (x.1 = 2 → x.2.2.1 ≤ 9999) ∧ (srt x.1 = 1 → LtO x.2.2.2 ∧ x.1 = tokW x.2.2.2) ∧ (srt x.1 ≠ 1 → x.2.2.2 = [])
def TokOK (K : TKs) : Prop := K.1 ≤ 1001 ∧ (∀ i, i < K.1 → TkG (K.2 i)) ∧ 0 < K.1 ∧ tk K (K.1 - 1) = 0 ∧ ∀ i, i + 1 < K.1 → tk K i ≠ 0
/-- the reader of the class stands there -/
def CF (h : AH) (K : TKs) (s : RS) : Prop := TkC h K ∧ CurC h K s.1 ∧ hI h 6 1 = nI s.2 ∧ s.2 ≤ 20000
def xrd (q : Nat) : Bool := Nat.beq q 1 || Nat.beq q 6
theorem xrd_f {q : Nat} (h1 : q ≠ 1) (h6 : q ≠ 6) : xrd q = false := by unfold xrd; rw [bq_f h1, bq_f h6]; rfl
theorem nmW : ∀ t, t < 38 → isNm t = true → srt t = 1 ∧ t ≠ 0 ∧ t ≠ 2 := by decide +kernel
/-- names that are told: the number of a name of a sort -/
def fnN (N : SN') (σ : Nat) (l : List Nat) : Nat → Nat → Int32
  | _, 0 => -1
  | j, m + 1 => if (N.2 j).2.1 = l ∧ (N.2 j).1 = σ then nI (N.2 j).2.2 else fnN N σ l (j + 1) m
def fnd (N : SN') (σ : Nat) (l : List Nat) : Int32 := fnN N σ l 0 N.1
def hsN (N : SN') (l : List Nat) : Bool := anyN N.1 (fun j => decide ((N.2 j).2.1 = l))
/-- looking a name up; a known name; a number -/
def lu (K : TKs) (N : SN') (σ : Nat) (s : RS) : RS × Int32 :=
  let s1 := bl K (!isNm (tk K s.1)) 1 s
  let n := if s1.2 = 0 then fnd N σ (tl K s.1) else -1
  (bl K (decide (n = -1)) 2 s1, n)
def rk (K : TKs) (N : SN') (σ : Nat) (s : RS) : RS × Int32 := (sp K (lu K N σ s).1, (lu K N σ s).2)
def rn (K : TKs) (least : Nat) (s : RS) : RS := sp K (bl K (decide (tn K s.1 < least) || decide (9 < tn K s.1)) 4 (bl K (!decide (tk K s.1 = 2)) 1 s))
/-! laws: what is laid for the parts -/
abbrev EX : Type := RS → RS × List Int32
def jl (K : TKs) (X : EX) (l : Nat) : Nat → RS × List Int32 → RS × List Int32
  | 0, z => z
  | m + 1, z => if z.1.2 = 0 ∧ rol (tk K z.1.1) = l then jl K X l m ((X (sp K z.1)).1, z.2 ++ ((X (sp K z.1)).2 ++ [mea (tk K z.1.1)])) else z
def JL (K : TKs) (l m : Nat) (X : EX) : EX := fun s => jl K X l m (X s)
def eJ (K : TKs) (P : EX) : Nat → EX
  | 0 => JL K 0 1000 (JL K 1 1 (JL K 2 1000 (JL K 3 1000 P)))
  | 1 => JL K 1 1 (JL K 2 1000 (JL K 3 1000 P))
  | 2 => JL K 2 1000 (JL K 3 1000 P)
  | 3 => JL K 3 1000 P
  | _ => P
/-- a part; the first number is how many may still be around what is in it -/
def eP (K : TKs) : Nat → EX
  | 0 => fun s => (bl K true 5 (bl K (!stPt (tk K s.1)) 1 s), [])
  | a + 1 => fun s =>
    let s1 := sp K (bl K (!stPt (tk K s.1)) 1 s)
    if s1.2 = 0 then
      (if tk K s.1 = 27 then ((eP K a s1).1, (eP K a s1).2 ++ [-4])
      else if tk K s.1 = 4 then (ex K 5 (eJ K (eP K a) 0 s1).1, (eJ K (eP K a) 0 s1).2)
      else (s1, [if tk K s.1 = 2 then nI (tn K s.1) else mea (tk K s.1)]))
    else (s1, [])
def eE (K : TKs) : EX := eJ K (eP K 5) 0

/-! letters, packed, tell the words apart -/
def vl (B : Nat) : List Nat → Nat
  | [] => 0
  | c :: r => B * vl B r + c
theorem vl_inj {B : Nat} : ∀ (r r' : List Nat), (∀ c, c ∈ r → 0 < c ∧ c < B) → (∀ c, c ∈ r' → 0 < c ∧ c < B) → vl B r = vl B r' → r = r'
  | [], [], _, _, _ => rfl
  | [], c :: r', _, h, e => by
    have := h c List.mem_cons_self
    have e : 0 = B * vl B r' + c := e
    omega
  | c :: r, [], h, _, e => by
    have := h c List.mem_cons_self
    have e : B * vl B r + c = 0 := e
    omega
  | c :: r, c' :: r', h, h', e => by
    have e : B * vl B r + c = B * vl B r' + c' := e
    have hc := h c List.mem_cons_self
    have hc' := h' c' List.mem_cons_self
    have e1 : c = c' := by
      have := congrArg (· % B) e
      simp only [Nat.mul_add_mod, Nat.mod_eq_of_lt hc.2, Nat.mod_eq_of_lt hc'.2] at this
      exact this
    subst e1
    have e2 : vl B r = vl B r' := Nat.eq_of_mul_eq_mul_left (by omega : 0 < B) (by omega)
    rw [vl_inj r r' (fun x hx => h x (List.mem_cons_of_mem _ hx)) (fun x hx => h' x (List.mem_cons_of_mem _ hx)) e2]
theorem pkC_vl (l : List Nat) : pkC l = vl 256 l.reverse := by
  unfold pkC
  rw [← List.foldr_reverse]
  generalize l.reverse = r
  induction r with
  | nil => rfl
  | cons c r ih => rw [List.foldr_cons, ih]; rfl
theorem pkM_vl (l : List Nat) : pkM l = vl 37 (l.reverse.map (fun c => c - 96)) := by
  unfold pkM
  rw [← List.foldr_reverse]
  generalize l.reverse = r
  induction r with
  | nil => rfl
  | cons c r ih => rw [List.foldr_cons, ih]; rfl
theorem pkC_inj {l l' : List Nat} (h : LtO l) (h' : LtO l') : pkC l = pkC l' ↔ l = l' := by
  refine ⟨fun e => ?_, fun e => by rw [e]⟩
  rw [pkC_vl, pkC_vl] at e
  have := vl_inj _ _ (fun c hc => by have := h.2.2 c (List.mem_reverse.mp hc); omega) (fun c hc => by have := h'.2.2 c (List.mem_reverse.mp hc); omega) e
  exact List.reverse_inj.mp this
theorem map_inj96 : ∀ (l l' : List Nat), (∀ c, c ∈ l → 97 ≤ c) → (∀ c, c ∈ l' → 97 ≤ c) → l.map (fun c => c - 96) = l'.map (fun c => c - 96) → l = l'
  | [], [], _, _, _ => rfl
  | [], _ :: _, _, _, e => by simp at e
  | _ :: _, [], _, _, e => by simp at e
  | c :: l, c' :: l', h, h', e => by
    rw [List.map_cons, List.map_cons, List.cons.injEq] at e
    have h1 := h c List.mem_cons_self
    have h2 := h' c' List.mem_cons_self
    rw [map_inj96 l l' (fun x hx => h x (List.mem_cons_of_mem _ hx)) (fun x hx => h' x (List.mem_cons_of_mem _ hx)) e.2, show c = c' by omega]
theorem pkM_inj {l l' : List Nat} (h : LtO l) (h' : LtO l') : pkM l = pkM l' ↔ l = l' := by
  refine ⟨fun e => ?_, fun e => by rw [e]⟩
  rw [pkM_vl, pkM_vl] at e
  have := vl_inj _ _ (fun c hc => by obtain ⟨x, hx, rfl⟩ := List.mem_map.mp hc; have := h.2.2 x (List.mem_reverse.mp hx); omega) (fun c hc => by obtain ⟨x, hx, rfl⟩ := List.mem_map.mp hc; have := h'.2.2 x (List.mem_reverse.mp hx); omega) e
  have := map_inj96 _ _ (fun c hc => (h.2.2 c (List.mem_reverse.mp hc)).1) (fun c hc => (h'.2.2 c (List.mem_reverse.mp hc)).1) this
  exact List.reverse_inj.mp this
theorem LtO.b {l : List Nat} (h : LtO l) : pkC l < 2 ^ 63 := pkC_b h.2.1 (fun c hc => (h.2.2 c hc).2)
theorem pkMF {l : List Nat} : ∀ {v : Nat}, (∀ c, c ∈ l → c ≤ 122) → l.foldl (fun v c => 37 * v + (c - 96)) v < (v + 1) * 37 ^ l.length := by
  induction l with
  | nil => intro v _; show v < (v + 1) * 1; omega
  | cons c l ih =>
    intro v h
    have h1 := ih (v := 37 * v + (c - 96)) (fun x hx => h x (List.mem_cons_of_mem _ hx))
    have h2 := h c List.mem_cons_self
    show l.foldl _ (37 * v + (c - 96)) < _
    refine Nat.lt_of_lt_of_le h1 ?_
    rw [List.length_cons, Nat.pow_succ, Nat.mul_comm (37 ^ l.length) 37, ← Nat.mul_assoc]
    exact Nat.mul_le_mul_right _ (by omega)
theorem LtO.bM {l : List Nat} (h : LtO l) : pkM l < 2 ^ 63 := by
  refine Nat.lt_of_lt_of_le (pkMF (v := 0) (fun c hc => (h.2.2 c hc).2)) ?_
  rw [Nat.zero_add, Nat.one_mul]
  exact Nat.le_trans (Nat.pow_le_pow_right (by decide) h.2.1) (by decide)
def NmO (N : SN') : Prop := N.1 ≤ 15 ∧ ∀ k, k < N.1 → (N.2 k).1 ≤ 2 ∧ LtO (N.2 k).2.1 ∧ (N.2 k).2.2 < 6
section
variable {d a : Nat} {h h' : AH} {K : TKs} {s : RS} {N : SN'} {Q : Option Value → AH → Prop}
theorem CF.tok (c : CF h K s) : va_rf (hR h 1 7) = .ref (1000 + tk K s.1) := by rw [c.2.1.2.2.1]; rfl
theorem CF.fz (c : CF h K s) : hI h 6 1 = 0 ↔ s.2 = 0 := by
  rw [c.2.2.1]
  exact nI_eq (b := 0) (by have := c.2.2.2; omega) (by omega)
theorem CF.tg (c : CF h K s) (kO : TokOK K) : TkG (K.2 s.1) := kO.2.1 s.1 c.2.1.1
theorem CF.t38 (c : CF h K s) (kO : TokOK K) : tk K s.1 < 38 := (c.tg kO).1
theorem CF.fr (c : CF h K s) {X : Nat → Bool} (f : Fr X h h') (x1 : X 1 = false) (x3 : X 3 = false) (x4 : X 4 = false) (x5 : X 5 = false) (x6 : X 6 = false) : CF h' K s := by
  obtain ⟨⟨a1, a2⟩, ⟨b1, b2, b3, b4, b5, b6⟩, c3, c4⟩ := c
  refine ⟨⟨by rw [f.I x1]; exact a1, fun i hi => ?_⟩, ⟨b1, by rw [f.I x1]; exact b2, by rw [f.R x1]; exact b3, by rw [f.I x1]; exact b4, by rw [f.J x1]; exact b5, by rw [f.J x1]; exact b6⟩, by rw [f.I x6]; exact c3, c4⟩
  have := a2 i hi
  unfold TkX at *
  rw [f.R x3, f.I x4, f.J x5]; exact this
theorem CF.f6 (c : CF h K s) {v : Nat} (hv : v ≤ 20000) : CF (wI h 6 1 (nI v)) K (s.1, v) := ⟨⟨c.1.1, c.1.2⟩, ⟨c.2.1.1, c.2.1.2.1, c.2.1.2.2.1, c.2.1.2.2.2.1, c.2.1.2.2.2.2.1, c.2.1.2.2.2.2.2⟩, rfl, hv⟩
theorem bl_n {b : Bool} {k : Nat} (hs : b = false ∨ ¬ s.2 = 0) : bl K b k s = s := by
  unfold bl
  rcases hs with e | e
  · rw [e]; rfl
  · rw [decide_eq_false e, Bool.and_false]; rfl
theorem bl_y {k : Nat} (hs : s.2 = 0) : bl K true k s = (s.1, k + 16 * tb K s.1) := by
  unfold bl; rw [decide_eq_true hs]; rfl
theorem bl_1 {b : Bool} {k : Nat} : (bl K b k s).1 = s.1 := by unfold bl; split <;> rfl
theorem c_blame (kO : TokOK K) {k : Nat} (hk : k ≤ 5) (c : CF h K s) (h1 : ∀ h', Fr xrd h h' → CF h' K (bl K true k s) → Q none h') : Rc (d + 1) m_X8_blame [.ref 6, .int (nI k)] h Q := by
  have b4 : tb K s.1 ≤ 1000 := (c.tg kO).2.1
  have e8 : hI h 1 8 = nI (tb K s.1) := c.2.1.2.2.2.1
  refine R_in rfl rfl ?_
  refine R_gs 4 rfl ?_
  refine W_b rfl (fun hc4 => ?_) (fun hc4 => ?_)
  ·
    rw [c.fz] at hc4
    refine R_gs 23 rfl ?_
    try rw [e8]
    refine W_f rfl (by first | rfl | exact ⟨rfl, by first | decide | assumption | exact Or.inl rfl | exact Or.inr rfl | exact b2i_01 _⟩) ?_
    rw [bl_y hc4] at h1; rw [show nI k + 16 * nI (tb K s.1) = nI (k + 16 * tb K s.1) from by rw [show (16 : Int32) = nI 16 from rfl, nI_mul, nI_add]]; exact h1 _ ((Fr.refl _ h).wI rfl) (c.f6 (by omega))
  ·
    rw [c.fz] at hc4
    refine W_f rfl (by first | rfl | exact ⟨rfl, by first | decide | assumption | exact Or.inl rfl | exact Or.inr rfl | exact b2i_01 _⟩) ?_
    rw [bl_n (Or.inr hc4)] at h1; exact h1 _ (Fr.refl _ h) c
theorem c_blameIf (kO : TokOK K) {b : Bool} {k : Nat} (hk : k ≤ 5) (c : CF h K s) (h1 : ∀ h', Fr xrd h h' → CF h' K (bl K b k s) → Q none h') : Rc (d + 2) m_X8_blameIf [.ref 6, .int (b2i b), .int (nI k)] h Q := by
  cases b with
  | false =>
    refine R_in rfl rfl ?_
    refine R_gs 1 rfl ?_
    refine W_bt rfl (by decide) ?_
    refine W_f rfl (by first | rfl | exact ⟨rfl, by first | decide | assumption | exact Or.inl rfl | exact Or.inr rfl | exact b2i_01 _⟩) ?_
    exact h1 _ (Fr.refl _ h) c
  | true =>
    refine R_in rfl rfl ?_
    refine R_gs 1 rfl ?_
    refine W_bf rfl (by decide) ?_
    refine R_gs 6 rfl ?_
    refine R_k rfl rfl (c_blame kO hk c (fun h2 f2 c2 => ?_))
    refine W_f rfl (by first | rfl | exact ⟨rfl, by first | decide | assumption | exact Or.inl rfl | exact Or.inr rfl | exact b2i_01 _⟩) ?_
    exact h1 _ f2 c2
theorem c_step (kO : TokOK K) (c : CF h K s) (h1 : ∀ h', Fr xrd h h' → CF h' K (sp K s) → Q none h') : Rc (d + 2) m_X8_step [.ref 6] h Q := by
  unfold sp at h1
  refine R_in rfl rfl ?_
  refine R_gs 4 rfl ?_
  refine W_b rfl (fun hc4 => ?_) (fun hc4 => ?_)
  ·
    rw [c.fz] at hc4
    refine R_gs 11 rfl ?_
    refine R_k rfl rfl (c_advance c.1 kO.1 (fun i hi => (kO.2.1 i hi).1) c.2.1 (fun h2 f2 x2 u2 => ?_))
    refine W_f rfl (by first | rfl | exact ⟨rfl, by first | decide | assumption | exact Or.inl rfl | exact Or.inr rfl | exact b2i_01 _⟩) ?_
    rw [if_pos hc4] at h1; exact h1 _ (f2.mono (fun q hq => by have := Nat.eq_of_beq_eq_true hq; subst this; rfl)) ⟨c.1.fr f2 x2.2, u2, (congrFun (f2.I (b := 6) rfl) 1).trans (c.2.2.1.trans (by rw [hc4])), Nat.zero_le _⟩
  ·
    rw [c.fz] at hc4
    refine W_f rfl (by first | rfl | exact ⟨rfl, by first | decide | assumption | exact Or.inl rfl | exact Or.inr rfl | exact b2i_01 _⟩) ?_
    rw [if_neg hc4] at h1; exact h1 _ (Fr.refl _ h) c
theorem c_expect (kO : TokOK K) {t : Nat} (ht : t < 38) (c : CF h K s) (h1 : ∀ h', Fr xrd h h' → CF h' K (ex K t s) → Q none h') : Rc (d + 3) m_X8_expect [.ref 6, .ref (1000 + t)] h Q := by
  have t1 := c.t38 kO
  refine R_in rfl rfl ?_
  refine R_gs 8 rfl ?_
  rw [c.tok]
  refine R_gs 9 rfl ?_
  refine R_jdn 17 (!decide (tk K s.1 = t)) rfl (by omega) (by omega) (by omega) (by omega) (by rw [Bool.not_eq_false', decide_eq_true_eq]; constructor <;> intro _ <;> omega) rfl rfl ?_
  refine R_gs 18 rfl ?_
  refine R_k rfl rfl (c_blameIf kO (k := 1) (by decide) c (fun h2 f2 c2 => ?_))
  refine R_gs 22 rfl ?_
  refine R_k rfl rfl (c_step kO c2 (fun h3 f3 c3 => ?_))
  refine W_f rfl (by first | rfl | exact ⟨rfl, by first | decide | assumption | exact Or.inl rfl | exact Or.inr rfl | exact b2i_01 _⟩) ?_
  exact h1 _ (f2.trans f3) c3
theorem SH_t {t : Nat} (ht : t < 38) : (SH (1000 + t)).1 = 20 ∧ (1000 + t < 262 ∨ 1000 ≤ 1000 + t) := ⟨by rw [SH_tk t ht], Or.inr (Nat.le_add_right 1000 t)⟩
theorem tkF1 {t : Nat} (ht : t < 38) : tkF 1 (1000 + t - 1000) = .int (nI (rol t)) := by rw [Nat.add_sub_cancel_left, ← (rol_L t ht).1]; rfl
theorem tkF2 {t : Nat} : tkF 2 (1000 + t - 1000) = .int (mea t) := by rw [Nat.add_sub_cancel_left]; rfl
theorem c_isName {t : Nat} (ht : t < 38) (h1 : Q (some (.int (b2i (isNm t)))) h) : Rc (d + 1) m_X11_isName [.ref (1000 + t)] h Q := by
  have r6 := (rol_L t ht).2
  unfold isNm at h1
  refine R_in rfl rfl ?_
  refine R_gs 4 rfl ?_
  refine W_d rfl (by omega) (by omega) (by omega) (by omega) (fun hc4 => ?_) (fun hc4 => ?_)
  ·
    refine R_gs 20 rfl ?_
    refine W_f rfl (by first | rfl | exact ⟨rfl, by first | decide | assumption | exact Or.inl rfl | exact Or.inr rfl | exact b2i_01 _⟩) ?_
    rw [decide_eq_true (show t = 3 by omega)] at h1; exact h1
  ·
    refine R_gs 8 rfl ?_
    refine W_c rfl (SH_t ht) ?_
    rw [tkF1 ht]
    refine R_gs 12 rfl ?_
    refine W_b rfl (fun hc12 => ?_) (fun hc12 => ?_)
    ·
      rw [show (nI (rol t) = 4 ↔ rol t = 4) from nI_eq (b := 4) (by omega) (by omega)] at hc12
      refine R_gs 20 rfl ?_
      refine W_f rfl (by first | rfl | exact ⟨rfl, by first | decide | assumption | exact Or.inl rfl | exact Or.inr rfl | exact b2i_01 _⟩) ?_
      rw [decide_eq_true hc12, Bool.or_true] at h1; exact h1
    ·
      rw [show (nI (rol t) = 4 ↔ rol t = 4) from nI_eq (b := 4) (by omega) (by omega)] at hc12
      refine R_gs 20 rfl ?_
      refine W_f rfl (by first | rfl | exact ⟨rfl, by first | decide | assumption | exact Or.inl rfl | exact Or.inr rfl | exact b2i_01 _⟩) ?_
      rw [decide_eq_false (show ¬ t = 3 by omega), decide_eq_false hc12] at h1; exact h1
theorem c_startsPart {t : Nat} (ht : t < 38) (h1 : Q (some (.int (b2i (stPt t)))) h) : Rc (d + 1) m_X11_startsPart [.ref (1000 + t)] h Q := by
  have r6 := (rol_L t ht).2
  unfold stPt at h1
  refine R_in rfl rfl ?_
  refine R_gs 4 rfl ?_
  refine W_d rfl (by omega) (by omega) (by omega) (by omega) (fun hc4 => ?_) (fun hc4 => ?_)
  ·
    refine R_gs 34 rfl ?_
    refine W_f rfl (by first | rfl | exact ⟨rfl, by first | decide | assumption | exact Or.inl rfl | exact Or.inr rfl | exact b2i_01 _⟩) ?_
    rw [decide_eq_true (show t = 2 by omega)] at h1; exact h1
  ·
    refine R_gs 11 rfl ?_
    refine W_d rfl (by omega) (by omega) (by omega) (by omega) (fun hc11 => ?_) (fun hc11 => ?_)
    ·
      refine R_gs 34 rfl ?_
      refine W_f rfl (by first | rfl | exact ⟨rfl, by first | decide | assumption | exact Or.inl rfl | exact Or.inr rfl | exact b2i_01 _⟩) ?_
      rw [decide_eq_true (show t = 27 by omega), Bool.true_or, Bool.or_true] at h1; exact h1
    ·
      refine R_gs 18 rfl ?_
      refine W_d rfl (by omega) (by omega) (by omega) (by omega) (fun hc18 => ?_) (fun hc18 => ?_)
      ·
        refine R_gs 34 rfl ?_
        refine W_f rfl (by first | rfl | exact ⟨rfl, by first | decide | assumption | exact Or.inl rfl | exact Or.inr rfl | exact b2i_01 _⟩) ?_
        rw [decide_eq_true (show t = 4 by omega), Bool.true_or, Bool.or_true, Bool.or_true] at h1; exact h1
      ·
        refine R_gs 22 rfl ?_
        refine W_c rfl (SH_t ht) ?_
        rw [tkF1 ht]
        refine R_gs 26 rfl ?_
        refine W_b rfl (fun hc26 => ?_) (fun hc26 => ?_)
        ·
          rw [show (nI (rol t) = 4 ↔ rol t = 4) from nI_eq (b := 4) (by omega) (by omega)] at hc26
          refine R_gs 34 rfl ?_
          refine W_f rfl (by first | rfl | exact ⟨rfl, by first | decide | assumption | exact Or.inl rfl | exact Or.inr rfl | exact b2i_01 _⟩) ?_
          rw [decide_eq_true hc26, Bool.or_true, Bool.or_true, Bool.or_true] at h1; exact h1
        ·
          rw [show (nI (rol t) = 4 ↔ rol t = 4) from nI_eq (b := 4) (by omega) (by omega)] at hc26
          refine R_gs 34 rfl ?_
          refine W_f rfl (by first | rfl | exact ⟨rfl, by first | decide | assumption | exact Or.inl rfl | exact Or.inr rfl | exact b2i_01 _⟩) ?_
          rw [decide_eq_false (show ¬ t = 2 by omega), decide_eq_false (show ¬ t = 27 by omega), decide_eq_false (show ¬ t = 4 by omega), decide_eq_false hc26] at h1; exact h1
theorem fnN_s {σ : Nat} {l : List Nat} {j m : Nat} : fnN N σ l j (m + 1) = if (N.2 j).2.1 = l ∧ (N.2 j).1 = σ then nI (N.2 j).2.2 else fnN N σ l (j + 1) m := rfl
theorem c_find (ha : a = 143 ∨ a = 171) (hN : NamC h a N) (nO : NmO N) {l : List Nat} (hl : LtO l) {σ : Nat} (hσ : σ ≤ 2) (h1 : Q (some (.int (fnd N σ l))) h) : Rc (d + 1) m_X7_find [.ref a, .ref (1007 + σ), .long (lN64 (pkC l))] h Q := by
  have n1 := nO.1
  rcases ha with rfl | rfl
  all_goals
    have n3 := hN.1
    refine R_in rfl rfl ?_
    refine R_gs 3 rfl ?_
    refine w_inv (W := fun j (_ : Unit) => Rw d Q (m_X7_find, 3, [some (.ref _), some (.ref (1007 + σ)), some (.long (lN64 (pkC l))), none, some (.int (nI j))], [], 262, h)) N.1 (fun j _ => Q (some (.int (fnN N σ l j (N.1 - j)))) h) (s0 := ()) h1 (fun j _ hj hi w => ?_) (fun _ hi => ?_)
    ·
      rw [show N.1 - j = N.1 - (j + 1) + 1 by omega, fnN_s] at hi
      have nj := nO.2 j hj
      obtain ⟨q1, q2, q3⟩ := hN.2 j hj
      refine R_gs 9 rfl ?_
      try rw [n3]
      refine W_bf rfl (fun e => absurd ((nI_leI (by omega) (by omega)).mp e) (by omega)) ?_
      refine R_gs 18 rfl ?_
      refine R_ll rfl rfl (ix_nI _) (by omega) q1 ?_
      refine R_gs 21 rfl ?_
      refine W_b rfl (fun hc21 => ?_) (fun hc21 => ?_)
      ·
        rw [lg_eq, l64_eq nj.2.1.b hl.b, pkC_inj nj.2.1 hl] at hc21
        refine R_gs 30 rfl ?_
        refine R_tl rfl rfl rfl (ix_nI _) (by omega) (v := .ref (1007 + (N.2 j).1)) (by show va_rf (hR h _ j) = _; rw [q3]; rfl) ?_
        refine R_gs 32 rfl ?_
        refine W_d rfl (by omega) (by omega) (by omega) (by omega) (fun hc32 => ?_) (fun hc32 => ?_)
        ·
          refine R_gs 41 rfl ?_
          refine R_il rfl rfl (ix_nI _) (by omega) q2 ?_
          refine W_f rfl (by first | rfl | exact ⟨rfl, by first | decide | assumption | exact Or.inl rfl | exact Or.inr rfl | exact b2i_01 _⟩) ?_
          rw [if_pos ⟨hc21, by omega⟩] at hi; exact hi
        ·
          refine R_gs 3 rfl ?_
          rw [nI_1]; rw [if_neg (fun e => hc32 (by omega))] at hi; exact w () hi
      ·
        rw [lg_eq, l64_eq nj.2.1.b hl.b, pkC_inj nj.2.1 hl] at hc21
        refine R_gs 3 rfl ?_
        rw [nI_1]; rw [if_neg (fun e => hc21 e.1)] at hi; exact w () hi
    ·
      rw [Nat.sub_self] at hi
      refine R_gs 9 rfl ?_
      try rw [n3]
      refine W_bt rfl (Int32.le_refl _) ?_
      refine R_gs 50 rfl ?_
      refine W_f rfl (by first | rfl | exact ⟨rfl, by first | decide | assumption | exact Or.inl rfl | exact Or.inr rfl | exact b2i_01 _⟩) ?_
      exact hi
end

theorem l64_i {n : Nat} : (lN64 n).toInt32 = nI n := by rw [show lN64 n = lN n from rfl, lN_i]
/-! laws, the class: steps are laid -/
def xlw (b q : Nat) : Bool := Nat.beq q b || Nat.beq q (b + 1)
def xex (b q : Nat) : Bool := xrd q || xlw b q
def lwI (b : Nat) : Prop := b = 165 ∨ b = 168 ∨ b = 193 ∨ b = 196
theorem xlw_f {b q : Nat} (h1 : q ≠ b) (h2 : q ≠ b + 1) : xlw b q = false := by unfold xlw; rw [bq_f h1, bq_f h2]; rfl
theorem Fr.rx {b : Nat} {h h' : AH} (f : Fr xrd h h') : Fr (xex b) h h' := f.mono (fun q hq => by unfold xex; rw [hq]; rfl)
theorem Fr.lx {b : Nat} {h h' : AH} (f : Fr (xlw b) h h') : Fr (xex b) h h' := f.mono (fun q hq => by unfold xex; rw [hq, Bool.or_true])
theorem q_lw {b : Nat} (hb : lwI b) : q_rc 262 2 [.ref b] = true := by
  rcases hb with rfl | rfl | rfl | rfl <;> rfl
theorem q_ld {a : Nat} (ha : a = 143 ∨ a = 171) : q_rc 262 5 [.ref a] = true := by
  rcases ha with rfl | rfl <;> rfl
section
variable {d b : Nat} {h h' : AH} {K : TKs} {s : RS} {c : List Int32} {Q : Option Value → AH → Prop}
theorem LawC.xr (hb : lwI b) (f : Fr xrd h h') (l : LawC h b c) : LawC h' b c := by
  have : b = 165 ∨ b = 168 ∨ b = 193 ∨ b = 196 := hb
  exact l.fr f (xrd_f (by omega) (by omega)) (xrd_f (by omega) (by omega))
theorem told_xr (hb : lwI b) (f : Fr xrd h h') : hI h' b 3 = hI h b 3 := by
  have : b = 165 ∨ b = 168 ∨ b = 193 ∨ b = 196 := hb
  rw [f.I (xrd_f (by omega) (by omega))]
theorem CF.xl (hb : lwI b) (f : Fr (xlw b) h h') (c : CF h K s) : CF h' K s := by
  have : b = 165 ∨ b = 168 ∨ b = 193 ∨ b = 196 := hb
  exact c.fr f (xlw_f (by omega) (by omega)) (xlw_f (by omega) (by omega)) (xlw_f (by omega) (by omega)) (xlw_f (by omega) (by omega)) (xlw_f (by omega) (by omega))
theorem lawC_add {v : Int32} (l : LawC h b c) : LawC (wI (wI h (b + 1) c.length v) b 2 (hI h b 2 + 1)) b (c ++ [v]) := by
  refine ⟨?_, fun i hi => ?_⟩
  · rw [wI_at, if_pos rfl, List.length_append, l.1, nI_1]; rfl
  · rw [wI_ne _ _ _ (by omega : b + 1 ≠ b), wI_at]
    rw [List.length_append, List.length_singleton] at hi
    by_cases e : i = c.length
    · subst e; rw [if_pos rfl]; simp
    · rw [if_neg e, List.getElem_append_left (by omega)]; exact l.2 i (by omega)
theorem c_lawAdd {v : Int32} (hb : lwI b) (l : LawC h b c) (hc : c.length < 1000) (h1 : ∀ h', Fr (xlw b) h h' → hI h' b 3 = hI h b 3 → LawC h' b (c ++ [v]) → Q none h') : Rc (d + 1) m_X3_add [.ref b, .int v] h Q := by
  have l1 := l.1
  have l9 := lawC_add (v := v) l
  rcases hb with rfl | rfl | rfl | rfl
  all_goals
    refine R_in rfl rfl ?_
    refine R_gs 7 rfl ?_
    try rw [l1]
    refine W_bf rfl (fun e => absurd ((nI_leI (a := 1000) (by omega) (by omega)).mp e) (by omega)) ?_
    refine R_gs 19 rfl ?_
    try rw [l1]
    refine R_is rfl rfl (ix_nI _) (by omega) ?_
    refine R_gs 30 rfl ?_
    try rw [l1]
    refine W_f rfl (by first | rfl | exact ⟨rfl, by first | decide | assumption | exact Or.inl rfl | exact Or.inr rfl | exact b2i_01 _⟩) ?_
    exact h1 _ (((Fr.refl _ h).wI rfl).wI rfl) rfl l9
theorem c_lawClear (hb : lwI b) (h1 : ∀ h', Fr (xlw b) h h' → hI h' b 3 = 0 → LawC h' b [] → Q none h') : Rc (d + 1) m_X3_clear [.ref b] h Q := by
  rcases hb with rfl | rfl | rfl | rfl
  all_goals
    refine R_in rfl rfl ?_
    refine R_gs 7 rfl ?_
    refine W_c rfl ⟨rfl, by decide, by decide, Or.inl rfl⟩ ?_
    refine W_f rfl (by first | rfl | exact ⟨rfl, by first | decide | assumption | exact Or.inl rfl | exact Or.inr rfl | exact b2i_01 _⟩) ?_
    exact h1 _ (((Fr.refl _ h).wI rfl).wI rfl) rfl ⟨rfl, fun i hi => absurd hi (Nat.not_lt_zero i)⟩
end
/-- a call that reads as X does -/
def CX (K : TKs) (b d μ : Nat) (av : List Value) (X : EX) : Prop := ∀ (h : AH) (s : RS) (c : List Int32) (Q : Option Value → AH → Prop), CF h K s → LawC h b c → c.length ≤ s.1 → (∀ h', Fr (xex b) h h' → hI h' b 3 = hI h b 3 → CF h' K (X s).1 → LawC h' b (c ++ (X s).2) → Q none h') → Rc d μ av h Q
def EXo (K : TKs) (X : EX) : Prop := ∀ s : RS, s.1 < K.1 → (X s).1.1 < K.1 ∧ s.1 + (X s).2.length ≤ (X s).1.1
theorem CX.le {K : TKs} {b d e μ : Nat} {av : List Value} {X : EX} (hd : d ≤ e) (c : CX K b d μ av X) : CX K b e μ av X := fun h s l Q c1 c2 c3 c4 => Cl.le hd (c h s l Q c1 c2 c3 c4)
section
variable {K : TKs} {s : RS} {X : EX} {l m : Nat} {z : RS × List Int32}
theorem nx_1 (kO : TokOK K) {i : Nat} (hi : i < K.1) (ht : tk K i ≠ 0) : nxI K i = i + 1 ∧ i + 1 < K.1 := by
  have : i + 1 < K.1 := by
    rcases Nat.lt_or_ge (i + 1) K.1 with e | e
    · exact e
    · have : i = K.1 - 1 := by omega
      rw [this] at ht
      exact absurd kO.2.2.2.1 ht
  exact ⟨by unfold nxI; rw [if_pos this], this⟩
theorem sp_1 (kO : TokOK K) (hi : s.1 < K.1) (hf : s.2 = 0) (ht : tk K s.1 ≠ 0) : sp K s = (s.1 + 1, 0) ∧ s.1 + 1 < K.1 := by
  have := nx_1 kO hi ht
  refine ⟨?_, this.2⟩
  unfold sp; rw [if_pos hf, this.1]
theorem sp_n (hf : ¬ s.2 = 0) : sp K s = s := if_neg hf
theorem rol_0 {t : Nat} (h : rol t < 4) : t ≠ 0 := by intro e; subst e; exact absurd h (by decide)
theorem jl_e (h : m = 0 ∨ ¬ (z.1.2 = 0 ∧ rol (tk K z.1.1) = l)) : jl K X l m z = z := by
  cases m with
  | zero => rfl
  | succ m =>
    show (if _ then _ else _) = _
    rw [if_neg]
    rcases h with e | e
    · omega
    · exact e
theorem jl_s (hm : 0 < m) (h : z.1.2 = 0 ∧ rol (tk K z.1.1) = l) : jl K X l m z = jl K X l (m - 1) ((X (sp K z.1)).1, z.2 ++ ((X (sp K z.1)).2 ++ [mea (tk K z.1.1)])) := by
  cases m with
  | zero => omega
  | succ m =>
    show (if _ then _ else _) = _
    rw [if_pos h]; rfl
theorem jl_o (kO : TokOK K) (hl : l < 4) (o : EXo K X) {i : Nat} : ∀ (m : Nat) (z : RS × List Int32), z.1.1 < K.1 → i + z.2.length ≤ z.1.1 → (jl K X l m z).1.1 < K.1 ∧ i + (jl K X l m z).2.length ≤ (jl K X l m z).1.1
  | 0, z, h1, h2 => ⟨h1, h2⟩
  | m + 1, z, h1, h2 => by
    by_cases e : z.1.2 = 0 ∧ rol (tk K z.1.1) = l
    · rw [jl_s (by omega) e]
      obtain ⟨e1, e2⟩ := sp_1 kO h1 e.1 (rol_0 (by omega))
      have := o (sp K z.1) (by rw [e1]; exact e2)
      refine jl_o kO hl o m _ this.1 ?_
      rw [e1] at this ⊢
      dsimp only at this ⊢
      rw [List.length_append, List.length_append, List.length_singleton]; omega
    · rw [jl_e (Or.inr e)]; exact ⟨h1, h2⟩
theorem JL_o (kO : TokOK K) (hl : l < 4) (o : EXo K X) : EXo K (JL K l m X) := fun s hs => jl_o kO hl o m (X s) (o s hs).1 (o s hs).2
theorem eJ_o (kO : TokOK K) (o : EXo K X) : ∀ l, EXo K (eJ K X l)
  | 0 => JL_o kO (by omega) (JL_o kO (by omega) (JL_o kO (by omega) (JL_o kO (by omega) o)))
  | 1 => JL_o kO (by omega) (JL_o kO (by omega) (JL_o kO (by omega) o))
  | 2 => JL_o kO (by omega) (JL_o kO (by omega) o)
  | 3 => JL_o kO (by omega) o
  | _ + 4 => o
theorem stPt_0 : ∀ t, stPt t = true → t ≠ 0 := by
  intro t h e
  subst e
  exact absurd h (by decide)
/-- reading on where a part begins -/
theorem sP_1 (kO : TokOK K) (hi : s.1 < K.1) (hf : (sp K (bl K (!stPt (tk K s.1)) 1 s)).2 = 0) : stPt (tk K s.1) = true ∧ s.2 = 0 ∧ sp K (bl K (!stPt (tk K s.1)) 1 s) = (s.1 + 1, 0) ∧ s.1 + 1 < K.1 := by
  have h1 : s.2 = 0 := by
    rcases Nat.eq_zero_or_pos s.2 with e | e
    · exact e
    · rw [bl_n (Or.inr (by omega)), sp_n (by omega)] at hf; exact hf
  have h2 : stPt (tk K s.1) = true := by
    cases e : stPt (tk K s.1) with
    | true => rfl
    | false =>
      rw [e] at hf
      rw [show (!false) = true from rfl, bl_y h1, sp_n (by dsimp only; omega)] at hf
      dsimp only at hf; omega
  have := sp_1 kO hi h1 (stPt_0 _ h2)
  refine ⟨h2, h1, ?_, this.2⟩
  rw [h2, show (!true) = false from rfl, bl_n (Or.inl rfl)]; exact this.1
theorem bs_o (kO : TokOK K) {b : Bool} {k : Nat} (hi : s.1 < K.1) : (sp K (bl K b k s)).1 < K.1 ∧ s.1 ≤ (sp K (bl K b k s)).1 := by
  unfold sp
  split
  · rw [bl_1]; dsimp only; unfold nxI; split <;> omega
  · rw [bl_1]; omega
theorem eP_o (kO : TokOK K) : ∀ a, EXo K (eP K a)
  | 0 => fun s hs => by
    show (bl K true 5 (bl K _ 1 s)).1 < K.1 ∧ s.1 + 0 ≤ (bl K true 5 (bl K _ 1 s)).1
    rw [bl_1, bl_1]; omega
  | a + 1 => fun s hs => by
    have ih := eP_o kO a
    unfold eP
    dsimp only
    by_cases hf : (sp K (bl K (!stPt (tk K s.1)) 1 s)).2 = 0
    · obtain ⟨-, -, e1, e2⟩ := sP_1 kO hs hf
      rw [if_pos hf, e1]
      split
      · have := ih (s.1 + 1, 0) e2
        dsimp only at this ⊢
        rw [List.length_append, List.length_singleton]; omega
      · split
        · have := eJ_o kO ih 0 (s.1 + 1, 0) e2
          have h3 := bs_o kO (b := !decide (tk K (eJ K (eP K a) 0 (s.1 + 1, 0)).1.1 = 5)) (k := 1) this.1
          unfold ex
          dsimp only at this ⊢
          omega
        · dsimp only; rw [List.length_singleton]; omega
    · rw [if_neg hf]
      have := bs_o kO (b := !stPt (tk K s.1)) (k := 1) hs
      dsimp only
      rw [List.length_nil]; omega
end

section
variable {d b : Nat} {K : TKs}
theorem cx_part0 (kO : TokOK K) (hb : lwI b) : CX K b (d + 3) m_X8_readPart [.ref 6, .ref b, .int 5] (eP K 0) := by
  intro h s l Q c hl hn h1
  have t1 := c.t38 kO
  have key : ∀ x, (∃ g, Fr xrd h g ∧ CF g K (bl K true 5 (bl K (!stPt (tk K s.1)) 1 s)) ∧ x = g) → Q none x := by
    rintro x ⟨g, f, cg, rfl⟩
    exact h1 _ f.rx (told_xr hb f) cg (by rw [show (eP K 0 s).2 = [] from rfl, List.append_nil]; exact hl.xr hb f)
  have nz : ∀ s : RS, ¬ (bl K true 5 s).2 = 0 := fun s => by
    rcases Nat.eq_zero_or_pos s.2 with e | e
    · rw [bl_y e]; dsimp only; omega
    · rw [bl_n (Or.inr (by omega))]; omega
  refine R_in rfl rfl ?_
  refine R_gs 7 rfl ?_
  rw [c.tok]
  refine R_gs 20 rfl ?_
  refine R_k rfl (q_tk t1) (c_startsPart t1 ?_)
  refine R_j 31 (!stPt (tk K s.1)) rfl (by rw [b2i0]; simp) rfl rfl ?_
  refine R_gs 32 rfl ?_
  refine R_k rfl rfl (c_blameIf kO (k := 1) (by decide) c (fun h2 f2 c2 => ?_))
  refine R_gs 38 rfl ?_
  refine R_jn 46 (true) rfl (by decide) rfl rfl ?_
  refine R_gs 47 rfl ?_
  refine R_k rfl rfl (c_blameIf kO (k := 5) (by decide) c2 (fun h3 f3 c3 => ?_))
  refine R_gs 51 rfl ?_
  refine R_k rfl rfl (c_step kO c3 (fun h4 f4 c4 => ?_))
  rw [sp_n (nz _)] at c4
  refine R_gs 58 rfl ?_
  refine W_bf rfl (fun e => nz _ (c4.fz.mp e)) ?_
  refine W_f rfl (by first | rfl | exact ⟨rfl, by first | decide | assumption | exact Or.inl rfl | exact Or.inr rfl | exact b2i_01 _⟩) ?_
  exact key _ ⟨_, (f2.trans f3).trans f4, c4, rfl⟩
theorem cx_partS {a : Nat} (kO : TokOK K) (hb : lwI b) (ha : a + 1 ≤ 5) (HP : CX K b (d + 3) m_X8_readPart [.ref 6, .ref b, .int (nI (5 - a))] (eP K a)) (HJ : CX K b (d + 3) m_X8_readJoined [.ref 6, .ref b, .int 0, .int (nI (5 - a))] (eJ K (eP K a) 0)) : CX K b (d + 4) m_X8_readPart [.ref 6, .ref b, .int (nI (5 - (a + 1)))] (eP K (a + 1)) := by
  intro h s l Q c hl hn h1
  have t1 := c.t38 kO
  have kb : b = 165 ∨ b = 168 ∨ b = 193 ∨ b = 196 := hb
  have hs : s.1 < K.1 := c.2.1.1
  have k1 := kO.1
  have er : nI (5 - (a + 1)) + 1 = nI (5 - a) := (by rw [nI_1]; congr 1; omega)
  have oP := eP_o kO a
  have oJ := eJ_o kO oP 0
  unfold eP at h1
  dsimp only at h1
  refine R_in rfl rfl ?_
  refine R_gs 7 rfl ?_
  rw [c.tok]
  refine R_gs 20 rfl ?_
  refine R_k rfl (q_tk t1) (c_startsPart t1 ?_)
  refine R_j 31 (!stPt (tk K s.1)) rfl (by rw [b2i0]; simp) rfl rfl ?_
  refine R_gs 32 rfl ?_
  refine R_k rfl rfl (c_blameIf kO (k := 1) (by decide) c (fun h2 f2 c2 => ?_))
  refine R_gs 38 rfl ?_
  refine R_jn 46 (false) rfl (⟨fun _ => (nI_ltI (b := 5) (by omega) (by omega)).mpr (by omega), fun _ => rfl⟩) rfl rfl ?_
  refine R_gs 47 rfl ?_
  refine R_k rfl rfl (c_blameIf kO (k := 5) (by decide) c2 (fun h3 f3 c3 => ?_))
  rw [bl_n (Or.inl rfl)] at c3
  refine R_gs 51 rfl ?_
  refine R_k rfl rfl (c_step kO c3 (fun h4 f4 c4 => ?_))
  have F4 := (f2.trans f3).trans f4
  refine R_gs 58 rfl ?_
  refine W_b rfl (fun hc58 => ?_) (fun hc58 => ?_)
  ·
    rw [c4.fz] at hc58
    obtain ⟨p1, p2, p3, p4⟩ := sP_1 kO hs hc58
    rw [if_pos hc58] at h1
    rw [p3] at c4 h1
    refine R_gs 66 rfl ?_
    refine W_d rfl (by omega) (by omega) (by omega) (by omega) (fun hc66 => ?_) (fun hc66 => ?_)
    ·
      have q27 : tk K s.1 = 27 := (by omega)
      rw [if_pos q27] at h1
      refine R_gs 74 rfl ?_
      rw [er]
      refine R_k rfl rfl (HP _ (s.1 + 1, 0) l _ c4 (hl.xr hb F4) (by dsimp only; omega) (fun h5 f5 t5 c5 l5 => ?_))
      have o5 := oP (s.1 + 1, 0) p4
      dsimp only at o5
      refine R_gs 80 rfl ?_
      refine R_k rfl (q_lw hb) (c_lawAdd (v := -4) hb l5 (by rw [List.length_append]; omega) (fun h6 f6 t6 l6 => ?_))
      refine R_gs 152 rfl ?_
      refine W_f rfl (by first | rfl | exact ⟨rfl, by first | decide | assumption | exact Or.inl rfl | exact Or.inr rfl | exact b2i_01 _⟩) ?_
      exact h1 _ ((F4.rx.trans f5).trans f6.lx) (t6.trans (t5.trans (told_xr hb F4))) (c5.xl hb f6) (by rw [← List.append_assoc]; exact l6)
    ·
      have q27 : ¬ tk K s.1 = 27 := (by omega)
      rw [if_neg q27] at h1
      refine R_gs 90 rfl ?_
      refine W_d rfl (by omega) (by omega) (by omega) (by omega) (fun hc90 => ?_) (fun hc90 => ?_)
      ·
        have q4 : tk K s.1 = 4 := (by omega)
        rw [if_pos q4] at h1
        refine R_gs 99 rfl ?_
        rw [er]
        refine R_k rfl rfl (HJ _ (s.1 + 1, 0) l _ c4 (hl.xr hb F4) (by dsimp only; omega) (fun h5 f5 t5 j4 l5 => ?_))
        have t5' := j4.t38 kO
        refine R_gs 110 rfl ?_
        rw [CF.tok j4]
        refine R_gs 113 rfl ?_
        refine R_jdn 121 (!decide (tk K (eJ K (eP K a) 0 (s.1 + 1, 0)).1.1 = 5)) rfl (by omega) (by omega) (by omega) (by omega) (by rw [Bool.not_eq_false', decide_eq_true_eq]; constructor <;> intro _ <;> omega) rfl rfl ?_
        refine R_gs 122 rfl ?_
        refine R_k rfl rfl (c_blameIf kO (k := 1) (by decide) j4 (fun h6 f6 c6 => ?_))
        refine R_gs 126 rfl ?_
        refine R_k rfl rfl (c_step kO c6 (fun h7 f7 c7 => ?_))
        refine R_gs 152 rfl ?_
        refine W_f rfl (by first | rfl | exact ⟨rfl, by first | decide | assumption | exact Or.inl rfl | exact Or.inr rfl | exact b2i_01 _⟩) ?_
        exact h1 _ ((F4.rx.trans f5).trans (f6.trans f7).rx) ((told_xr hb (f6.trans f7)).trans (t5.trans (told_xr hb F4))) c7 (l5.xr hb (f6.trans f7))
      ·
        have q4 : ¬ tk K s.1 = 4 := (by omega)
        rw [if_neg q4] at h1
        refine R_gs 137 rfl ?_
        refine W_d rfl (by omega) (by omega) (by omega) (by omega) (fun hc137 => ?_) (fun hc137 => ?_)
        ·
          have q2 : tk K s.1 = 2 := (by omega)
          have e9 : hJ h 1 9 = lN64 (tn K s.1) := c.2.1.2.2.2.2.1 q2
          refine R_gs 149 rfl ?_
          rw [e9, l64_i]
          rw [if_pos q2] at h1
          refine R_k rfl (q_lw hb) (c_lawAdd hb (hl.xr hb F4) (by omega) (fun h6 f6 t6 l6 => ?_))
          refine W_f rfl (by first | rfl | exact ⟨rfl, by first | decide | assumption | exact Or.inl rfl | exact Or.inr rfl | exact b2i_01 _⟩) ?_
          exact h1 _ (F4.rx.trans f6.lx) (t6.trans (told_xr hb F4)) (c4.xl hb f6) l6
        ·
          have q2 : ¬ tk K s.1 = 2 := (by omega)
          refine R_gs 146 rfl ?_
          refine W_c rfl (SH_t t1) ?_
          rw [tkF2]
          rw [if_neg q2] at h1
          refine R_k rfl (q_lw hb) (c_lawAdd hb (hl.xr hb F4) (by omega) (fun h6 f6 t6 l6 => ?_))
          refine W_f rfl (by first | rfl | exact ⟨rfl, by first | decide | assumption | exact Or.inl rfl | exact Or.inr rfl | exact b2i_01 _⟩) ?_
          exact h1 _ (F4.rx.trans f6.lx) (t6.trans (told_xr hb F4)) (c4.xl hb f6) l6
  ·
    rw [c4.fz] at hc58
    rw [if_neg hc58] at h1
    refine W_f rfl (by first | rfl | exact ⟨rfl, by first | decide | assumption | exact Or.inl rfl | exact Or.inr rfl | exact b2i_01 _⟩) ?_
    exact h1 _ F4.rx (told_xr hb F4) c4 (by rw [List.append_nil]; exact hl.xr hb F4)
theorem cx_j4 {v : Int32} {P : EX} (HP : CX K b d m_X8_readPart [.ref 6, .ref b, .int v] P) : CX K b (d + 1) m_X8_readJoined [.ref 6, .ref b, .int 4, .int v] P := by
  intro h s l Q c hl hn h1
  refine R_in rfl rfl ?_
  refine R_gs 2 rfl ?_
  refine W_bf rfl (by decide) ?_
  refine R_gs 8 rfl ?_
  refine R_k rfl rfl (HP _ s l _ c hl hn (fun h5 f5 t5 c5 l5 => ?_))
  refine W_f rfl (by first | rfl | exact ⟨rfl, by first | decide | assumption | exact Or.inl rfl | exact Or.inr rfl | exact b2i_01 _⟩) ?_
  exact h1 _ f5 t5 c5 l5
theorem cx_j1 {l : Nat} {v : Int32} {X : EX} (kO : TokOK K) (hb : lwI b) (hl3 : 1 ≤ 3) (hl1 : 1 = 1 ↔ 1 = 1) (o : EXo K X) (HX : CX K b (d + 3) m_X8_readJoined [.ref 6, .ref b, .int (nI (1 + 1)), .int v] X) : CX K b (d + 4) m_X8_readJoined [.ref 6, .ref b, .int (nI 1), .int v] (JL K 1 1 X) := by
  intro h s c0 Q c hl hn h1
  have kb : b = 165 ∨ b = 168 ∨ b = 193 ∨ b = 196 := hb
  have hs : s.1 < K.1 := c.2.1.1
  have k1 := kO.1
  have o1 := o s hs
  have hL : ¬ nI 1 = 1 ↔ ¬ 1 = 1 := (by rw [show (nI 1 = 1 ↔ 1 = 1) from nI_eq (b := 1) (by omega) (by omega), hl1])
  unfold JL at h1
  refine R_in rfl rfl ?_
  refine R_gs 2 rfl ?_
  refine W_bt rfl ((nI_leI (b := 3) (by omega) (by omega)).mpr hl3) ?_
  refine R_gs 14 rfl ?_
  refine W_bt rfl (by first | rfl | exact hL.mpr (by decide)) ?_
  refine R_gs 32 rfl ?_
  rw [nI_1]
  refine R_k rfl rfl (HX _ s c0 _ c hl hn (fun h5 f5 t5 c5 l5 => ?_))
  refine R_gs 38 rfl ?_
  refine w_meas (W := fun (y : AH × Nat × (RS × List Int32)) => ∀ x6 : Option Value, Rw (d + 3) Q (m_X8_readJoined, 38, [some (.ref 6), some (.ref b), some (.int (nI 1)), some (.int v), some (.int 1), some (.int (nI y.2.1)), x6], [], 262, y.1)) (fun y => Fr (xex b) h y.1 ∧ hI y.1 b 3 = hI h b 3 ∧ CF y.1 K y.2.2.1 ∧ LawC y.1 b (c0 ++ y.2.2.2) ∧ y.2.1 ≤ 1 ∧ (y.2.2.1.1 < K.1 ∧ s.1 + y.2.2.2.length ≤ y.2.2.1.1) ∧ jl K X 1 1 (X s) = jl K X 1 (1 - y.2.1) y.2.2) (fun y => 1 - y.2.1) (s0 := (h5, 0, X s)) ⟨f5, t5, c5, l5, Nat.zero_le _, o1, rfl⟩ (fun y hi w => ?_) none
  ·
    intro x6
    obtain ⟨g, i, z⟩ := y
    obtain ⟨i1, i2, i3, i4, i5, i6, i7⟩ := hi
    dsimp only at i1 i2 i3 i4 i5 i6 i7 ⊢
    have t3 := i3.t38 kO
    refine R_gs 42 rfl ?_
    refine W_b rfl (fun hc42 => ?_) (fun hc42 => ?_)
    ·
      rw [show ((1 : Int32) ≤ nI i ↔ 1 ≤ i) from nI_leI (a := 1) (by omega) (by omega)] at hc42
      refine W_f rfl (by first | rfl | exact ⟨rfl, by first | decide | assumption | exact Or.inl rfl | exact Or.inr rfl | exact b2i_01 _⟩) ?_
      rw [i7, show 1 - i = 0 by omega, jl_e (Or.inl rfl)] at h1; exact h1 _ i1 i2 i3 i4
    ·
      rw [show ((1 : Int32) ≤ nI i ↔ 1 ≤ i) from nI_leI (a := 1) (by omega) (by omega)] at hc42
      refine R_gs 49 rfl ?_
      refine W_b rfl (fun hc49 => ?_) (fun hc49 => ?_)
      ·
        rw [i3.fz] at hc49
        refine R_gs 59 rfl ?_
        rw [i3.tok]
        refine W_c rfl (SH_t t3) ?_
        rw [tkF1 t3]
        refine R_gs 63 rfl ?_
        refine W_b rfl (fun hc63 => ?_) (fun hc63 => ?_)
        ·
          rw [nI_eq (by have := (rol_L _ t3).2; omega) (by omega)] at hc63
          refine R_gs 73 rfl ?_
          rw [i3.tok]
          refine W_c rfl (SH_t t3) ?_
          rw [tkF2]
          refine R_gs 79 rfl ?_
          refine R_k rfl rfl (c_step kO i3 (fun h6 f6 c6 => ?_))
          obtain ⟨e1, e2⟩ := sp_1 kO i6.1 hc49 (rol_0 (by omega))
          have o7 := o (sp K z.1) (by rw [e1]; exact e2)
          have e3 : (sp K z.1).1 = z.1.1 + 1 := (by rw [e1])
          refine R_gs 88 rfl ?_
          rw [nI_1]
          refine R_k rfl rfl (HX _ (sp K z.1) _ _ c6 (i4.xr hb f6) (by rw [List.length_append]; omega) (fun h7 f7 t7 c7 l7 => ?_))
          refine R_gs 94 rfl ?_
          refine R_k rfl (q_lw hb) (c_lawAdd hb l7 (by rw [List.length_append, List.length_append]; omega) (fun h8 f8 t8 l8 => ?_))
          refine R_gs 38 rfl ?_
          rw [nI_1]; refine w (h8, i + 1, ((X (sp K z.1)).1, z.2 ++ ((X (sp K z.1)).2 ++ [mea (tk K z.1.1)]))) ⟨((i1.trans f6.rx).trans f7).trans f8.lx, t8.trans (t7.trans ((told_xr hb f6).trans i2)), c7.xl hb f8, ?_, by dsimp only; omega, ?_, ?_⟩ (by dsimp only; omega) _
          · show LawC h8 b (c0 ++ (z.2 ++ ((X (sp K z.1)).2 ++ [mea (tk K z.1.1)]))); rw [← List.append_assoc, ← List.append_assoc]; exact l8
          · show (X (sp K z.1)).1.1 < K.1 ∧ s.1 + (z.2 ++ ((X (sp K z.1)).2 ++ [mea (tk K z.1.1)])).length ≤ (X (sp K z.1)).1.1; rw [List.length_append, List.length_append, List.length_singleton]; exact ⟨o7.1, by omega⟩
          · dsimp only; rw [i7, jl_s (by omega) ⟨hc49, hc63⟩, Nat.sub_sub]
        ·
          rw [nI_eq (by have := (rol_L _ t3).2; omega) (by omega)] at hc63
          refine W_f rfl (by first | rfl | exact ⟨rfl, by first | decide | assumption | exact Or.inl rfl | exact Or.inr rfl | exact b2i_01 _⟩) ?_
          rw [i7, jl_e (Or.inr (fun e => hc63 e.2))] at h1; exact h1 _ i1 i2 i3 i4
      ·
        rw [i3.fz] at hc49
        refine W_f rfl (by first | rfl | exact ⟨rfl, by first | decide | assumption | exact Or.inl rfl | exact Or.inr rfl | exact b2i_01 _⟩) ?_
        rw [i7, jl_e (Or.inr (fun e => hc49 e.1))] at h1; exact h1 _ i1 i2 i3 i4
theorem cx_jm {l : Nat} {v : Int32} {X : EX} (kO : TokOK K) (hb : lwI b) (hl3 : l ≤ 3) (hl1 : l = 1 ↔ 1000 = 1) (o : EXo K X) (HX : CX K b (d + 3) m_X8_readJoined [.ref 6, .ref b, .int (nI (l + 1)), .int v] X) : CX K b (d + 4) m_X8_readJoined [.ref 6, .ref b, .int (nI l), .int v] (JL K l 1000 X) := by
  intro h s c0 Q c hl hn h1
  have kb : b = 165 ∨ b = 168 ∨ b = 193 ∨ b = 196 := hb
  have hs : s.1 < K.1 := c.2.1.1
  have k1 := kO.1
  have o1 := o s hs
  have hL : ¬ nI l = 1 ↔ ¬ 1000 = 1 := (by rw [show (nI l = 1 ↔ l = 1) from nI_eq (b := 1) (by omega) (by omega), hl1])
  unfold JL at h1
  refine R_in rfl rfl ?_
  refine R_gs 2 rfl ?_
  refine W_bt rfl ((nI_leI (b := 3) (by omega) (by omega)).mpr hl3) ?_
  refine R_gs 14 rfl ?_
  refine W_bf rfl (by first | rfl | exact hL.mpr (by decide)) ?_
  refine R_gs 32 rfl ?_
  rw [nI_1]
  refine R_k rfl rfl (HX _ s c0 _ c hl hn (fun h5 f5 t5 c5 l5 => ?_))
  refine R_gs 38 rfl ?_
  refine w_meas (W := fun (y : AH × Nat × (RS × List Int32)) => ∀ x6 : Option Value, Rw (d + 3) Q (m_X8_readJoined, 38, [some (.ref 6), some (.ref b), some (.int (nI l)), some (.int v), some (.int 1000), some (.int (nI y.2.1)), x6], [], 262, y.1)) (fun y => Fr (xex b) h y.1 ∧ hI y.1 b 3 = hI h b 3 ∧ CF y.1 K y.2.2.1 ∧ LawC y.1 b (c0 ++ y.2.2.2) ∧ y.2.1 ≤ 1000 ∧ (y.2.2.1.1 < K.1 ∧ s.1 + y.2.2.2.length ≤ y.2.2.1.1) ∧ jl K X l 1000 (X s) = jl K X l (1000 - y.2.1) y.2.2) (fun y => 1000 - y.2.1) (s0 := (h5, 0, X s)) ⟨f5, t5, c5, l5, Nat.zero_le _, o1, rfl⟩ (fun y hi w => ?_) none
  ·
    intro x6
    obtain ⟨g, i, z⟩ := y
    obtain ⟨i1, i2, i3, i4, i5, i6, i7⟩ := hi
    dsimp only at i1 i2 i3 i4 i5 i6 i7 ⊢
    have t3 := i3.t38 kO
    refine R_gs 42 rfl ?_
    refine W_b rfl (fun hc42 => ?_) (fun hc42 => ?_)
    ·
      rw [show ((1000 : Int32) ≤ nI i ↔ 1000 ≤ i) from nI_leI (a := 1000) (by omega) (by omega)] at hc42
      refine W_f rfl (by first | rfl | exact ⟨rfl, by first | decide | assumption | exact Or.inl rfl | exact Or.inr rfl | exact b2i_01 _⟩) ?_
      rw [i7, show 1000 - i = 0 by omega, jl_e (Or.inl rfl)] at h1; exact h1 _ i1 i2 i3 i4
    ·
      rw [show ((1000 : Int32) ≤ nI i ↔ 1000 ≤ i) from nI_leI (a := 1000) (by omega) (by omega)] at hc42
      refine R_gs 49 rfl ?_
      refine W_b rfl (fun hc49 => ?_) (fun hc49 => ?_)
      ·
        rw [i3.fz] at hc49
        refine R_gs 59 rfl ?_
        rw [i3.tok]
        refine W_c rfl (SH_t t3) ?_
        rw [tkF1 t3]
        refine R_gs 63 rfl ?_
        refine W_b rfl (fun hc63 => ?_) (fun hc63 => ?_)
        ·
          rw [nI_eq (by have := (rol_L _ t3).2; omega) (by omega)] at hc63
          refine R_gs 73 rfl ?_
          rw [i3.tok]
          refine W_c rfl (SH_t t3) ?_
          rw [tkF2]
          refine R_gs 79 rfl ?_
          refine R_k rfl rfl (c_step kO i3 (fun h6 f6 c6 => ?_))
          obtain ⟨e1, e2⟩ := sp_1 kO i6.1 hc49 (rol_0 (by omega))
          have o7 := o (sp K z.1) (by rw [e1]; exact e2)
          have e3 : (sp K z.1).1 = z.1.1 + 1 := (by rw [e1])
          refine R_gs 88 rfl ?_
          rw [nI_1]
          refine R_k rfl rfl (HX _ (sp K z.1) _ _ c6 (i4.xr hb f6) (by rw [List.length_append]; omega) (fun h7 f7 t7 c7 l7 => ?_))
          refine R_gs 94 rfl ?_
          refine R_k rfl (q_lw hb) (c_lawAdd hb l7 (by rw [List.length_append, List.length_append]; omega) (fun h8 f8 t8 l8 => ?_))
          refine R_gs 38 rfl ?_
          rw [nI_1]; refine w (h8, i + 1, ((X (sp K z.1)).1, z.2 ++ ((X (sp K z.1)).2 ++ [mea (tk K z.1.1)]))) ⟨((i1.trans f6.rx).trans f7).trans f8.lx, t8.trans (t7.trans ((told_xr hb f6).trans i2)), c7.xl hb f8, ?_, by dsimp only; omega, ?_, ?_⟩ (by dsimp only; omega) _
          · show LawC h8 b (c0 ++ (z.2 ++ ((X (sp K z.1)).2 ++ [mea (tk K z.1.1)]))); rw [← List.append_assoc, ← List.append_assoc]; exact l8
          · show (X (sp K z.1)).1.1 < K.1 ∧ s.1 + (z.2 ++ ((X (sp K z.1)).2 ++ [mea (tk K z.1.1)])).length ≤ (X (sp K z.1)).1.1; rw [List.length_append, List.length_append, List.length_singleton]; exact ⟨o7.1, by omega⟩
          · dsimp only; rw [i7, jl_s (by omega) ⟨hc49, hc63⟩, Nat.sub_sub]
        ·
          rw [nI_eq (by have := (rol_L _ t3).2; omega) (by omega)] at hc63
          refine W_f rfl (by first | rfl | exact ⟨rfl, by first | decide | assumption | exact Or.inl rfl | exact Or.inr rfl | exact b2i_01 _⟩) ?_
          rw [i7, jl_e (Or.inr (fun e => hc63 e.2))] at h1; exact h1 _ i1 i2 i3 i4
      ·
        rw [i3.fz] at hc49
        refine W_f rfl (by first | rfl | exact ⟨rfl, by first | decide | assumption | exact Or.inl rfl | exact Or.inr rfl | exact b2i_01 _⟩) ?_
        rw [i7, jl_e (Or.inr (fun e => hc49 e.1))] at h1; exact h1 _ i1 i2 i3 i4
/-- all levels over the parts, and the parts themselves -/
theorem cx_J {v : Int32} {P : EX} (kO : TokOK K) (hb : lwI b) (o : EXo K P) (HP : CX K b (d + 2) m_X8_readPart [.ref 6, .ref b, .int v] P) : CX K b (d + 7) m_X8_readJoined [.ref 6, .ref b, .int 0, .int v] (eJ K P 0) := by
  have o3 := JL_o (m := 1000) kO (by omega : 3 < 4) o
  have o2 := JL_o (m := 1000) kO (by omega : 2 < 4) o3
  have o1 := JL_o (m := 1) kO (by omega : 1 < 4) o2
  have j4 := cx_j4 HP
  have j3 := cx_jm (l := 3) (d := d) kO hb (by omega) (by omega) o j4
  have j2 := cx_jm (l := 2) (d := d + 1) kO hb (by omega) (by omega) o3 j3
  have j1 := cx_j1 (l := 1) (d := d + 2) kO hb (by omega) (by omega) o2 j2
  exact cx_jm (l := 0) (d := d + 3) kO hb (by omega) (by omega) o1 j1
theorem cx_P (kO : TokOK K) (hb : lwI b) : ∀ a, a ≤ 5 → CX K b (d + 3 + 6 * a) m_X8_readPart [.ref 6, .ref b, .int (nI (5 - a))] (eP K a)
  | 0, _ => cx_part0 kO hb
  | a + 1, ha => by
    have ih := cx_P kO hb a (by omega)
    have j := cx_J (d := d + 1 + 6 * a) kO hb (eP_o kO a) (ih.le (by omega))
    exact (cx_partS (d := d + 5 + 6 * a) kO hb ha (ih.le (by omega)) (j.le (by omega))).le (by omega)
theorem cx_E (kO : TokOK K) (hb : lwI b) : CX K b (d + 38) m_X8_readJoined [.ref 6, .ref b, .int 0, .int 0] (eE K) :=
  (cx_J (d := d + 31) kO hb (eP_o kO 5) (cx_P (d := d) kO hb 5 (by omega))).le (by omega)
end

/-! a province that is being told: how many sayings, places, people, people told in full; of these kind, home, shyness; odds; likings; dispensations; which likings were told; names; the laws, and whether they were told -/
abbrev PD : Type := (Nat × Nat × Nat × Nat) × (Nat → Nat × Nat × Nat) × (Nat → Nat → Nat) × (Nat → Nat → Nat) × Int32 × (Nat → Int32) × SN' × (List Int32 × Bool) × (List Int32 × Bool)
def dS (D : PD) : Nat := D.1.1
def dQ (D : PD) : Nat := D.1.2.1
def dP (D : PD) : Nat := D.1.2.2.1
def dM (D : PD) : Nat := D.1.2.2.2
def dX (D : PD) : Nat → Nat × Nat × Nat := D.2.1
def dO (D : PD) : Nat → Nat → Nat := D.2.2.1
def dG (D : PD) : Nat → Nat → Nat := D.2.2.2.1
def dE (D : PD) : Int32 := D.2.2.2.2.1
def dT (D : PD) : Nat → Int32 := D.2.2.2.2.2.1
def dN (D : PD) : SN' := D.2.2.2.2.2.2.1
def dC (D : PD) : List Int32 × Bool := D.2.2.2.2.2.2.2.1
def dD (D : PD) : List Int32 × Bool := D.2.2.2.2.2.2.2.2
def D0 : PD := ((0, 0, 0, 0), (fun _ => (0, 0, 0)), (fun _ _ => 0), (fun _ _ => 0), 0, (fun _ => 0), (0, fun _ => (0, [], 0)), ([1], false), ([1, -1, -9, -2, -9], false))
def up1 {α : Type} (f : Nat → α) (i : Nat) (v : α) : Nat → α := fun j => if j = i then v else f j
def up3 {α : Type} (f : Nat → Nat → α) (i k : Nat) (v : α) : Nat → Nat → α := fun j => if j = i then up1 (f j) k v else f j
/-- how many of a sort -/
def dct (D : PD) (σ : Nat) : Nat := if σ = 0 then dS D else if σ = 1 then dQ D else dP D
def dmx (σ : Nat) : Nat := if σ = 0 then 5 else if σ = 1 then 4 else 6
def addN (D : PD) (σ : Nat) (l : List Nat) : PD := ((if σ = 0 then dS D + 1 else dS D, if σ = 1 then dQ D + 1 else dQ D, if σ = 2 then dP D + 1 else dP D, dM D), dX D, dO D, dG D, dE D, dT D, ((dN D).1 + 1, up1 (dN D).2 (dN D).1 (σ, l, dct D σ)), dC D, dD D)
def setX (D : PD) (p : Nat) (x : Nat × Nat × Nat) : PD := ((dS D, dQ D, dP D, p + 1), up1 (dX D) p x, dO D, dG D, dE D, dT D, dN D, dC D, dD D)
def setO (D : PD) (p w v : Nat) : PD := (D.1, dX D, up3 (dO D) p w v, dG D, dE D, dT D, dN D, dC D, dD D)
def setG (D : PD) (p q v : Nat) : PD := (D.1, dX D, dO D, up3 (dG D) p q v, dE D, up1 (dT D) p (dT D p ||| nI (2 ^ q)), dN D, dC D, dD D)
def setK (D : PD) (p q : Nat) : PD := (D.1, dX D, dO D, dG D, dE D ||| nI (2 ^ pr p q), dT D, dN D, dC D, dD D)
def setC (D : PD) (k : Nat) (c : List Int32) : PD := (D.1, dX D, dO D, dG D, dE D, dT D, dN D, if k = 0 then (c, true) else dC D, if k = 0 then dD D else (c, true))
/-! the lines of a province -/
def lnN (K : TKs) (σ : Nat) (s : RS) (D : PD) : RS × PD × Nat :=
  let s2 := sp K (bl K (decide (dmx σ ≤ dct D σ)) 5 s)
  let s4 := bl K (hsN (dN D) (tl K s2.1)) 3 (bl K (!isNm (tk K s2.1)) 1 s2)
  (sp K s4, if s4.2 = 0 then addN D σ (tl K s2.1) else D, if s4.2 = 0 then dct D σ else 0)
def lnX (K : TKs) (s : RS) (D : PD) : RS × PD :=
  let z := lnN K 2 s D
  let s3 := ex K 10 (sp K (bl K (!decide (rol (tk K z.1.1) = 5)) 1 z.1))
  let y := rk K (dN z.2.1) 1 s3
  let s5 := ex K 11 y.1
  let s6 := rn K 0 s5
  (s6, if s6.2 = 0 then setX z.2.1 z.2.2 ((mea (tk K z.1.1)).toNatClampNeg, y.2.toNatClampNeg, tn K s5.1) else z.2.1)
def lnO (K : TKs) (s : RS) (D : PD) : RS × PD :=
  let y := rk K (dN D) 2 (sp K s)
  let x := lu K (dN D) 0 y.1
  let s4 := sp K (bl K (decide (x.1.2 = 0) && decide (0 < dO D y.2.toNatClampNeg x.2.toNatClampNeg)) 3 x.1)
  let s5 := rn K 1 s4
  (s5, if s5.2 = 0 then setO D y.2.toNatClampNeg x.2.toNatClampNeg (tn K s4.1) else D)
def lnG (K : TKs) (s : RS) (D : PD) : RS × PD :=
  let y := rk K (dN D) 2 (sp K s)
  let x := lu K (dN D) 2 y.1
  let s4 := sp K (bl K (decide (x.1.2 = 0) && (decide (x.2 = y.2) || bt (dT D y.2.toNatClampNeg) x.2.toNatClampNeg)) 3 x.1)
  let s5 := rn K 0 s4
  (s5, if s5.2 = 0 then setG D y.2.toNatClampNeg x.2.toNatClampNeg (tn K s4.1) else D)
def lnK (K : TKs) (s : RS) (D : PD) : RS × PD :=
  let y := rk K (dN D) 2 (sp K s)
  let x := lu K (dN D) 2 y.1
  let s4 := sp K (bl K (decide (x.1.2 = 0) && (decide (x.2 = y.2) || bt (dE D) (pr y.2.toNatClampNeg x.2.toNatClampNeg))) 3 x.1)
  (s4, if s4.2 = 0 then setK D y.2.toNatClampNeg x.2.toNatClampNeg else D)
def lnL (K : TKs) (k : Nat) (s : RS) (D : PD) : RS × PD :=
  let z := eE K (sp K (bl K (if k = 0 then (dC D).2 else (dD D).2) 3 s))
  (z.1, setC D k z.2)
def lnA (K : TKs) (s : RS) (D : PD) : RS × PD :=
  let t := tk K s.1
  if t = 7 then ((lnN K 0 s D).1, (lnN K 0 s D).2.1) else if t = 8 then ((lnN K 1 s D).1, (lnN K 1 s D).2.1) else if t = 9 then lnX K s D else if t = 12 then lnO K s D else if t = 13 then lnG K s D else if t = 14 then lnK K s D else if t = 15 then lnL K 0 s D else if t = 16 then lnL K 1 s D else (bl K true 1 s, D)
def lns (K : TKs) : Nat → RS → PD → RS × PD
  | 0, s, D => (s, D)
  | m + 1, s, D => if s.2 = 0 ∧ tk K s.1 ≠ 0 then lns K m (ex K 6 (lnA K s D).1) (lnA K s D).2 else (s, D)
def prvA (K : TKs) : RS × PD := lns K 1001 (0, 0) D0
/-- what must hold of a draft, at any time -/
def PdO (D : PD) : Prop := dS D ≤ 5 ∧ dQ D ≤ 4 ∧ dP D ≤ 6 ∧ dM D ≤ 6 ∧ (dN D).1 ≤ dS D + dQ D + dP D ∧ (∀ k, k < (dN D).1 → ((dN D).2 k).1 ≤ 2 ∧ LtO ((dN D).2 k).2.1 ∧ ((dN D).2 k).2.2 < dct D ((dN D).2 k).1) ∧ (∀ j k, j < k → k < (dN D).1 → ((dN D).2 j).2.1 ≠ ((dN D).2 k).2.1)
theorem dct_le {D : PD} (o : PdO D) (σ : Nat) : dct D σ ≤ 6 := by
  obtain ⟨o1, o2, o3, -⟩ := o
  unfold dct
  split
  · omega
  · split <;> omega
theorem PdO.nm {D : PD} (o : PdO D) : NmO (dN D) := by
  have od := dct_le o
  obtain ⟨o1, o2, o3, o4, o5, o6, o7⟩ := o
  exact ⟨by omega, fun k hk => ⟨(o6 k hk).1, (o6 k hk).2.1, Nat.lt_of_lt_of_le (o6 k hk).2.2 (od _)⟩⟩
/-! the class's draft -/
def PdC (h : AH) (a : Nat) (D : PD) : Prop := hI h a 4 = nI (dS D) ∧ hI h a 5 = nI (dQ D) ∧ hI h a 6 = nI (dP D) ∧ hI h a 13 = dE D ∧
  (∀ p, p < dM D → hI h (a + 4) p = nI (dX D p).1 ∧ hI h (a + 5) p = nI (dX D p).2.1 ∧ hI h (a + 6) p = nI (dX D p).2.2) ∧
  (∀ p, p < 6 → (∀ w, w < 5 → hI h (a + 8 + p) w = nI (dO D p w)) ∧ (∀ q, q < 6 → hI h (a + 15 + p) q = nI (dG D p q)) ∧ hI h (a + 21) p = dT D p) ∧
  NamC h a (dN D) ∧ (LawC h (a + 22) (dC D).1 ∧ hI h (a + 22) 3 = b2i (dC D).2) ∧ (LawC h (a + 25) (dD D).1 ∧ hI h (a + 25) 3 = b2i (dD D).2)
theorem PdC.fr {h h' : AH} {a : Nat} {D : PD} {X : Nat → Bool} (c : PdC h a D) (f : Fr X h h') (hX : ∀ i, i < 27 → i ≠ 24 → X (a + i) = false) : PdC h' a D := by
  obtain ⟨c1, c2, c3, c4, c5, c6, c7, c8, c9⟩ := c
  have x0 := hX 0 (by omega) (by omega)
  rw [Nat.add_zero] at x0
  refine ⟨by rw [f.I x0]; exact c1, by rw [f.I x0]; exact c2, by rw [f.I x0]; exact c3, by rw [f.I x0]; exact c4, fun p hp => ?_, fun p hp => ⟨fun w hw => ?_, fun q hq => ?_, ?_⟩, c7.fr f x0 (hX 1 (by omega) (by omega)) (hX 2 (by omega) (by omega)) (hX 3 (by omega) (by omega)), ⟨c8.1.fr f (hX 22 (by omega) (by omega)) (hX 23 (by omega) (by omega)), by rw [f.I (hX 22 (by omega) (by omega))]; exact c8.2⟩, ⟨c9.1.fr f (hX 25 (by omega) (by omega)) (hX 26 (by omega) (by omega)), by rw [f.I (hX 25 (by omega) (by omega))]; exact c9.2⟩⟩
  · rw [f.I (hX 4 (by omega) (by omega)), f.I (hX 5 (by omega) (by omega)), f.I (hX 6 (by omega) (by omega))]; exact c5 p hp
  · rw [f.I (b := a + 8 + p) (by rw [Nat.add_assoc]; exact hX (8 + p) (by omega) (by omega))]; exact (c6 p hp).1 w hw
  · rw [f.I (b := a + 15 + p) (by rw [Nat.add_assoc]; exact hX (15 + p) (by omega) (by omega))]; exact (c6 p hp).2.1 q hq
  · rw [f.I (hX 21 (by omega) (by omega))]; exact (c6 p hp).2.2
section
variable {d a : Nat} {h h' : AH} {K : TKs} {s : RS} {D : PD} {N : SN'} {Q : Option Value → AH → Prop}
theorem PdC.xr (ha : a = 143 ∨ a = 171) (c : PdC h a D) (f : Fr xrd h h') : PdC h' a D := c.fr f (fun i _ _ => xrd_f (by omega) (by omega))
/-- the draft's own cells -/
def xda (a q : Nat) : Bool := Nat.ble a q && Nat.ble q (a + 27)
def xdr (a q : Nat) : Bool := xrd q || xda a q
theorem Fr.dr (f : Fr xrd h h') : Fr (xdr a) h h' := f.mono (fun q hq => by unfold xdr; rw [hq]; rfl)
theorem xda_t {q : Nat} (h1 : a ≤ q) (h2 : q ≤ a + 27) : xda a q = true := by unfold xda; rw [Nat.ble_eq_true_of_le h1, Nat.ble_eq_true_of_le h2]; rfl
theorem xda_f {q : Nat} (h1 : q < a ∨ a + 27 < q) : xda a q = false := by
  cases e : xda a q with
  | false => rfl
  | true => simp only [xda, Bool.and_eq_true, Nat.ble_eq] at e; omega
theorem Fr.da (f : Fr (xda a) h h') : Fr (xdr a) h h' := f.mono (fun q hq => by unfold xdr; rw [hq, Bool.or_true])
theorem CF.da (ha : a = 143 ∨ a = 171) (c : CF h K s) (f : Fr (xda a) h h') : CF h' K s := c.fr f (xda_f (by omega)) (xda_f (by omega)) (xda_f (by omega)) (xda_f (by omega)) (xda_f (by omega))
theorem c_hasName {v : Int64} (ha : a = 143 ∨ a = 171) (hN : hI h a 3 = nI N.1) (n1 : N.1 ≤ 15) (h1 : Q (some (.int (b2i (anyN N.1 (fun j => decide (hJ h (a + 1) j = v)))))) h) : Rc (d + 1) m_X7_hasName [.ref a, .long v] h Q := by
  rcases ha with rfl | rfl
  all_goals
    refine R_in rfl rfl ?_
    refine R_gs 2 rfl ?_
    refine w_any (W := fun j => Rw d Q (m_X7_hasName, 2, [some (.ref _), some (.long v), none, some (.int (nI j))], [], 262, h)) (A := Q (some (.int 1)) h) N.1 (fun j => decide (hJ h _ j = v)) (fun e => by rw [e] at h1; exact h1) (fun e => ?_) (fun j hj w1 w2 => ?_)
    ·
      refine R_gs 7 rfl ?_
      try rw [hN]
      refine W_bt rfl (Int32.le_refl _) ?_
      refine R_gs 30 rfl ?_
      refine W_f rfl (by first | rfl | exact ⟨rfl, by first | decide | assumption | exact Or.inl rfl | exact Or.inr rfl | exact b2i_01 _⟩) ?_
      rw [e] at h1; exact h1
    ·
      refine R_gs 7 rfl ?_
      try rw [hN]
      refine W_bf rfl (fun e => absurd ((nI_leI (by omega) (by omega)).mp e) (by omega)) ?_
      refine R_gs 15 rfl ?_
      refine R_ll rfl rfl (ix_nI _) (by omega) rfl ?_
      refine R_gs 18 rfl ?_
      refine W_b rfl (fun hc18 => ?_) (fun hc18 => ?_)
      ·
        rw [lg_eq] at hc18
        refine R_gs 22 rfl ?_
        refine W_f rfl (by first | rfl | exact ⟨rfl, by first | decide | assumption | exact Or.inl rfl | exact Or.inr rfl | exact b2i_01 _⟩) ?_
        exact w1 (decide_eq_true hc18)
      ·
        rw [lg_eq] at hc18
        refine R_gs 2 rfl ?_
        rw [nI_1]; exact w2 (decide_eq_false hc18)
theorem hs_is (hN : NamC h a N) (nO : NmO N) {l : List Nat} (hl : LtO l) {v : Int64} (hv : v = lN64 (pkC l)) : anyN N.1 (fun j => decide (hJ h (a + 1) j = v)) = hsN N l := by
  unfold hsN anyN
  refine lp_ext _ (fun j t hj => ?_)
  dsimp only
  rw [hv, (hN.2 j hj).1]
  have := nO.2 j hj
  rw [show decide (lN64 (pkC (N.2 j).2.1) = lN64 (pkC l)) = decide ((N.2 j).2.1 = l) from decide_eq_decide.mpr (by rw [l64_eq this.2.1.b hl.b, pkC_inj this.2.1 hl])]
theorem c_isFull {σ : Nat} (ha : a = 143 ∨ a = 171) (hσ : σ ≤ 2) (c : PdC h a D) (o : PdO D) (h1 : Q (some (.int (b2i (decide (dmx σ ≤ dct D σ))))) h) : Rc (d + 1) m_X7_isFull [.ref a, .ref (1007 + σ)] h Q := by
  obtain ⟨o1, o2, o3, -⟩ := o
  obtain ⟨c1, c2, c3, -⟩ := c
  unfold dmx dct at h1
  rcases ha with rfl | rfl
  all_goals
    refine R_in rfl rfl ?_
    refine R_gs 4 rfl ?_
    refine W_d rfl (by omega) (by omega) (by omega) (by omega) (fun hc4 => ?_) (fun hc4 => ?_)
    ·
      have e0 : σ = 0 := (by omega)
      subst e0
      refine R_gs 12 rfl ?_
      try rw [c1]
      refine R_jn 20 (decide (5 ≤ dS D)) rfl (by rw [decide_eq_false_iff_not]; exact ⟨fun e => (nI_ltI (b := 5) (by omega) (by omega)).mpr (by omega), fun e => by have := (nI_ltI (b := 5) (by omega) (by omega)).mp e; omega⟩) rfl rfl ?_
      refine W_f rfl (by first | rfl | exact ⟨rfl, by first | decide | assumption | exact Or.inl rfl | exact Or.inr rfl | exact b2i_01 _⟩) ?_
      exact h1
    ·
      have e0 : ¬ σ = 0 := (by omega)
      rw [if_neg e0, if_neg e0] at h1
      refine R_gs 25 rfl ?_
      refine W_d rfl (by omega) (by omega) (by omega) (by omega) (fun hc25 => ?_) (fun hc25 => ?_)
      ·
        have e1 : σ = 1 := (by omega)
        subst e1
        refine R_gs 33 rfl ?_
        try rw [c2]
        refine W_b rfl (fun hc33 => ?_) (fun hc33 => ?_)
        ·
          rw [show (nI (dQ D) < 4 ↔ dQ D < 4) from nI_ltI (b := 4) (by omega) (by omega)] at hc33
          refine R_gs 58 rfl ?_
          refine W_f rfl (by first | rfl | exact ⟨rfl, by first | decide | assumption | exact Or.inl rfl | exact Or.inr rfl | exact b2i_01 _⟩) ?_
          rw [if_pos rfl, if_pos rfl, decide_eq_false (by omega)] at h1; exact h1
        ·
          rw [show (nI (dQ D) < 4 ↔ dQ D < 4) from nI_ltI (b := 4) (by omega) (by omega)] at hc33
          refine R_gs 58 rfl ?_
          refine W_f rfl (by first | rfl | exact ⟨rfl, by first | decide | assumption | exact Or.inl rfl | exact Or.inr rfl | exact b2i_01 _⟩) ?_
          rw [if_pos rfl, if_pos rfl, decide_eq_true (by omega)] at h1; exact h1
      ·
        have e1 : ¬ σ = 1 := (by omega)
        rw [if_neg e1, if_neg e1] at h1
        refine R_gs 50 rfl ?_
        try rw [c3]
        refine W_b rfl (fun hc50 => ?_) (fun hc50 => ?_)
        ·
          rw [show (nI (dP D) < 6 ↔ dP D < 6) from nI_ltI (b := 6) (by omega) (by omega)] at hc50
          refine R_gs 58 rfl ?_
          refine W_f rfl (by first | rfl | exact ⟨rfl, by first | decide | assumption | exact Or.inl rfl | exact Or.inr rfl | exact b2i_01 _⟩) ?_
          rw [decide_eq_false (by omega)] at h1; exact h1
        ·
          rw [show (nI (dP D) < 6 ↔ dP D < 6) from nI_ltI (b := 6) (by omega) (by omega)] at hc50
          refine R_gs 58 rfl ?_
          refine W_f rfl (by first | rfl | exact ⟨rfl, by first | decide | assumption | exact Or.inl rfl | exact Or.inr rfl | exact b2i_01 _⟩) ?_
          rw [decide_eq_true (by omega)] at h1; exact h1
end

section
variable {d a : Nat} {h h' : AH} {K : TKs} {s : RS} {D : PD} {N : SN'} {Q : Option Value → AH → Prop}
theorem bl_z {b : Bool} {k : Nat} (hk : 0 < k) (hz : (bl K b k s).2 = 0) : b = false ∧ s.2 = 0 := by
  by_cases e : s.2 = 0
  · cases b with
    | false => exact ⟨rfl, e⟩
    | true => rw [bl_y e] at hz; dsimp only at hz; omega
  · rw [bl_n (Or.inr e)] at hz; exact absurd hz e
theorem bl_c {b b' : Bool} {k : Nat} (hb : s.2 = 0 → b = b') : bl K b k s = bl K b' k s := by
  by_cases e : s.2 = 0
  · rw [hb e]
  · rw [bl_n (Or.inr e), bl_n (Or.inr e)]
theorem sp_z (hz : (sp K s).2 = 0) : s.2 = 0 := by
  unfold sp at hz
  split at hz
  · assumption
  · exact hz
theorem CF.val (kO : TokOK K) (c : CF h K s) (hn : isNm (tk K s.1) = true) : LtO (tl K s.1) ∧ hJ h 1 9 = lN64 (pkC (tl K s.1)) := by
  have t1 := c.t38 kO
  have g := (c.tg kO).2.2.2.1 (nmW _ t1 hn).1
  exact ⟨g.1, c.2.1.2.2.2.2.2 g.1.1⟩
theorem CF.tokS (c : CF h K s) {σ : Nat} (ht : tk K s.1 = 7 + σ) : va_rf (hR h 1 7) = .ref (1007 + σ) := by
  rw [c.tok, ht, show 1000 + (7 + σ) = 1007 + σ by omega]
theorem NamC.xr (ha : a = 143 ∨ a = 171) (c : NamC h a N) (f : Fr xrd h h') : NamC h' a N := c.fr f (xrd_f (by omega) (by omega)) (xrd_f (by omega) (by omega)) (xrd_f (by omega) (by omega)) (xrd_f (by omega) (by omega))
theorem c_lookUp {σ : Nat} (kO : TokOK K) (ha : a = 143 ∨ a = 171) (hN : NamC h a N) (nO : NmO N) (hσ : σ ≤ 2) (c : CF h K s) (h1 : ∀ h', Fr xrd h h' → CF h' K (lu K N σ s).1 → Q (some (.int (lu K N σ s).2)) h') : Rc (d + 3) m_X8_lookUp [.ref 6, .ref a, .ref (1007 + σ)] h Q := by
  have t1 := c.t38 kO
  unfold lu at h1
  dsimp only at h1
  refine R_in rfl rfl ?_
  refine R_gs 8 rfl ?_
  rw [c.tok]
  refine R_k rfl (q_tk t1) (c_isName t1 ?_)
  refine R_j 19 (!isNm (tk K s.1)) rfl (by rw [b2i0]; simp) rfl rfl ?_
  refine R_gs 20 rfl ?_
  refine R_k rfl rfl (c_blameIf kO (k := 1) (by decide) c (fun h2 f2 c2 => ?_))
  refine R_gs 27 rfl ?_
  refine W_b rfl (fun hc27 => ?_) (fun hc27 => ?_)
  ·
    rw [c2.fz] at hc27
    rw [if_pos hc27] at h1
    have nz := bl_z (by decide) hc27
    rw [Bool.not_eq_false'] at nz
    have vl := c2.val kO (by rw [bl_1]; exact nz.1)
    rw [bl_1] at vl
    refine R_gs 39 rfl ?_
    rw [vl.2]
    refine R_k rfl (q_ld ha) (c_find ha (hN.xr ha f2) nO vl.1 hσ ?_)
    refine R_gs 50 rfl ?_
    refine R_j 58 (decide (fnd N σ (tl K s.1) = -1)) rfl (by rw [decide_eq_true_eq]) rfl rfl ?_
    refine R_gs 59 rfl ?_
    refine R_k rfl rfl (c_blameIf kO (k := 2) (by decide) c2 (fun h3 f3 c3 => ?_))
    refine R_gs 63 rfl ?_
    refine W_f rfl (by first | rfl | exact ⟨rfl, by first | decide | assumption | exact Or.inl rfl | exact Or.inr rfl | exact b2i_01 _⟩) ?_
    exact h1 _ (f2.trans f3) c3
  ·
    rw [c2.fz] at hc27
    rw [if_neg hc27] at h1
    refine R_gs 50 rfl ?_
    refine R_j 58 (decide ((-1 : Int32) = -1)) rfl (by decide) rfl rfl ?_
    refine R_gs 59 rfl ?_
    refine R_k rfl rfl (c_blameIf kO (k := 2) (by decide) c2 (fun h3 f3 c3 => ?_))
    refine R_gs 63 rfl ?_
    refine W_f rfl (by first | rfl | exact ⟨rfl, by first | decide | assumption | exact Or.inl rfl | exact Or.inr rfl | exact b2i_01 _⟩) ?_
    exact h1 _ (f2.trans f3) c3
theorem c_readKnown {σ : Nat} (kO : TokOK K) (ha : a = 143 ∨ a = 171) (hN : NamC h a N) (nO : NmO N) (hσ : σ ≤ 2) (c : CF h K s) (h1 : ∀ h', Fr xrd h h' → CF h' K (rk K N σ s).1 → Q (some (.int (rk K N σ s).2)) h') : Rc (d + 4) m_X8_readKnown [.ref 6, .ref a, .ref (1007 + σ)] h Q := by
  refine R_in rfl rfl ?_
  refine R_gs 3 rfl ?_
  refine R_k rfl rfl (c_lookUp kO ha hN nO hσ c (fun h2 f2 c2 => ?_))
  refine R_gs 8 rfl ?_
  refine R_k rfl rfl (c_step kO c2 (fun h3 f3 c3 => ?_))
  refine R_gs 12 rfl ?_
  refine W_f rfl (by first | rfl | exact ⟨rfl, by first | decide | assumption | exact Or.inl rfl | exact Or.inr rfl | exact b2i_01 _⟩) ?_
  exact h1 _ (f2.trans f3) c3
theorem c_readNumber {m : Nat} (kO : TokOK K) (hm : m ≤ 1) (c : CF h K s) (h1 : ∀ h' v, Fr xrd h h' → CF h' K (rn K m s) → ((rn K m s).2 = 0 → v = nI (tn K s.1)) → Q (some (.int v)) h') : Rc (d + 3) m_X8_readNumber [.ref 6, .int (nI m)] h Q := by
  have t1 := c.t38 kO
  have g3 := (c.tg kO).2.2.1
  have hv : tk K s.1 = 2 → (hJ h 1 9).toInt32 = nI (tn K s.1) ∧ tn K s.1 ≤ 9999 := fun e => ⟨by rw [c.2.1.2.2.2.2.1 e, l64_i]; rfl, g3 e⟩
  have key : ∀ b, (tk K s.1 = 2 → b = (decide (tn K s.1 < m) || decide (9 < tn K s.1))) → bl K b 4 (bl K (!decide (tk K s.1 = 2)) 1 s) = bl K (decide (tn K s.1 < m) || decide (9 < tn K s.1)) 4 (bl K (!decide (tk K s.1 = 2)) 1 s) := fun b hb => bl_c (fun e => by
    have := bl_z (by decide) e
    rw [Bool.not_eq_false', decide_eq_true_eq] at this
    exact hb this.1)
  have fin : (rn K m s).2 = 0 → (hJ h 1 9).toInt32 = nI (tn K s.1) := fun e => by
    have := bl_z (by decide) (bl_z (by decide) (sp_z e)).2
    rw [Bool.not_eq_false', decide_eq_true_eq] at this
    exact (hv this.1).1
  unfold rn at h1 fin
  refine R_in rfl rfl ?_
  refine R_gs 17 rfl ?_
  rw [c.tok]
  refine R_gs 20 rfl ?_
  refine R_jdn 28 (!decide (tk K s.1 = 2)) rfl (by omega) (by omega) (by omega) (by omega) (by rw [Bool.not_eq_false', decide_eq_true_eq]; constructor <;> intro _ <;> omega) rfl rfl ?_
  refine R_gs 29 rfl ?_
  refine R_k rfl rfl (c_blameIf kO (k := 1) (by decide) c (fun h2 f2 c2 => ?_))
  refine R_gs 35 rfl ?_
  refine W_b rfl (fun hc35 => ?_) (fun hc35 => ?_)
  ·
    refine R_gs 50 rfl ?_
    refine R_k rfl rfl (c_blameIf kO (b := true) (k := 4) (by decide) c2 (fun h3 f3 c3 => ?_))
    rw [key true (fun e => by have e1 := hv e; rw [e1.1, nI_ltI (by omega) (by omega)] at hc35; rw [decide_eq_true hc35]; rfl)] at c3
    refine R_gs 54 rfl ?_
    refine R_k rfl rfl (c_step kO c3 (fun h4 f4 c4 => ?_))
    refine R_gs 58 rfl ?_
    refine W_f rfl (by first | rfl | exact ⟨rfl, by first | decide | assumption | exact Or.inl rfl | exact Or.inr rfl | exact b2i_01 _⟩) ?_
    exact h1 _ _ ((f2.trans f3).trans f4) c4 fin
  ·
    refine R_gs 41 rfl ?_
    refine W_b rfl (fun hc41 => ?_) (fun hc41 => ?_)
    ·
      refine R_gs 50 rfl ?_
      refine R_k rfl rfl (c_blameIf kO (b := false) (k := 4) (by decide) c2 (fun h3 f3 c3 => ?_))
      rw [key false (fun e => by have e1 := hv e; rw [e1.1, nI_ltI (by omega) (by omega)] at hc35; rw [e1.1, show (nI (tn K s.1) ≤ 9 ↔ tn K s.1 ≤ 9) from nI_leI (b := 9) (by omega) (by omega)] at hc41; rw [decide_eq_false hc35, decide_eq_false (by omega)]; rfl)] at c3
      refine R_gs 54 rfl ?_
      refine R_k rfl rfl (c_step kO c3 (fun h4 f4 c4 => ?_))
      refine R_gs 58 rfl ?_
      refine W_f rfl (by first | rfl | exact ⟨rfl, by first | decide | assumption | exact Or.inl rfl | exact Or.inr rfl | exact b2i_01 _⟩) ?_
      exact h1 _ _ ((f2.trans f3).trans f4) c4 fin
    ·
      refine R_gs 50 rfl ?_
      refine R_k rfl rfl (c_blameIf kO (b := true) (k := 4) (by decide) c2 (fun h3 f3 c3 => ?_))
      rw [key true (fun e => by have e1 := hv e; rw [e1.1, show (nI (tn K s.1) ≤ 9 ↔ tn K s.1 ≤ 9) from nI_leI (b := 9) (by omega) (by omega)] at hc41; rw [decide_eq_true (by omega : 9 < tn K s.1), Bool.or_true])] at c3
      refine R_gs 54 rfl ?_
      refine R_k rfl rfl (c_step kO c3 (fun h4 f4 c4 => ?_))
      refine R_gs 58 rfl ?_
      refine W_f rfl (by first | rfl | exact ⟨rfl, by first | decide | assumption | exact Or.inl rfl | exact Or.inr rfl | exact b2i_01 _⟩) ?_
      exact h1 _ _ ((f2.trans f3).trans f4) c4 fin
/-! names that are told -/
theorem pdc_add {σ : Nat} {l : List Nat} (ha : a = 143 ∨ a = 171) (c : PdC h a D) (hσ : σ ≤ 2) : PdC (wI (wI (wR (wJ (wI h a (4 + σ) (nI (dct D σ) + 1)) (a + 1) (dN D).1 (lN64 (pkC l))) (a + 3) (dN D).1 (some (1007 + σ))) (a + 2) (dN D).1 (nI (dct D σ))) a 3 (hI h a 3 + 1)) a (addN D σ l) := by
  obtain ⟨c1, c2, c3, c4, c5, c6, ⟨c7, c7'⟩, ⟨⟨c8, c8'⟩, c8''⟩, ⟨⟨c9, c9'⟩, c9''⟩⟩ := c
  have e : ∀ k, hI (wI (wI (wR (wJ (wI h a (4 + σ) (nI (dct D σ) + 1)) (a + 1) (dN D).1 (lN64 (pkC l))) (a + 3) (dN D).1 (some (1007 + σ))) (a + 2) (dN D).1 (nI (dct D σ))) a 3 (hI h a 3 + 1)) a k = if k = 3 then hI h a 3 + 1 else if k = 4 + σ then nI (dct D σ) + 1 else hI h a k := fun k => by
    rw [wI_at, wI_ne _ _ _ (by omega : a ≠ a + 2)]
    show (if k = 3 then _ else hI (wI h a (4 + σ) _) a k) = _
    rw [wI_at]
  have e' : ∀ b, b ≠ a → b ≠ a + 2 → hI (wI (wI (wR (wJ (wI h a (4 + σ) (nI (dct D σ) + 1)) (a + 1) (dN D).1 (lN64 (pkC l))) (a + 3) (dN D).1 (some (1007 + σ))) (a + 2) (dN D).1 (nI (dct D σ))) a 3 (hI h a 3 + 1)) b = hI h b := fun b h1 h2 => by
    rw [wI_ne _ _ _ h1, wI_ne _ _ _ h2]
    show hI (wI h a (4 + σ) _) b = _
    rw [wI_ne _ _ _ h1]
  refine ⟨?_, ?_, ?_, ?_, ?_, ?_, ⟨?_, ?_⟩, ⟨⟨?_, ?_⟩, ?_⟩, ⟨⟨?_, ?_⟩, ?_⟩⟩
  · rw [e, if_neg (by omega)]
    show _ = nI (if σ = 0 then dS D + 1 else dS D)
    by_cases h0 : σ = 0
    · subst h0; rw [if_pos rfl, if_pos rfl, nI_1]; rfl
    · rw [if_neg (by omega), if_neg h0]; exact c1
  · rw [e, if_neg (by omega)]
    show _ = nI (if σ = 1 then dQ D + 1 else dQ D)
    by_cases h0 : σ = 1
    · subst h0; rw [if_pos rfl, if_pos rfl, nI_1]; rfl
    · rw [if_neg (by omega), if_neg h0]; exact c2
  · rw [e, if_neg (by omega)]
    show _ = nI (if σ = 2 then dP D + 1 else dP D)
    by_cases h0 : σ = 2
    · subst h0; rw [if_pos rfl, if_pos rfl, nI_1]; rfl
    · rw [if_neg (by omega), if_neg h0]; exact c3
  · rw [e, if_neg (by omega), if_neg (by omega)]; exact c4
  · intro p hp
    rw [e' _ (by omega) (by omega), e' _ (by omega) (by omega), e' _ (by omega) (by omega)]; exact c5 p hp
  · intro p hp
    rw [e' _ (by omega) (by omega), e' _ (by omega) (by omega), e' _ (by omega) (by omega)]; exact c6 p hp
  · rw [e, if_pos rfl, c7, nI_1]; rfl
  · intro k hk
    have hk : k < (dN D).1 + 1 := hk
    have w1 : hJ (wI (wI (wR (wJ (wI h a (4 + σ) (nI (dct D σ) + 1)) (a + 1) (dN D).1 (lN64 (pkC l))) (a + 3) (dN D).1 (some (1007 + σ))) (a + 2) (dN D).1 (nI (dct D σ))) a 3 (hI h a 3 + 1)) (a + 1) k = if k = (dN D).1 then lN64 (pkC l) else hJ h (a + 1) k := wJ_at (wI h a (4 + σ) (nI (dct D σ) + 1)) (a + 1) (dN D).1 (lN64 (pkC l)) k
    have w2 : hI (wI (wI (wR (wJ (wI h a (4 + σ) (nI (dct D σ) + 1)) (a + 1) (dN D).1 (lN64 (pkC l))) (a + 3) (dN D).1 (some (1007 + σ))) (a + 2) (dN D).1 (nI (dct D σ))) a 3 (hI h a 3 + 1)) (a + 2) k = if k = (dN D).1 then nI (dct D σ) else hI h (a + 2) k := by
      rw [wI_ne _ _ _ (by omega : a + 2 ≠ a), wI_at]
      show (if k = (dN D).1 then _ else hI (wI h a (4 + σ) _) (a + 2) k) = _
      rw [wI_ne _ _ _ (by omega : a + 2 ≠ a)]
    have w3 : hR (wI (wI (wR (wJ (wI h a (4 + σ) (nI (dct D σ) + 1)) (a + 1) (dN D).1 (lN64 (pkC l))) (a + 3) (dN D).1 (some (1007 + σ))) (a + 2) (dN D).1 (nI (dct D σ))) a 3 (hI h a 3 + 1)) (a + 3) k = if k = (dN D).1 then some (1007 + σ) else hR h (a + 3) k := wR_at (wJ (wI h a (4 + σ) (nI (dct D σ) + 1)) (a + 1) (dN D).1 (lN64 (pkC l))) (a + 3) (dN D).1 (some (1007 + σ)) k
    rw [w1, w2, w3]
    show _ = lN64 (pkC (up1 (dN D).2 (dN D).1 (σ, l, dct D σ) k).2.1) ∧ _ = nI (up1 (dN D).2 (dN D).1 (σ, l, dct D σ) k).2.2 ∧ _ = some (1007 + (up1 (dN D).2 (dN D).1 (σ, l, dct D σ) k).1)
    unfold up1
    by_cases ek : k = (dN D).1
    · rw [if_pos ek, if_pos ek, if_pos ek, if_pos ek]; exact ⟨rfl, rfl, rfl⟩
    · rw [if_neg ek, if_neg ek, if_neg ek, if_neg ek]; exact c7' k (by omega)
  · rw [e' _ (by omega) (by omega)]; exact c8
  · rw [e' _ (by omega) (by omega)]; exact c8'
  · rw [e' _ (by omega) (by omega)]; exact c8''
  · rw [e' _ (by omega) (by omega)]; exact c9
  · rw [e' _ (by omega) (by omega)]; exact c9'
  · rw [e' _ (by omega) (by omega)]; exact c9''
theorem pdo_add {σ : Nat} {l : List Nat} (o : PdO D) (hσ : σ ≤ 2) (hf : dct D σ < dmx σ) (hl : LtO l) (hn : hsN (dN D) l = false) : PdO (addN D σ l) := by
  obtain ⟨o1, o2, o3, o4, o5, o6, o7⟩ := o
  have hup : ∀ τ, dct D τ ≤ dct (addN D σ l) τ := fun τ => by
    unfold dct
    show (if τ = 0 then dS D else if τ = 1 then dQ D else dP D) ≤ (if τ = 0 then (if σ = 0 then dS D + 1 else dS D) else if τ = 1 then (if σ = 1 then dQ D + 1 else dQ D) else (if σ = 2 then dP D + 1 else dP D))
    split
    · split <;> omega
    · split
      · split <;> omega
      · split <;> omega
  have hown : dct D σ < dct (addN D σ l) σ := by
    have : σ = 0 ∨ σ = 1 ∨ σ = 2 := by omega
    rcases this with rfl | rfl | rfl
    · exact Nat.lt_succ_self _
    · exact Nat.lt_succ_self _
    · exact Nat.lt_succ_self _
  have e3 : σ = 0 ∨ σ = 1 ∨ σ = 2 := by omega
  refine ⟨?_, ?_, ?_, o4, ?_, fun k hk => ?_, fun j k hjk hk => ?_⟩
  · show (if σ = 0 then dS D + 1 else dS D) ≤ 5
    split
    · rename_i e; subst e; have : dS D < 5 := hf; omega
    · exact o1
  · show (if σ = 1 then dQ D + 1 else dQ D) ≤ 4
    split
    · rename_i e; subst e; have : dQ D < 4 := hf; omega
    · exact o2
  · show (if σ = 2 then dP D + 1 else dP D) ≤ 6
    split
    · rename_i e; subst e; have : dP D < 6 := hf; omega
    · exact o3
  · show (dN D).1 + 1 ≤ (if σ = 0 then dS D + 1 else dS D) + (if σ = 1 then dQ D + 1 else dQ D) + (if σ = 2 then dP D + 1 else dP D)
    rcases e3 with rfl | rfl | rfl <;> simp <;> omega
  · have hk : k < (dN D).1 + 1 := hk
    show (up1 (dN D).2 (dN D).1 (σ, l, dct D σ) k).1 ≤ 2 ∧ LtO (up1 (dN D).2 (dN D).1 (σ, l, dct D σ) k).2.1 ∧ (up1 (dN D).2 (dN D).1 (σ, l, dct D σ) k).2.2 < dct (addN D σ l) (up1 (dN D).2 (dN D).1 (σ, l, dct D σ) k).1
    unfold up1
    by_cases ek : k = (dN D).1
    · rw [if_pos ek]; exact ⟨hσ, hl, hown⟩
    · rw [if_neg ek]
      have := o6 k (by omega)
      exact ⟨this.1, this.2.1, Nat.lt_of_lt_of_le this.2.2 (hup _)⟩
  · have hk : k < (dN D).1 + 1 := hk
    show (up1 (dN D).2 (dN D).1 (σ, l, dct D σ) j).2.1 ≠ (up1 (dN D).2 (dN D).1 (σ, l, dct D σ) k).2.1
    unfold up1
    rw [if_neg (by omega : ¬ j = (dN D).1)]
    by_cases ek : k = (dN D).1
    · rw [if_pos ek]
      have := anyN_f hn (j := j) (by omega)
      exact of_decide_eq_false this
    · rw [if_neg ek]; exact o7 j k hjk (by omega)
theorem c_addName {σ : Nat} {l : List Nat} (ha : a = 143 ∨ a = 171) (hσ : σ ≤ 2) (c : PdC h a D) (o : PdO D) (hf : dct D σ < dmx σ) (h1 : ∀ h', Fr (xda a) h h' → PdC h' a (addN D σ l) → Q (some (.int (nI (dct D σ)))) h') : Rc (d + 1) m_X7_addName [.ref a, .ref (1007 + σ), .long (lN64 (pkC l))] h Q := by
  have pa := pdc_add (l := l) ha c hσ
  obtain ⟨o1, o2, o3, o4, o5, o6, o7⟩ := o
  obtain ⟨c1, c2, c3, c4, c5, c6, ⟨c7, c7'⟩, -⟩ := c
  have nt : (dN D).1 < 15 := (by
    have e3 : σ = 0 ∨ σ = 1 ∨ σ = 2 := by omega
    rcases e3 with rfl | rfl | rfl
    · have : dS D < 5 := hf; omega
    · have : dQ D < 4 := hf; omega
    · have : dP D < 6 := hf; omega)
  rcases ha with rfl | rfl
  all_goals
    refine R_in rfl rfl ?_
    refine R_gs 4 rfl ?_
    refine W_d rfl (by omega) (by omega) (by omega) (by omega) (fun hc4 => ?_) (fun hc4 => ?_)
    ·
      have e0 : σ = 0 := (by omega)
      subst e0
      refine R_gs 61 rfl ?_
      try rw [c1]
      refine W_bf rfl (fun e => absurd ((nI_leI (a := 15) (by omega) (by omega)).mp (c7 ▸ (show (15 : Int32) ≤ hI h _ 3 from e))) (by omega)) ?_
      refine R_gs 73 rfl ?_
      refine R_ls rfl rfl (j := (dN D).1) c7 (by omega) ?_
      refine R_gs 83 rfl ?_
      refine R_ts rfl rfl rfl (j := (dN D).1) c7 (by omega) (by omega) ?_
      refine R_gs 94 rfl ?_
      refine R_is rfl rfl (j := (dN D).1) c7 (by omega) ?_
      refine R_gs 107 rfl ?_
      refine W_f rfl (by first | rfl | exact ⟨rfl, by first | decide | assumption | exact Or.inl rfl | exact Or.inr rfl | exact b2i_01 _⟩) ?_
      exact h1 _ (((((Fr.refl _ h).wI rfl).wJ rfl).wR rfl).wI rfl |>.wI rfl) pa
    ·
      refine R_gs 25 rfl ?_
      refine W_d rfl (by omega) (by omega) (by omega) (by omega) (fun hc25 => ?_) (fun hc25 => ?_)
      ·
        have e1 : σ = 1 := (by omega)
        subst e1
        refine R_gs 61 rfl ?_
        try rw [c2]
        refine W_bf rfl (fun e => absurd ((nI_leI (a := 15) (by omega) (by omega)).mp (c7 ▸ (show (15 : Int32) ≤ hI h _ 3 from e))) (by omega)) ?_
        refine R_gs 73 rfl ?_
        refine R_ls rfl rfl (j := (dN D).1) c7 (by omega) ?_
        refine R_gs 83 rfl ?_
        refine R_ts rfl rfl rfl (j := (dN D).1) c7 (by omega) (by omega) ?_
        refine R_gs 94 rfl ?_
        refine R_is rfl rfl (j := (dN D).1) c7 (by omega) ?_
        refine R_gs 107 rfl ?_
        refine W_f rfl (by first | rfl | exact ⟨rfl, by first | decide | assumption | exact Or.inl rfl | exact Or.inr rfl | exact b2i_01 _⟩) ?_
        exact h1 _ (((((Fr.refl _ h).wI rfl).wJ rfl).wR rfl).wI rfl |>.wI rfl) pa
      ·
        have e2 : σ = 2 := (by omega)
        subst e2
        refine R_gs 61 rfl ?_
        try rw [c3]
        refine W_bf rfl (fun e => absurd ((nI_leI (a := 15) (by omega) (by omega)).mp (c7 ▸ (show (15 : Int32) ≤ hI h _ 3 from e))) (by omega)) ?_
        refine R_gs 73 rfl ?_
        refine R_ls rfl rfl (j := (dN D).1) c7 (by omega) ?_
        refine R_gs 83 rfl ?_
        refine R_ts rfl rfl rfl (j := (dN D).1) c7 (by omega) (by omega) ?_
        refine R_gs 94 rfl ?_
        refine R_is rfl rfl (j := (dN D).1) c7 (by omega) ?_
        refine R_gs 107 rfl ?_
        refine W_f rfl (by first | rfl | exact ⟨rfl, by first | decide | assumption | exact Or.inl rfl | exact Or.inr rfl | exact b2i_01 _⟩) ?_
        exact h1 _ (((((Fr.refl _ h).wI rfl).wJ rfl).wR rfl).wI rfl |>.wI rfl) pa
end
