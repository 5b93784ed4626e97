/-! a truth that is laid by a branch: both sides meet again -/
section
variable {d : Nat} {Q : Option Value → AH → Prop} {σ σ1 σ0 : AS} {c : Prop} {μ pc : Nat} {lv : AL} {st : List Value} {h : AH} {x y : Nat}
theorem R_j (stop : Nat) (b : Bool) (e : b1 σ = some (c, σ1, σ0)) (hb : b = true ↔ c) (e1 : sgo ρ1 stop 400 σ1 = some (μ, pc, lv, .int 1 :: st, 262, h)) (e0 : sgo ρ1 stop 400 σ0 = some (μ, pc, lv, .int 0 :: st, 262, h)) (w : Rw d Q (μ, pc, lv, .int (b2i b) :: st, 262, h)) : Rw d Q σ := by
  refine W_b e (fun hc => R_gs stop e1 ?_) (fun hc => R_gs stop e0 ?_)
  · rw [hb.mpr hc] at w; exact w
  · cases b with
    | false => exact w
    | true => exact absurd (hb.mp rfl) hc
theorem R_jn (stop : Nat) (b : Bool) (e : b1 σ = some (c, σ1, σ0)) (hb : b = false ↔ c) (e1 : sgo ρ1 stop 400 σ1 = some (μ, pc, lv, .int 0 :: st, 262, h)) (e0 : sgo ρ1 stop 400 σ0 = some (μ, pc, lv, .int 1 :: st, 262, h)) (w : Rw d Q (μ, pc, lv, .int (b2i b) :: st, 262, h)) : Rw d Q σ := by
  refine W_b e (fun hc => R_gs stop e1 ?_) (fun hc => R_gs stop e0 ?_)
  · rw [hb.mpr hc] at w; exact w
  · cases b with
    | true => exact w
    | false => exact absurd (hb.mp rfl) hc
theorem R_jd (stop : Nat) (b : Bool) (e : d1 σ = some (x, y, σ1, σ0)) (h1 : 1000 ≤ x) (h2 : x < 1038) (h3 : 1000 ≤ y) (h4 : y < 1038) (hb : b = true ↔ x = y) (e1 : sgo ρ1 stop 400 σ1 = some (μ, pc, lv, .int 1 :: st, 262, h)) (e0 : sgo ρ1 stop 400 σ0 = some (μ, pc, lv, .int 0 :: st, 262, h)) (w : Rw d Q (μ, pc, lv, .int (b2i b) :: st, 262, h)) : Rw d Q σ := by
  refine W_d e h1 h2 h3 h4 (fun hc => R_gs stop e1 ?_) (fun hc => R_gs stop e0 ?_)
  · rw [hb.mpr hc] at w; exact w
  · cases b with
    | false => exact w
    | true => exact absurd (hb.mp rfl) hc
theorem R_jdn (stop : Nat) (b : Bool) (e : d1 σ = some (x, y, σ1, σ0)) (h1 : 1000 ≤ x) (h2 : x < 1038) (h3 : 1000 ≤ y) (h4 : y < 1038) (hb : b = false ↔ x = y) (e1 : sgo ρ1 stop 400 σ1 = some (μ, pc, lv, .int 0 :: st, 262, h)) (e0 : sgo ρ1 stop 400 σ0 = some (μ, pc, lv, .int 1 :: st, 262, h)) (w : Rw d Q (μ, pc, lv, .int (b2i b) :: st, 262, h)) : Rw d Q σ := by
  refine W_d e h1 h2 h3 h4 (fun hc => R_gs stop e1 ?_) (fun hc => R_gs stop e0 ?_)
  · rw [hb.mpr hc] at w; exact w
  · cases b with
    | true => exact w
    | false => exact absurd (hb.mp rfl) hc
end
theorem b2i_01 (b : Bool) : b2i b = 0 ∨ b2i b = 1 := by cases b; exact Or.inl rfl; exact Or.inr rfl
/-- receivers that are known by their bounds alone -/
theorem q_tk {t : Nat} (ht : t < 38) : q_rc 262 12 [.ref (1000 + t)] = true := by
  show Nat.beq (SH (1000 + t)).1 20 = true
  rw [SH_tk t ht]; rfl
theorem q_tk4 {t : Nat} (ht : t < 38) : q_rc 262 14 [.ref (1000 + t)] = true := by
  show Nat.beq (SH (1000 + t)).1 20 = true
  rw [SH_tk t ht]; rfl
/-! reading: where one stands, and the fault (0: none) -/
abbrev RS : Type := Nat × Nat
def tk (K : TKs) (i : Nat) : Nat := (K.2 i).1
def tb (K : TKs) (i : Nat) : Nat := (K.2 i).2.1
def tn (K : TKs) (i : Nat) : Nat := (K.2 i).2.2.1
def tl (K : TKs) (i : Nat) : List Nat := (K.2 i).2.2.2
def rol (t : Nat) : Nat := [6, 6, 6, 6, 6, 6, 6, 6, 6, 6, 6, 6, 6, 6, 6, 6, 6, 6, 6, 6, 6, 6, 6, 5, 5, 5, 5, 6, 0, 0, 1, 1, 2, 2, 3, 4, 4, 4].getD t 6
def mea (t : Nat) : Int32 := TKM.getD t 0
theorem rol_L : ∀ t, t < 38 → TKR.getD t 0 = nI (rol t) ∧ rol t ≤ 6 := by decide +kernel
def bl (K : TKs) (b : Bool) (k : Nat) (s : RS) : RS := if (b && decide (s.2 = 0)) = true then (s.1, k + 16 * tb K s.1) else s
def sp (K : TKs) (s : RS) : RS := if s.2 = 0 then (nxI K s.1, 0) else s
def ex (K : TKs) (t : Nat) (s : RS) : RS := sp K (bl K (!decide (tk K s.1 = t)) 1 s)
def isNm (t : Nat) : Bool := decide (t = 3) || decide (rol t = 4)
def stPt (t : Nat) : Bool := decide (t = 2) || (decide (t = 27) || (decide (t = 4) || decide (rol t = 4)))
/-- what is known of all tokens of a text -/
def TkG (x : TK) : Prop := x.1 < 38 ∧ x.2.1 ≤ 1000 ∧ (x.1 = 2 → x.2.2.1 ≤ 9999) ∧ (srt x.1 = 1 → LtO x.2.2.2 ∧ x.1 = tokW x.2.2.2) ∧ (srt x.1 ≠ 1 → x.2.2.2 = [])
def TokOK (K : TKs) : Prop := K.1 ≤ 1001 ∧ (∀ i, i < K.1 → TkG (K.2 i)) ∧ 0 < K.1 ∧ tk K (K.1 - 1) = 0 ∧ ∀ i, i + 1 < K.1 → tk K i ≠ 0
/-- the reader of the class stands there -/
def CF (h : AH) (K : TKs) (s : RS) : Prop := TkC h K ∧ CurC h K s.1 ∧ hI h 6 1 = nI s.2 ∧ s.2 ≤ 20000
def xrd (q : Nat) : Bool := Nat.beq q 1 || Nat.beq q 6
theorem xrd_f {q : Nat} (h1 : q ≠ 1) (h6 : q ≠ 6) : xrd q = false := by unfold xrd; rw [bq_f h1, bq_f h6]; rfl
theorem nmW : ∀ t, t < 38 → isNm t = true → srt t = 1 ∧ t ≠ 0 ∧ t ≠ 2 := by decide +kernel
/-- names that are told: the number of a name of a sort -/
def fnN (N : SN') (σ : Nat) (l : List Nat) : Nat → Nat → Int32
  | _, 0 => -1
  | j, m + 1 => if (N.2 j).2.1 = l ∧ (N.2 j).1 = σ then nI (N.2 j).2.2 else fnN N σ l (j + 1) m
def fnd (N : SN') (σ : Nat) (l : List Nat) : Int32 := fnN N σ l 0 N.1
def hsN (N : SN') (l : List Nat) : Bool := anyN N.1 (fun j => decide ((N.2 j).2.1 = l))
/-- looking a name up; a known name; a number -/
def lu (K : TKs) (N : SN') (σ : Nat) (s : RS) : RS × Int32 :=
  let s1 := bl K (!isNm (tk K s.1)) 1 s
  let n := if s1.2 = 0 then fnd N σ (tl K s.1) else -1
  (bl K (decide (n = -1)) 2 s1, n)
def rk (K : TKs) (N : SN') (σ : Nat) (s : RS) : RS × Int32 := (sp K (lu K N σ s).1, (lu K N σ s).2)
def rn (K : TKs) (least : Nat) (s : RS) : RS := sp K (bl K (decide (tn K s.1 < least) || decide (9 < tn K s.1)) 4 (bl K (!decide (tk K s.1 = 2)) 1 s))
/-! laws: what is laid for the parts -/
abbrev EX : Type := RS → RS × List Int32
def jl (K : TKs) (X : EX) (l : Nat) : Nat → RS × List Int32 → RS × List Int32
  | 0, z => z
  | m + 1, z => if z.1.2 = 0 ∧ rol (tk K z.1.1) = l then jl K X l m ((X (sp K z.1)).1, z.2 ++ ((X (sp K z.1)).2 ++ [mea (tk K z.1.1)])) else z
def JL (K : TKs) (l m : Nat) (X : EX) : EX := fun s => jl K X l m (X s)
def eJ (K : TKs) (P : EX) : Nat → EX
  | 0 => JL K 0 1000 (JL K 1 1 (JL K 2 1000 (JL K 3 1000 P)))
  | 1 => JL K 1 1 (JL K 2 1000 (JL K 3 1000 P))
  | 2 => JL K 2 1000 (JL K 3 1000 P)
  | 3 => JL K 3 1000 P
  | _ => P
/-- a part; the first number is how many may still be around what is in it -/
def eP (K : TKs) : Nat → EX
  | 0 => fun s => (bl K true 5 (bl K (!stPt (tk K s.1)) 1 s), [])
  | a + 1 => fun s =>
    let s1 := sp K (bl K (!stPt (tk K s.1)) 1 s)
    if s1.2 = 0 then
      (if tk K s.1 = 27 then ((eP K a s1).1, (eP K a s1).2 ++ [-4])
      else if tk K s.1 = 4 then (ex K 5 (eJ K (eP K a) 0 s1).1, (eJ K (eP K a) 0 s1).2)
      else (s1, [if tk K s.1 = 2 then nI (tn K s.1) else mea (tk K s.1)]))
    else (s1, [])
def eE (K : TKs) : EX := eJ K (eP K 5) 0
