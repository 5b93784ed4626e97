/-! fair sets of pairs are the pairings -/
def loP (k : Nat) : Nat := [0, 0, 0, 0, 0, 1, 1, 1, 1, 2, 2, 2, 3, 3, 4].getD k 0
def hiP (k : Nat) : Nat := [1, 2, 3, 4, 5, 2, 3, 4, 5, 3, 4, 5, 4, 5, 5].getD k 0
def twP (k : Nat) : Nat := [3, 5, 9, 17, 33, 6, 10, 18, 34, 12, 20, 36, 24, 40, 48].getD k 0
theorem pr_lh : ∀ k, k < 15 → loP k < hiP k ∧ hiP k < 6 ∧ pr (loP k) (hiP k) = k ∧ twP k = 2 ^ loP k ||| 2 ^ hiP k := by decide +kernel
theorem lh_pr : ∀ p, p < 6 → ∀ q, q < 6 → p < q → loP (pr p q) = p ∧ hiP (pr p q) = q := by decide +kernel
def fai (P k : Nat) (s : Bool × Nat) : Bool × Nat := if P.testBit k = true then (s.1 && Nat.beq (s.2 &&& twP k) 0, s.2 ||| twP k) else s
def fairN (P : Nat) : Bool := (lp (fai P) 15 (true, 0)).1
/-- the same, quickly: stops at the first wrong -/
def fairQ (P : Nat) : Nat → Nat → Nat → Bool
  | 0, _, _ => true
  | n + 1, k, met => bif Nat.beq ((P >>> k) % 2) 1 then (bif Nat.beq (met &&& twP k) 0 then fairQ P n (k + 1) (met ||| twP k) else false) else fairQ P n (k + 1) met
theorem fair_all : ∀ a, a < 128 → ∀ b, b < 256 → (!fairQ (256 * a + b) 15 0 0 || PRS.any (fun x => Nat.beq x (256 * a + b))) = true := by decide +kernel
