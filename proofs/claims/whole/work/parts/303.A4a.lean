def bc1 (i : Nat) : Nat := i - (i >>> 1 &&& 1431655765)
def bc2 (i : Nat) : Nat := (i &&& 858993459) + (i >>> 2 &&& 858993459)
def bc3 (i : Nat) : Nat := i + i >>> 4 &&& 252645135
def bc4 (i : Nat) : Nat := i + i >>> 8
def bc5 (i : Nat) : Nat := i + i >>> 16 &&& 63
def bcN (i : Nat) : Nat := bc5 (bc4 (bc3 (bc2 (bc1 i))))
def pcN (i : Nat) : Nat → Nat
  | 0 => 0
  | n + 1 => pcN i n + (i >>> n) % 2
theorem bcN_all : ∀ a, a < 128 → ∀ b, b < 256 → Nat.beq (bcN (256 * a + b)) (pcN (256 * a + b) 15) = true := by decide +kernel
