/-! the abstract machine: cells by numbers (ids), what they hold by (id, place); every step a function, in the form of continuations, so that it computes -/
abbrev AH : Type := (Nat → Nat → Int32) × (Nat → Nat → Int64) × (Nat → Nat → Option Nat)
abbrev AL : Type := List (Option Value)
/-- method, place, locals, stack, cells made, heap -/
abbrev AS : Type := Nat × Nat × AL × List Value × Nat × AH
abbrev hI (h : AH) : Nat → Nat → Int32 := h.1
abbrev hJ (h : AH) : Nat → Nat → Int64 := h.2.1
abbrev hR (h : AH) : Nat → Nat → Option Nat := h.2.2
def up2 {α : Type} (f : Nat → Nat → α) (a k : Nat) (v : α) : Nat → Nat → α := fun b => if b = a then (fun j => if j = k then v else f b j) else f b
def wI (h : AH) (a k : Nat) (v : Int32) : AH := (up2 h.1 a k v, h.2.1, h.2.2)
def wJ (h : AH) (a k : Nat) (v : Int64) : AH := (h.1, up2 h.2.1 a k v, h.2.2)
def wR (h : AH) (a k : Nat) (v : Option Nat) : AH := (h.1, h.2.1, up2 h.2.2 a k v)
/-- a cell as it is made -/
def zH (h : AH) (a : Nat) : AH := (fun b => if b = a then (fun _ => 0) else h.1 b, fun b => if b = a then (fun _ => 0) else h.2.1 b, fun b => if b = a then (fun _ => none) else h.2.2 b)
/-- n places of row a from sp on, laid into row d from dp on -/
def cpI (h : AH) (a sp d dp n : Nat) : AH := (fun b => if b = d then va_cpy (h.1 a) (h.1 d) sp dp n else h.1 b, h.2.1, h.2.2)
def q_lget {β : Type} : AL → Nat → (Value → Option β) → Option β
  | [], _, _ => none
  | none :: _, 0, _ => none
  | some v :: _, 0, k => k v
  | _ :: l, i + 1, k => q_lget l i k
def q_clr {β : Type} (a : Option Value) (k : Option Value → β) : β := match a with
  | some (.int x) => k (some (.int x))
  | some (.ref x) => k (some (.ref x))
  | some .null => k (some .null)
  | _ => k none
def q_put1 {β : Type} : AL → Nat → Value → (AL → Option β) → Option β
  | [], _, _, _ => none
  | _ :: l, 0, v, k => k (some v :: l)
  | a :: l, 1, v, k => q_clr a (fun a' => q_put1 l 0 v (fun l' => k (a' :: l')))
  | a :: l, i + 2, v, k => q_put1 l (i + 1) v (fun l' => k (a :: l'))
def q_put2 {β : Type} : AL → Nat → Value → (AL → Option β) → Option β
  | [], _, _, _ => none
  | [_], 0, _, _ => none
  | _ :: _ :: l, 0, v, k => k (some v :: none :: l)
  | a :: l, 1, v, k => q_clr a (fun a' => q_put2 l 0 v (fun l' => k (a' :: l')))
  | a :: l, i + 2, v, k => q_put2 l (i + 1) v (fun l' => k (a :: l'))
def q_pop {β : Type} : List Value → Nat → List Value → (List Value → List Value → Option β) → Option β
  | st, 0, acc, k => k acc st
  | [], _ + 1, _, _ => none
  | v :: st, n + 1, acc, k => q_pop st n (v :: acc) k

/-- how many parameters -/
def NPx (μ : Nat) : Nat := bif Nat.ble μ 143 then (bif Nat.ble μ 71 then (bif Nat.ble μ 35 then (bif Nat.ble μ 17 then (bif Nat.ble μ 8 then (bif Nat.ble μ 4 then (bif Nat.ble μ 2 then (bif Nat.ble μ 1 then (bif Nat.ble μ 0 then (0) else (3)) else (2)) else (bif Nat.ble μ 3 then (3) else (0))) else (bif Nat.ble μ 6 then (1) else (0))) else (bif Nat.ble μ 13 then (bif Nat.ble μ 11 then (bif Nat.ble μ 10 then (bif Nat.ble μ 9 then (1) else (3)) else (4)) else (bif Nat.ble μ 12 then (3) else (0))) else (bif Nat.ble μ 15 then (bif Nat.ble μ 14 then (3) else (2)) else (2)))) else (bif Nat.ble μ 26 then (bif Nat.ble μ 22 then (bif Nat.ble μ 20 then (bif Nat.ble μ 19 then (bif Nat.ble μ 18 then (3) else (2)) else (2)) else (bif Nat.ble μ 21 then (1) else (2))) else (bif Nat.ble μ 24 then (bif Nat.ble μ 23 then (4) else (2)) else (bif Nat.ble μ 25 then (1) else (3)))) else (bif Nat.ble μ 31 then (bif Nat.ble μ 29 then (bif Nat.ble μ 28 then (bif Nat.ble μ 27 then (4) else (3)) else (3)) else (2)) else (bif Nat.ble μ 33 then (bif Nat.ble μ 32 then (3) else (2)) else (bif Nat.ble μ 34 then (0) else (3)))))) else (bif Nat.ble μ 53 then (bif Nat.ble μ 44 then (bif Nat.ble μ 40 then (bif Nat.ble μ 38 then (bif Nat.ble μ 37 then (bif Nat.ble μ 36 then (3) else (0)) else (2)) else (bif Nat.ble μ 39 then (2) else (0))) else (bif Nat.ble μ 42 then (bif Nat.ble μ 41 then (1) else (0)) else (0))) else (bif Nat.ble μ 49 then (bif Nat.ble μ 47 then (1) else (bif Nat.ble μ 48 then (2) else (1))) else (bif Nat.ble μ 51 then (1) else (bif Nat.ble μ 52 then (2) else (1))))) else (bif Nat.ble μ 62 then (bif Nat.ble μ 58 then (bif Nat.ble μ 56 then (bif Nat.ble μ 55 then (bif Nat.ble μ 54 then (1) else (2)) else (1)) else (bif Nat.ble μ 57 then (1) else (2))) else (1)) else (bif Nat.ble μ 67 then (bif Nat.ble μ 65 then (bif Nat.ble μ 64 then (1) else (2)) else (1)) else (bif Nat.ble μ 69 then (bif Nat.ble μ 68 then (3) else (2)) else (2)))))) else (bif Nat.ble μ 107 then (bif Nat.ble μ 89 then (bif Nat.ble μ 80 then (bif Nat.ble μ 76 then (bif Nat.ble μ 74 then (bif Nat.ble μ 73 then (1) else (0)) else (bif Nat.ble μ 75 then (2) else (1))) else (bif Nat.ble μ 78 then (bif Nat.ble μ 77 then (0) else (1)) else (1))) else (bif Nat.ble μ 85 then (bif Nat.ble μ 83 then (bif Nat.ble μ 82 then (2) else (3)) else (3)) else (bif Nat.ble μ 87 then (bif Nat.ble μ 86 then (3) else (1)) else (bif Nat.ble μ 88 then (1) else (0))))) else (bif Nat.ble μ 98 then (bif Nat.ble μ 94 then (bif Nat.ble μ 92 then (bif Nat.ble μ 91 then (bif Nat.ble μ 90 then (2) else (1)) else (1)) else (bif Nat.ble μ 93 then (1) else (4))) else (bif Nat.ble μ 96 then (3) else (2))) else (bif Nat.ble μ 103 then (bif Nat.ble μ 101 then (bif Nat.ble μ 100 then (bif Nat.ble μ 99 then (2) else (3)) else (2)) else (bif Nat.ble μ 102 then (1) else (2))) else (bif Nat.ble μ 105 then (bif Nat.ble μ 104 then (0) else (1)) else (0))))) else (bif Nat.ble μ 125 then (bif Nat.ble μ 116 then (bif Nat.ble μ 112 then (bif Nat.ble μ 110 then (1) else (bif Nat.ble μ 111 then (3) else (1))) else (bif Nat.ble μ 114 then (bif Nat.ble μ 113 then (1) else (2)) else (0))) else (bif Nat.ble μ 121 then (bif Nat.ble μ 119 then (bif Nat.ble μ 118 then (bif Nat.ble μ 117 then (0) else (3)) else (0)) else (bif Nat.ble μ 120 then (0) else (2))) else (bif Nat.ble μ 123 then (2) else (bif Nat.ble μ 124 then (3) else (2))))) else (bif Nat.ble μ 134 then (bif Nat.ble μ 130 then (bif Nat.ble μ 128 then (bif Nat.ble μ 127 then (bif Nat.ble μ 126 then (1) else (2)) else (0)) else (2)) else (bif Nat.ble μ 132 then (bif Nat.ble μ 131 then (0) else (1)) else (bif Nat.ble μ 133 then (0) else (1)))) else (bif Nat.ble μ 139 then (bif Nat.ble μ 137 then (bif Nat.ble μ 136 then (bif Nat.ble μ 135 then (2) else (3)) else (2)) else (1)) else (bif Nat.ble μ 141 then (bif Nat.ble μ 140 then (1) else (2)) else (2))))))) else (bif Nat.ble μ 215 then (bif Nat.ble μ 179 then (bif Nat.ble μ 161 then (bif Nat.ble μ 152 then (bif Nat.ble μ 148 then (bif Nat.ble μ 146 then (bif Nat.ble μ 145 then (1) else (0)) else (0)) else (bif Nat.ble μ 150 then (3) else (bif Nat.ble μ 151 then (2) else (1)))) else (bif Nat.ble μ 157 then (bif Nat.ble μ 155 then (4) else (2)) else (bif Nat.ble μ 159 then (bif Nat.ble μ 158 then (0) else (3)) else (bif Nat.ble μ 160 then (1) else (0))))) else (bif Nat.ble μ 170 then (bif Nat.ble μ 166 then (bif Nat.ble μ 164 then (1) else (bif Nat.ble μ 165 then (1) else (0))) else (1)) else (bif Nat.ble μ 175 then (bif Nat.ble μ 173 then (1) else (bif Nat.ble μ 174 then (3) else (1))) else (bif Nat.ble μ 177 then (2) else (bif Nat.ble μ 178 then (2) else (0)))))) else (bif Nat.ble μ 197 then (bif Nat.ble μ 188 then (bif Nat.ble μ 184 then (bif Nat.ble μ 182 then (bif Nat.ble μ 181 then (bif Nat.ble μ 180 then (1) else (2)) else (2)) else (bif Nat.ble μ 183 then (2) else (0))) else (bif Nat.ble μ 186 then (bif Nat.ble μ 185 then (0) else (3)) else (0))) else (bif Nat.ble μ 193 then (bif Nat.ble μ 191 then (0) else (bif Nat.ble μ 192 then (0) else (2))) else (bif Nat.ble μ 195 then (bif Nat.ble μ 194 then (2) else (1)) else (1)))) else (bif Nat.ble μ 206 then (bif Nat.ble μ 202 then (bif Nat.ble μ 200 then (1) else (3)) else (bif Nat.ble μ 204 then (bif Nat.ble μ 203 then (1) else (0)) else (0))) else (bif Nat.ble μ 211 then (bif Nat.ble μ 209 then (bif Nat.ble μ 208 then (0) else (1)) else (bif Nat.ble μ 210 then (1) else (2))) else (bif Nat.ble μ 213 then (bif Nat.ble μ 212 then (2) else (1)) else (1)))))) else (bif Nat.ble μ 251 then (bif Nat.ble μ 233 then (bif Nat.ble μ 224 then (bif Nat.ble μ 220 then (bif Nat.ble μ 218 then (bif Nat.ble μ 217 then (bif Nat.ble μ 216 then (2) else (3)) else (3)) else (bif Nat.ble μ 219 then (2) else (3))) else (3)) else (bif Nat.ble μ 229 then (bif Nat.ble μ 227 then (bif Nat.ble μ 226 then (2) else (1)) else (bif Nat.ble μ 228 then (1) else (2))) else (bif Nat.ble μ 231 then (2) else (bif Nat.ble μ 232 then (2) else (3))))) else (bif Nat.ble μ 242 then (bif Nat.ble μ 238 then (bif Nat.ble μ 236 then (bif Nat.ble μ 235 then (bif Nat.ble μ 234 then (2) else (1)) else (2)) else (bif Nat.ble μ 237 then (0) else (3))) else (bif Nat.ble μ 240 then (2) else (bif Nat.ble μ 241 then (0) else (3)))) else (bif Nat.ble μ 247 then (bif Nat.ble μ 245 then (bif Nat.ble μ 244 then (1) else (0)) else (bif Nat.ble μ 246 then (0) else (1))) else (bif Nat.ble μ 249 then (1) else (2))))) else (bif Nat.ble μ 269 then (bif Nat.ble μ 260 then (bif Nat.ble μ 256 then (bif Nat.ble μ 254 then (bif Nat.ble μ 253 then (bif Nat.ble μ 252 then (2) else (3)) else (2)) else (1)) else (bif Nat.ble μ 258 then (bif Nat.ble μ 257 then (1) else (0)) else (bif Nat.ble μ 259 then (2) else (1)))) else (bif Nat.ble μ 265 then (bif Nat.ble μ 263 then (bif Nat.ble μ 262 then (2) else (3)) else (bif Nat.ble μ 264 then (2) else (1))) else (bif Nat.ble μ 267 then (bif Nat.ble μ 266 then (1) else (2)) else (bif Nat.ble μ 268 then (2) else (0))))) else (bif Nat.ble μ 278 then (bif Nat.ble μ 274 then (bif Nat.ble μ 272 then (0) else (bif Nat.ble μ 273 then (4) else (3))) else (bif Nat.ble μ 276 then (1) else (bif Nat.ble μ 277 then (0) else (3)))) else (bif Nat.ble μ 282 then (bif Nat.ble μ 280 then (bif Nat.ble μ 279 then (2) else (1)) else (bif Nat.ble μ 281 then (0) else (2))) else (bif Nat.ble μ 284 then (bif Nat.ble μ 283 then (1) else (2)) else (bif Nat.ble μ 285 then (5) else (1))))))))

/-- which references are known for good: fields by (id, place), rows of references by (first, stride) -/
abbrev AR : Type := (Nat → Nat → Option Nat) × (Nat → Option (Nat × Nat))
def ρ0 : AR := (fun _ _ => none, fun _ => none)
def ρ1 : AR := (RF, RA)
def q_ro (n : Nat) (v : Value) : Bool := match v with
  | .ref b => Nat.ble (b + 1) n || Nat.ble 1000 b
  | _ => true
def q_rl (n : Nat) (v : Option Value) : Bool := match v with
  | some w => q_ro n w
  | none => true
/-- what a getfield finds -/
def q_get {β : Type} (ρ : AR) (h : AH) (a x y : Nat) (v : Value) (k : Value → Option β) : Option β :=
  bif Nat.beq x 20 then k (tkF y (a - 1000)) else match v with
    | .int _ => k (.int (hI h a y))
    | .float _ => k (.int (hI h a y))
    | .long _ => k (.long (hJ h a y))
    | .null => match ρ.1 a y with
      | some b => k (.ref b)
      | none => k (va_rf (hR h a y))
    | _ => none
/-- what a putfield makes -/
def q_set {β : Type} (ρ : AR) (n : Nat) (h : AH) (a y : Nat) (v w : Value) (k : AH → Option β) : Option β := match v with
    | .int _ => match w with
      | .int z => k (wI h a y z)
      | _ => none
    | .long _ => match w with
      | .long z => k (wJ h a y z)
      | _ => none
    | .null => match ρ.1 a y with
      | some _ => none
      | none => match w with
        | .ref b => bif Nat.ble 262 n || q_ro n (.ref b) then k (wR h a y (some b)) else none
        | _ => none
    | _ => none
/-- a cell of kind x that is there -/
def q_is (n a x : Nat) : Bool := Nat.beq (SH a).1 x && (Nat.ble (a + 1) n || Nat.ble 1000 a)
def q_cat : List Value → Nat
  | [] => 0
  | v :: st => v.category + q_cat st
def s1i (ρ : AR) (μ : Nat) (lv : AL) (st : List Value) (n : Nat) (h : AH) (i : Instr) (nx x y : Nat) (v : Value) : Option AS :=
  match i with
  | .iconst _ => some (μ, nx, lv, v :: st, n, h)
  | .bipush _ => some (μ, nx, lv, v :: st, n, h)
  | .sipush _ => some (μ, nx, lv, v :: st, n, h)
  | .lconst _ => some (μ, nx, lv, v :: st, n, h)
  | .ldc _ => match v with
    | .int z => some (μ, nx, lv, .int z :: st, n, h)
    | _ => none
  | .ldc_w _ => match v with
    | .int z => some (μ, nx, lv, .int z :: st, n, h)
    | _ => none
  | .ldc2_w _ => some (μ, nx, lv, v :: st, n, h)
  | .iload _ => q_lget lv x (fun w => match w with | .int z => some (μ, nx, lv, .int z :: st, n, h) | _ => none)
  | .iload_n _ => q_lget lv x (fun w => match w with | .int z => some (μ, nx, lv, .int z :: st, n, h) | _ => none)
  | .lload _ => q_lget lv x (fun w => match w with | .long z => some (μ, nx, lv, .long z :: st, n, h) | _ => none)
  | .lload_n _ => q_lget lv x (fun w => match w with | .long z => some (μ, nx, lv, .long z :: st, n, h) | _ => none)
  | .aload _ => q_lget lv x (fun w => match w with | .ref z => some (μ, nx, lv, .ref z :: st, n, h) | _ => none)
  | .aload_n _ => q_lget lv x (fun w => match w with | .ref z => some (μ, nx, lv, .ref z :: st, n, h) | _ => none)
  | .istore _ => match st with
    | .int z :: st => q_put1 lv x (.int z) (fun lv => some (μ, nx, lv, st, n, h))
    | _ => none
  | .istore_n _ => match st with
    | .int z :: st => q_put1 lv x (.int z) (fun lv => some (μ, nx, lv, st, n, h))
    | _ => none
  | .astore _ => match st with
    | .ref z :: st => q_put1 lv x (.ref z) (fun lv => some (μ, nx, lv, st, n, h))
    | _ => none
  | .astore_n _ => match st with
    | .ref z :: st => q_put1 lv x (.ref z) (fun lv => some (μ, nx, lv, st, n, h))
    | _ => none
  | .lstore _ => match st with
    | .long z :: st => q_put2 lv x (.long z) (fun lv => some (μ, nx, lv, st, n, h))
    | _ => none
  | .lstore_n _ => match st with
    | .long z :: st => q_put2 lv x (.long z) (fun lv => some (μ, nx, lv, st, n, h))
    | _ => none
  | .iinc _ _ => match v with
    | .int c => q_lget lv x (fun w => match w with | .int z => q_put1 lv x (.int (z + c)) (fun lv => some (μ, nx, lv, st, n, h)) | _ => none)
    | _ => none
  | .iadd => match st with
    | .int b :: .int a :: st => some (μ, nx, lv, .int (a + b) :: st, n, h)
    | _ => none
  | .isub => match st with
    | .int b :: .int a :: st => some (μ, nx, lv, .int (a - b) :: st, n, h)
    | _ => none
  | .imul => match st with
    | .int b :: .int a :: st => some (μ, nx, lv, .int (a * b) :: st, n, h)
    | _ => none
  | .iand => match st with
    | .int b :: .int a :: st => some (μ, nx, lv, .int (a &&& b) :: st, n, h)
    | _ => none
  | .ior => match st with
    | .int b :: .int a :: st => some (μ, nx, lv, .int (a ||| b) :: st, n, h)
    | _ => none
  | .ixor => match st with
    | .int b :: .int a :: st => some (μ, nx, lv, .int (a ^^^ b) :: st, n, h)
    | _ => none
  | .ishl => match st with
    | .int b :: .int a :: st => some (μ, nx, lv, .int (a <<< (b &&& 31)) :: st, n, h)
    | _ => none
  | .ishr => match st with
    | .int b :: .int a :: st => some (μ, nx, lv, .int (a >>> (b &&& 31)) :: st, n, h)
    | _ => none
  | .iushr => match st with
    | .int b :: .int a :: st => some (μ, nx, lv, .int (a.toUInt32 >>> (b.toUInt32 &&& Int32.toUInt32 31)).toInt32 :: st, n, h)
    | _ => none
  | .ineg => match st with
    | .int a :: st => some (μ, nx, lv, .int (-a) :: st, n, h)
    | _ => none
  | .ladd => match st with
    | .long b :: .long a :: st => some (μ, nx, lv, .long (a + b) :: st, n, h)
    | _ => none
  | .lsub => match st with
    | .long b :: .long a :: st => some (μ, nx, lv, .long (a - b) :: st, n, h)
    | _ => none
  | .lmul => match st with
    | .long b :: .long a :: st => some (μ, nx, lv, .long (a * b) :: st, n, h)
    | _ => none
  | .land => match st with
    | .long b :: .long a :: st => some (μ, nx, lv, .long (a &&& b) :: st, n, h)
    | _ => none
  | .lor => match st with
    | .long b :: .long a :: st => some (μ, nx, lv, .long (a ||| b) :: st, n, h)
    | _ => none
  | .lshl => match st with
    | .int b :: .long a :: st => some (μ, nx, lv, .long (a <<< (b.toInt64 &&& 63)) :: st, n, h)
    | _ => none
  | .lshr => match st with
    | .int b :: .long a :: st => some (μ, nx, lv, .long (a >>> (b.toInt64 &&& 63)) :: st, n, h)
    | _ => none
  | .lushr => match st with
    | .int b :: .long a :: st => some (μ, nx, lv, .long (a.toUInt64 >>> (b.toInt64.toUInt64 &&& Int64.toUInt64 63)).toInt64 :: st, n, h)
    | _ => none
  | .lcmp => match st with
    | .long b :: .long a :: st => some (μ, nx, lv, .int (lg_cmp a b) :: st, n, h)
    | _ => none
  | .i2l => match st with
    | .int a :: st => some (μ, nx, lv, .long a.toInt64 :: st, n, h)
    | _ => none
  | .l2i => match st with
    | .long a :: st => some (μ, nx, lv, .int a.toInt32 :: st, n, h)
    | _ => none
  | .i2b => match st with
    | .int a :: st => some (μ, nx, lv, .int a.toInt8.toInt32 :: st, n, h)
    | _ => none
  | .dup => match st with
    | .int a :: st => some (μ, nx, lv, .int a :: .int a :: st, n, h)
    | .ref a :: st => some (μ, nx, lv, .ref a :: .ref a :: st, n, h)
    | _ => none
  | .dup_x1 => match st with
    | .int a :: .ref b :: st => some (μ, nx, lv, .int a :: .ref b :: .int a :: st, n, h)
    | _ => none
  | .dup2 => match st with
    | .int a :: .ref b :: st => some (μ, nx, lv, .int a :: .ref b :: .int a :: .ref b :: st, n, h)
    | _ => none
  | .pop => match st with
    | .int _ :: st => some (μ, nx, lv, st, n, h)
    | .ref _ :: st => some (μ, nx, lv, st, n, h)
    | _ => none
  | .goto _ => some (μ, x, lv, st, n, h)
  | .ifnonnull _ => match st with
    | .ref _ :: st => some (μ, x, lv, st, n, h)
    | .null :: st => some (μ, nx, lv, st, n, h)
    | _ => none
  | .getfield _ => match st with
    | .ref a :: st => bif q_is n a x then q_get ρ h a x y v (fun w => some (μ, nx, lv, w :: st, n, h)) else none
    | _ => none
  | .putfield _ => match st with
    | w :: .ref a :: st => bif q_is n a x && Nat.ble x 10 then q_set ρ n h a y v w (fun h => some (μ, nx, lv, st, n, h)) else none
    | _ => none
  | .getstatic _ => some (μ, nx, lv, .ref x :: st, n, h)
  | .arraylength => match st with
    | .ref a :: st => bif Nat.beq (SH a).1 22 then some (μ, nx, lv, .int (hI h 1104 0) :: st, n, h) else none
    | _ => none
  | .invokestatic _ => match st with
    | .int b :: .int a :: st => bif Nat.beq x 996 && Nat.ble (q_cat st) 8 then some (μ, nx, lv, .int (if a < b then b else a) :: st, n, h) else bif Nat.beq x 995 && Nat.ble (q_cat st) 8 then some (μ, nx, lv, .int (if b < a then b else a) :: st, n, h) else none
    | _ => none
  | .invokespecial _ => match st with
    | .ref _ :: st => bif Nat.beq x 999 && Nat.ble (q_cat st) 8 then some (μ, nx, lv, st, n, h) else none
    | _ => none
  | _ => none
noncomputable def s1 (ρ : AR) (σ : AS) : Option AS := match σ with
  | (μ, pc, lv, st, n, h) => match KT μ pc with
    | none => none
    | some (i, nx, x, y, v) => s1i ρ μ lv st n h i nx x y v
/-- place i of row a, of kind k -/
def aAt (k a n : Nat) (i : Int32) : Prop := ∃ m, SH a = (k, m) ∧ a < n ∧ vp_in i m
/-- place i of a row of ints that can be read -/
def rAt (h : AH) (a n : Nat) (i : Int32) : Prop := aAt 11 a n i ∨ (∃ m, SH a = (21, m) ∧ vp_in i m) ∨ (SH a = (22, 0) ∧ ∃ L, hI h 1104 0 = nI L ∧ L ≤ 3584 ∧ vp_in i L)
/-- no reference is known for good yet, and none goes to cells that aren't made -/
def q_fr (ρ : AR) (n : Nat) (lv : AL) (st : List Value) : Prop := ((∀ a k, ρ.1 a k = none) ∧ ∀ a, ρ.2 a = none) ∧ (lv.all (q_rl n) && st.all (q_ro n)) = true
/-- steps that ask for something -/
def c1i (ρ : AR) (n' : Nat) (μ : Nat) (lv : AL) (st : List Value) (n : Nat) (h : AH) (i : Instr) (nx x y : Nat) (v : Value) : Option (Prop × AS) :=
  match i with
  | .iaload => match st with
    | .int j :: .ref a :: st => some (rAt h a n j, (μ, nx, lv, .int (hI h a j.toNatClampNeg) :: st, n, h))
    | _ => none
  | .laload => match st with
    | .int j :: .ref a :: st => some (aAt 12 a n j, (μ, nx, lv, .long (hJ h a j.toNatClampNeg) :: st, n, h))
    | _ => none
  | .baload => match st with
    | .int j :: .ref a :: st => some (aAt 13 a n j ∨ aAt 14 a n j, (μ, nx, lv, .int (hI h a j.toNatClampNeg) :: st, n, h))
    | _ => none
  | .aaload => match st with
    | .int j :: .ref a :: st => bif Nat.beq a 1100 then some (vp_in j 38, (μ, nx, lv, .ref (1000 + j.toNatClampNeg) :: st, n, h)) else match ρ.2 a with
      | some (b, s) => some (aAt 15 a n j ∨ aAt 16 a n j ∨ aAt 17 a n j, (μ, nx, lv, .ref (b + s * j.toNatClampNeg) :: st, n, h))
      | none => some (aAt 15 a n j ∨ aAt 16 a n j ∨ aAt 17 a n j, (μ, nx, lv, va_rf (hR h a j.toNatClampNeg) :: st, n, h))
    | _ => none
  | .iastore => match st with
    | .int z :: .int j :: .ref a :: st => some (aAt 11 a n j, (μ, nx, lv, st, n, wI h a j.toNatClampNeg z))
    | _ => none
  | .lastore => match st with
    | .long z :: .int j :: .ref a :: st => some (aAt 12 a n j, (μ, nx, lv, st, n, wJ h a j.toNatClampNeg z))
    | _ => none
  | .bastore => match st with
    | .int z :: .int j :: .ref a :: st => bif Nat.beq (SH a).1 13 then some (aAt 13 a n j, (μ, nx, lv, st, n, wI h a j.toNatClampNeg (vp_nar .byte z))) else some (aAt 14 a n j, (μ, nx, lv, st, n, wI h a j.toNatClampNeg (vp_nar .boolean z)))
    | _ => none
  | .aastore => match st with
    | .ref b :: .int j :: .ref a :: st => some (ρ.2 a = none ∧ ((aAt 15 a n j ∧ 1000 ≤ b ∧ b < 1038) ∨ (aAt 16 a n j ∧ (SH b).1 = 7 ∧ b < n)), (μ, nx, lv, st, n, wR h a j.toNatClampNeg (some b)))
    | _ => none
  | .arraylength => match st with
    | .ref a :: st => some (((SH a).1 = 11 ∧ a < n) ∨ a = 1100, (μ, nx, lv, .int (nI (SH a).2) :: st, n, h))
    | _ => none
  | .idiv => match st with
    | .int b :: .int a :: st => some (¬ b = 0, (μ, nx, lv, .int (a / b) :: st, n, h))
    | _ => none
  | .irem => match st with
    | .int b :: .int a :: st => some (¬ b = 0, (μ, nx, lv, .int (a - a / b * b) :: st, n, h))
    | _ => none
  | .ldiv => match st with
    | .long b :: .long a :: st => some (¬ b = 0, (μ, nx, lv, .long (a / b) :: st, n, h))
    | _ => none
  | .lrem => match st with
    | .long b :: .long a :: st => some (¬ b = 0, (μ, nx, lv, .long (a - a / b * b) :: st, n, h))
    | _ => none
  | .getfield _ => match st with
    | .ref a :: st => q_get ρ h a x y v (fun w => some ((SH a).1 = x ∧ (a < n ∨ 1000 ≤ a), (μ, nx, lv, w :: st, n, h)))
    | _ => none
  | .putfield _ => match v with
    | .float _ => match st with
      | .int z :: .ref a :: st => some ((SH a).1 = x ∧ a < n ∧ x ≤ 10 ∧ (z = 0 ∨ z = 1), (μ, nx, lv, st, n, wI h a y z))
      | _ => none
    | _ => match st with
      | w :: .ref a :: st => q_set ρ n h a y v w (fun h => some ((SH a).1 = x ∧ a < n ∧ x ≤ 10, (μ, nx, lv, st, n, h)))
      | _ => none
  | .new _ => some (n < n' ∧ n < 262 ∧ SH n = (x, y) ∧ x ≤ 10 ∧ q_fr ρ n lv st, (μ, nx, lv, .ref n :: st, n + 1, zH h n))
  | .newarray _ => match st with
    | .int m :: st => some (n < n' ∧ n < 262 ∧ SH n = (x, m.toNatClampNeg) ∧ ¬ m < 0 ∧ m.toNatClampNeg ≤ 3000 ∧ q_fr ρ n lv st, (μ, nx, lv, .ref n :: st, n + 1, zH h n))
    | _ => none
  | .anewarray _ => match st with
    | .int m :: st => some (n < n' ∧ n < 262 ∧ SH n = (x, m.toNatClampNeg) ∧ ¬ m < 0 ∧ m.toNatClampNeg ≤ 3000 ∧ (x = 15 ∨ x = 16) ∧ q_fr ρ n lv st, (μ, nx, lv, .ref n :: st, n + 1, zH h n))
    | _ => none
  | .multianewarray _ _ => match st with
    | .int k :: .int m :: st => some (n + m.toNatClampNeg < n' ∧ n + m.toNatClampNeg < 262 ∧ SH n = (17, m.toNatClampNeg) ∧ ¬ m < 0 ∧ ¬ k < 0 ∧ m.toNatClampNeg ≤ 1000 ∧ k.toNatClampNeg ≤ 1000 ∧ (∀ j, j < m.toNatClampNeg → SH (n + 1 + j) = (11, k.toNatClampNeg)) ∧ q_fr ρ n lv st,
        (μ, nx, lv, .ref n :: st, n + 1 + m.toNatClampNeg, (fun b => if n < b ∧ b ≤ n + m.toNatClampNeg then (fun _ => 0) else h.1 b, h.2.1, fun b => if b = n then (fun j => if j < m.toNatClampNeg then some (n + 1 + j) else none) else if n < b ∧ b ≤ n + m.toNatClampNeg then (fun _ => none) else h.2.2 b)))
    | _ => none
  | .invokestatic _ => match st with
    | .int m :: .int dp :: .ref d :: .int sp :: .ref a :: st => bif Nat.beq x 998 then some ((∃ p q, SH a = (11, p) ∧ SH d = (11, q) ∧ a < n ∧ d < n ∧ ¬ sp < 0 ∧ ¬ dp < 0 ∧ ¬ m < 0 ∧ sp.toNatClampNeg + m.toNatClampNeg ≤ p ∧ dp.toNatClampNeg + m.toNatClampNeg ≤ q ∧ st = []), (μ, nx, lv, st, n, cpI h a sp.toNatClampNeg d dp.toNatClampNeg m.toNatClampNeg)) else none
    | _ => none
  | _ => none
noncomputable def c1 (ρ : AR) (n' : Nat) (σ : AS) : Option (Prop × AS) := match σ with
  | (μ, pc, lv, st, n, h) => match KT μ pc with
    | none => none
    | some (i, nx, x, y, v) => c1i ρ n' μ lv st n h i nx x y v
/-- branches -/
def b1i (μ : Nat) (lv : AL) (st : List Value) (n : Nat) (h : AH) (i : Instr) (nx x : Nat) : Option (Prop × AS × AS) :=
  match i with
  | .ifCond c _ => match st with
    | .int z :: st => match c with
      | .eq => some (z = 0, (μ, x, lv, st, n, h), (μ, nx, lv, st, n, h))
      | .ne => some (z = 0, (μ, nx, lv, st, n, h), (μ, x, lv, st, n, h))
      | .lt => some (z < 0, (μ, x, lv, st, n, h), (μ, nx, lv, st, n, h))
      | .ge => some (0 ≤ z, (μ, x, lv, st, n, h), (μ, nx, lv, st, n, h))
      | .gt => some (0 < z, (μ, x, lv, st, n, h), (μ, nx, lv, st, n, h))
      | .le => some (z ≤ 0, (μ, x, lv, st, n, h), (μ, nx, lv, st, n, h))
    | _ => none
  | .if_icmp c _ => match st with
    | .int b :: .int a :: st => match c with
      | .eq => some (a = b, (μ, x, lv, st, n, h), (μ, nx, lv, st, n, h))
      | .ne => some (a = b, (μ, nx, lv, st, n, h), (μ, x, lv, st, n, h))
      | .lt => some (a < b, (μ, x, lv, st, n, h), (μ, nx, lv, st, n, h))
      | .ge => some (b ≤ a, (μ, x, lv, st, n, h), (μ, nx, lv, st, n, h))
      | .gt => some (b < a, (μ, x, lv, st, n, h), (μ, nx, lv, st, n, h))
      | .le => some (a ≤ b, (μ, x, lv, st, n, h), (μ, nx, lv, st, n, h))
    | _ => none
  | _ => none
noncomputable def b1 (σ : AS) : Option (Prop × AS × AS) := match σ with
  | (μ, pc, lv, st, n, h) => match KT μ pc with
    | none => none
    | some (i, nx, x, _, _) => b1i μ lv st n h i nx x
/-- constants of the enum compared -/
noncomputable def d1 (σ : AS) : Option (Nat × Nat × AS × AS) := match σ with
  | (μ, pc, lv, st, n, h) => match KT μ pc with
    | none => none
    | some (i, nx, x, _, _) => match i with
      | .if_acmp c _ => match st with
        | .ref b :: .ref a :: st => match c with
          | .eq => some (a, b, (μ, x, lv, st, n, h), (μ, nx, lv, st, n, h))
          | .ne => some (a, b, (μ, nx, lv, st, n, h), (μ, x, lv, st, n, h))
        | _ => none
      | _ => none
/-- switches -/
noncomputable def w1 (σ : AS) : Option (Int32 × Int × List Nat × Nat × (Nat → AS)) := match σ with
  | (μ, pc, lv, st, n, h) => match KT μ pc with
    | none => none
    | some (i, _, _, _, _) => match i with
      | .tableswitch _ _ _ _ => match st with
        | .int z :: st => match SWT μ pc with
          | some (lo, ts, d) => some (z, lo, ts, d, fun t => (μ, t, lv, st, n, h))
          | none => none
        | _ => none
      | _ => none
/-- the receiver is of the class of the method called (own: its class's number) -/
def q_rc (n own : Nat) (args : List Value) : Bool := match args with
  | .ref b :: _ => bif Nat.beq own 12 || Nat.beq own 14 then Nat.beq (SH b).1 20 else q_is n b own
  | _ => false
/-- behind a call -/
def q_mk (μ nx : Nat) (lv : AL) (st : List Value) (n1 : Nat) (v : Option Value) (h : AH) : AS := match v with
  | some w => (μ, nx, lv, w :: st, n1, h)
  | none => (μ, nx, lv, st, n1, h)
theorem q_mk_eq (μ nx : Nat) (lv : AL) (st : List Value) (n1 : Nat) (v : Option Value) (h : AH) : q_mk μ nx lv st n1 v h = (μ, nx, lv, v.toList ++ st, n1, h) := by cases v <;> rfl
/-- methods that are called by their contracts -/
def q_ok (μ : Nat) : Bool := Nat.ble (μ + 1) 287 && !(Nat.beq μ m_L_rests) && !(Nat.beq μ m_L_law)
/-- calls: what must hold, of whom, with what, and how it goes on -/
noncomputable def k1 (n' n1 : Nat) (σ : AS) : Option (Prop × Nat × List Value × Nat × AH × (Option Value → AH → AS)) := match σ with
  | (μ, pc, lv, st, n, h) => match KT μ pc with
    | none => none
    | some (i, nx, x, _, _) =>
      bif !(q_ok x) then none else match i with
      | .invokestatic _ => q_pop st (NPx x) [] (fun args st => some ((Nat.ble n1 n' && Nat.ble (q_cat st) 8 && (Nat.beq n n1 || (lv.all (q_rl n) && st.all (q_ro n)))) = true, x, args, n, h, q_mk μ nx lv st n1))
      | .invokevirtual _ => q_pop st (NPx x + 1) [] (fun args st => some ((Nat.ble n1 n' && Nat.ble (q_cat st) 8 && (Nat.beq n n1 || (lv.all (q_rl n) && st.all (q_ro n))) && q_rc n (MOx x) args) = true, x, args, n, h, q_mk μ nx lv st n1))
      | .invokespecial _ => q_pop st (NPx x + 1) [] (fun args st => some ((Nat.ble n1 n' && Nat.ble (q_cat st) 8 && (Nat.beq n n1 || (lv.all (q_rl n) && st.all (q_ro n))) && q_rc n (MOx x) args) = true, x, args, n, h, q_mk μ nx lv st n1))
      | _ => none
/-- ends -/
noncomputable def f1 (n' : Nat) (σ : AS) : Option (Prop × Option Value × AH) := match σ with
  | (μ, pc, _, st, n, h) => match KT μ pc with
    | none => none
    | some (i, _, x, _, _) => match i with
      | .ireturn => match st with
        | [.int z] => bif Nat.beq x 0 then some (n = n', some (.int z), h) else some (n = n' ∧ (z = 0 ∨ z = 1), some (.int z), h)
        | _ => none
      | .lreturn => match st with
        | [.long z] => some (n = n', some (.long z), h)
        | _ => none
      | .areturn => match st with
        | [.ref z] => some (n = n', some (.ref z), h)
        | _ => none
      | .return_ => match st with
        | [] => some (n = n', none, h)
        | _ => none
      | _ => none
abbrev AC : Type := Nat → List Value → Nat → AH → Nat → (Option Value → AH → Prop) → Prop
/-- from σ the machine comes to an end with Q, or to a stop in S -/
def Wps (ρ : AR) (C : AC) (n' : Nat) (Q : Option Value → AH → Prop) (S : AS → Prop) (σ : AS) : Prop :=
  ∀ X : AS → Prop, (∀ τ, S τ → X τ) → (∀ τ τ', s1 ρ τ = some τ' → X τ' → X τ) → (∀ τ P τ', c1 ρ n' τ = some (P, τ') → P → X τ' → X τ) →
    (∀ τ c τ1 τ2, b1 τ = some (c, τ1, τ2) → (c → X τ1) → (¬ c → X τ2) → X τ) →
    (∀ τ a b τ1 τ2, d1 τ = some (a, b, τ1, τ2) → 1000 ≤ a → a < 1038 → 1000 ≤ b → b < 1038 → (a = b → X τ1) → (¬ a = b → X τ2) → X τ) →
    (∀ τ z lo ts d mk, w1 τ = some (z, lo, ts, d, mk) → (∀ (j : Nat) t, ts[j]? = some t → z.toInt = lo + j → X (mk t)) → ((z.toInt < lo ∨ lo + ts.length ≤ z.toInt) → X (mk d)) → X τ) →
    (∀ τ P μ args n h mk n1, k1 n' n1 τ = some (P, μ, args, n, h, mk) → P → C μ args n h n1 (fun v h' => X (mk v h')) → X τ) →
    (∀ τ P v h, f1 n' τ = some (P, v, h) → P → Q v h → X τ) → X σ
def q_args {β : Type} : List Value → Nat → (AL → Option β) → Option β
  | [], 0, k => k []
  | [], m + 1, k => q_args [] m (fun l => k (none :: l))
  | .int x :: vs, m + 1, k => q_args vs m (fun l => k (some (.int x) :: l))
  | .ref x :: vs, m + 1, k => q_args vs m (fun l => k (some (.ref x) :: l))
  | .long x :: vs, m + 2, k => q_args vs m (fun l => k (some (.long x) :: none :: l))
  | _, _, _ => none
def a1 (μ : Nat) (args : List Value) (n : Nat) (h : AH) : Option AS := q_args args (MLx μ) (fun lv => some (μ, 0, lv, [], n, h))
/-- a call, at most d deep -/
def Cl (ρ : AR) : Nat → AC
  | 0 => fun _ _ _ _ _ _ => False
  | d + 1 => fun μ args n h n1 Q => n ≤ n1 ∧ q_ok μ = true ∧ ∃ σ, a1 μ args n h = some σ ∧ Wps ρ (Cl ρ d) n1 Q (fun _ => False) σ
def CMono (C : AC) : Prop := ∀ μ args n h n1 (Q Q' : Option Value → AH → Prop), (∀ v h', Q v h' → Q' v h') → C μ args n h n1 Q → C μ args n h n1 Q'
theorem Wps.mono {ρ : AR} {C : AC} {n' : Nat} {Q Q' : Option Value → AH → Prop} {S S' : AS → Prop} {σ : AS} (w : Wps ρ C n' Q S σ) (hQ : ∀ v h, Q v h → Q' v h) (hS : ∀ τ, S τ → S' τ) : Wps ρ C n' Q' S' σ := by
  intro X x0 x1 x2 x3 x4 x5 x6 x7
  exact w X (fun τ h => x0 τ (hS τ h)) x1 x2 x3 x4 x5 x6 (fun τ P v h e p q => x7 τ P v h e p (hQ v h q))
theorem Cl.cm {ρ : AR} : ∀ d, CMono (Cl ρ d)
  | 0 => fun _ _ _ _ _ _ _ _ hc => hc
  | d + 1 => by
    intro μ args n h n1 Q Q' hQ hc
    obtain ⟨h0, hk, σ, e, w⟩ := hc
    exact ⟨h0, hk, σ, e, w.mono hQ (fun _ h => h)⟩
theorem Wps.cmono {ρ : AR} {C C' : AC} {n' : Nat} {Q : Option Value → AH → Prop} {S : AS → Prop} {σ : AS} (w : Wps ρ C n' Q S σ) (hC : ∀ μ args n h n1 Q, C μ args n h n1 Q → C' μ args n h n1 Q) : Wps ρ C' n' Q S σ := by
  intro X x0 x1 x2 x3 x4 x5 x6 x7
  exact w X x0 x1 x2 x3 x4 x5 (fun τ P μ args n h mk n1 e p c => x6 τ P μ args n h mk n1 e p (hC _ _ _ _ _ _ c)) x7
theorem Cl.up {ρ : AR} : ∀ d μ args n h n1 Q, Cl ρ d μ args n h n1 Q → Cl ρ (d + 1) μ args n h n1 Q
  | 0, _, _, _, _, _, _, hc => hc.elim
  | d + 1, μ, args, n, h, n1, Q, hc => by
    obtain ⟨h0, hk, σ, e, w⟩ := hc
    exact ⟨h0, hk, σ, e, w.cmono (Cl.up d)⟩
theorem Cl.le {ρ : AR} {d e μ : Nat} {args : List Value} {n : Nat} {h : AH} {n1 : Nat} {Q : Option Value → AH → Prop} (hd : d ≤ e) (c : Cl ρ d μ args n h n1 Q) : Cl ρ e μ args n h n1 Q := by
  obtain ⟨k, rfl⟩ := Nat.le.dest hd
  induction k with
  | zero => exact c
  | succ k ih => exact Cl.up _ _ _ _ _ _ _ (ih (Nat.le_add_right d k))
section QW
variable {ρ : AR} {C : AC} {n' : Nat} {Q : Option Value → AH → Prop} {S : AS → Prop}
theorem W_stop {σ : AS} (h : S σ) : Wps ρ C n' Q S σ := fun X x0 x1 x2 x3 x4 x5 x6 x7 => x0 σ h
theorem W_s {σ σ' : AS} (e : s1 ρ σ = some σ') (w : Wps ρ C n' Q S σ') : Wps ρ C n' Q S σ := fun X x0 x1 x2 x3 x4 x5 x6 x7 => x1 σ σ' e (w X x0 x1 x2 x3 x4 x5 x6 x7)
theorem W_c {σ σ' : AS} {P : Prop} (e : c1 ρ n' σ = some (P, σ')) (p : P) (w : Wps ρ C n' Q S σ') : Wps ρ C n' Q S σ := fun X x0 x1 x2 x3 x4 x5 x6 x7 => x2 σ P σ' e p (w X x0 x1 x2 x3 x4 x5 x6 x7)
theorem W_b {σ σ1 σ2 : AS} {c : Prop} (e : b1 σ = some (c, σ1, σ2)) (w1 : c → Wps ρ C n' Q S σ1) (w2 : ¬ c → Wps ρ C n' Q S σ2) : Wps ρ C n' Q S σ := fun X x0 x1 x2 x3 x4 x5 x6 x7 => x3 σ c σ1 σ2 e (fun h => w1 h X x0 x1 x2 x3 x4 x5 x6 x7) (fun h => w2 h X x0 x1 x2 x3 x4 x5 x6 x7)
theorem W_bt {σ σ1 σ2 : AS} {c : Prop} (e : b1 σ = some (c, σ1, σ2)) (h : c) (w1 : Wps ρ C n' Q S σ1) : Wps ρ C n' Q S σ := W_b e (fun _ => w1) (fun g => absurd h g)
theorem W_bf {σ σ1 σ2 : AS} {c : Prop} (e : b1 σ = some (c, σ1, σ2)) (h : ¬ c) (w2 : Wps ρ C n' Q S σ2) : Wps ρ C n' Q S σ := W_b e (fun g => absurd g h) (fun _ => w2)
theorem W_d {σ σ1 σ2 : AS} {a b : Nat} (e : d1 σ = some (a, b, σ1, σ2)) (h1 : 1000 ≤ a) (h2 : a < 1038) (h3 : 1000 ≤ b) (h4 : b < 1038) (w1 : a = b → Wps ρ C n' Q S σ1) (w2 : ¬ a = b → Wps ρ C n' Q S σ2) : Wps ρ C n' Q S σ := fun X x0 x1 x2 x3 x4 x5 x6 x7 => x4 σ a b σ1 σ2 e h1 h2 h3 h4 (fun h => w1 h X x0 x1 x2 x3 x4 x5 x6 x7) (fun h => w2 h X x0 x1 x2 x3 x4 x5 x6 x7)
theorem W_w {σ : AS} {z : Int32} {lo : Int} {ts : List Nat} {d : Nat} {mk : Nat → AS} (e : w1 σ = some (z, lo, ts, d, mk)) (wt : ∀ (j : Nat) t, ts[j]? = some t → z.toInt = lo + j → Wps ρ C n' Q S (mk t)) (wd : (z.toInt < lo ∨ lo + ts.length ≤ z.toInt) → Wps ρ C n' Q S (mk d)) : Wps ρ C n' Q S σ := fun X x0 x1 x2 x3 x4 x5 x6 x7 => x5 σ z lo ts d mk e (fun j t h1 h2 => wt j t h1 h2 X x0 x1 x2 x3 x4 x5 x6 x7) (fun h => wd h X x0 x1 x2 x3 x4 x5 x6 x7)
theorem W_k (hC : CMono C) {σ : AS} {P : Prop} {μ : Nat} {args : List Value} {n : Nat} {h : AH} {mk : Option Value → AH → AS} {n1 : Nat} (e : k1 n' n1 σ = some (P, μ, args, n, h, mk)) (p : P) (w : C μ args n h n1 (fun v h' => Wps ρ C n' Q S (mk v h'))) : Wps ρ C n' Q S σ := fun X x0 x1 x2 x3 x4 x5 x6 x7 => x6 σ P μ args n h mk n1 e p (hC _ _ _ _ _ _ _ (fun v h' w => w X x0 x1 x2 x3 x4 x5 x6 x7) w)
theorem W_f {σ : AS} {P : Prop} {v : Option Value} {h : AH} (e : f1 n' σ = some (P, v, h)) (p : P) (q : Q v h) : Wps ρ C n' Q S σ := fun X x0 x1 x2 x3 x4 x5 x6 x7 => x7 σ P v h e p q
/-- on and on, as long as nothing is asked; it stops at the place 'stop' -/
noncomputable def sgo (ρ : AR) (stop : Nat) : Nat → AS → Option AS
  | 0, σ => some σ
  | k + 1, σ => match s1 ρ σ with
    | some σ' => bif Nat.beq σ'.2.1 stop then some σ' else sgo ρ stop k σ'
    | none => some σ
theorem sgo_w (stop : Nat) : ∀ (k : Nat) (σ σ' : AS), sgo ρ stop k σ = some σ' → Wps ρ C n' Q S σ' → Wps ρ C n' Q S σ
  | 0, σ, σ', e, w => by cases e; exact w
  | k + 1, σ, σ', e, w => by
    unfold sgo at e
    cases h : s1 ρ σ with
    | none => rw [h] at e; cases e; exact w
    | some τ =>
      rw [h] at e
      refine W_s h ?_
      dsimp only at e
      cases hb : Nat.beq τ.2.1 stop with
      | true => rw [hb] at e; cases e; exact w
      | false => rw [hb] at e; exact sgo_w stop k τ σ' e w
theorem W_g {σ σ' : AS} (stop k : Nat) (e : sgo ρ stop k σ = some σ') (w : Wps ρ C n' Q S σ') : Wps ρ C n' Q S σ := sgo_w stop k σ σ' e w
end QW
theorem Cl_of {ρ : AR} {d μ : Nat} {args : List Value} {n : Nat} {h : AH} {n1 : Nat} {Q : Option Value → AH → Prop} {σ : AS} (e : a1 μ args n h = some σ) (hn : n ≤ n1) (hk : q_ok μ = true) (w : Wps ρ (Cl ρ d) n1 Q (fun _ => False) σ) : Cl ρ (d + 1) μ args n h n1 Q := ⟨hn, hk, σ, e, w⟩
