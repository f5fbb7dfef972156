/-! the words that the model makes are the hash's -/
def pl : List Nat := [2, 3, 5, 7, 11, 13, 17, 19, 23, 29, 31, 37, 41, 43, 47, 53, 59, 61, 67, 71, 73, 79, 83, 89, 97, 101, 103, 107, 109, 113, 127, 131, 137, 139, 149, 151, 157, 163, 167, 173, 179, 181, 191, 193, 197, 199, 211, 223, 227, 229, 233, 239, 241, 251, 257, 263, 269, 271, 277, 281, 283, 293, 307, 311]
def cnt (p : Nat) : Nat := (pl.filter (fun q => decide (q < p))).length
def cntOk (p : Nat) : Bool := (decide (cnt p < 64)) && (if isP p then decide (pl.getD (cnt p) 0 = p ∧ cnt (p + 1) = cnt p + 1) else decide (cnt (p + 1) = cnt p))
theorem cnt_all : ∀ i, i < 310 → cntOk (i + 2) = true := by decide +kernel
theorem cnt_end : cnt 312 = 64 ∧ cnt 2 = 0 := by decide +kernel
def rotOk (k : Nat) : Bool := decide (rot true (zi2l ((pl.getD k 0 : Nat) : Int)) = some (xK64.getD k 0).toInt)
def rotOk8 (k : Nat) : Bool := decide (rot false (zi2l ((pl.getD k 0 : Nat) : Int)) = some (xF8.getD k 0).toInt)
theorem rot_8 : ∀ k, k < 8 → rotOk8 k = true := by decide +kernel
theorem rot_a : ∀ k, k < 64 → rotOk k = true := by decide +kernel
