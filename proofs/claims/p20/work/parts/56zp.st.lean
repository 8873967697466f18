/-! ===== how many cuts and splits till there is a slice: the numbers ===== -/
def tb9 : List (List Nat) := [[1000, 1000, 1000, 1000, 1000, 1000, 1000, 1000, 1000, 1000, 1000, 1000, 1000, 1000, 1000, 1000, 1000, 1000, 1000, 1000, 1000, 1000, 1000, 1000, 1000, 1000, 1000, 1000, 1000, 1000, 1000],
  [1000, 0, 1000, 1000, 1000, 1000, 1000, 1000, 1000, 1000, 1000, 1000, 1000, 1000, 1000, 1000, 1000, 1000, 1000, 1000, 1000, 1000, 1000, 1000, 1000, 1000, 1000, 1000, 1000, 1000, 1000],
  [1000, 1, 0, 1000, 1000, 1000, 1000, 1000, 1000, 1000, 1000, 1000, 1000, 1000, 1000, 1000, 1000, 1000, 1000, 1000, 1000, 1000, 1000, 1000, 1000, 1000, 1000, 1000, 1000, 1000, 1000],
  [1000, 1, 1, 0, 1000, 1000, 1000, 1000, 1000, 1000, 1000, 1000, 1000, 1000, 1000, 1000, 1000, 1000, 1000, 1000, 1000, 1000, 1000, 1000, 1000, 1000, 1000, 1000, 1000, 1000, 1000],
  [1000, 1, 1, 1, 0, 1000, 1000, 1000, 1000, 1000, 1000, 1000, 1000, 1000, 1000, 1000, 1000, 1000, 1000, 1000, 1000, 1000, 1000, 1000, 1000, 1000, 1000, 1000, 1000, 1000, 1000],
  [1000, 1, 2, 2, 1, 0, 1000, 1000, 1000, 1000, 1000, 1000, 1000, 1000, 1000, 1000, 1000, 1000, 1000, 1000, 1000, 1000, 1000, 1000, 1000, 1000, 1000, 1000, 1000, 1000, 1000],
  [1000, 1, 1, 1, 1, 1, 0, 1000, 1000, 1000, 1000, 1000, 1000, 1000, 1000, 1000, 1000, 1000, 1000, 1000, 1000, 1000, 1000, 1000, 1000, 1000, 1000, 1000, 1000, 1000, 1000],
  [1000, 1, 1000, 1000, 1000, 1000, 1000, 0, 1000, 1000, 1000, 1000, 1000, 1000, 1000, 1000, 1000, 1000, 1000, 1000, 1000, 1000, 1000, 1000, 1000, 1000, 1000, 1000, 1000, 1000, 1000],
  [1000, 1, 1, 2, 1, 2, 1, 1000, 0, 1000, 1000, 1000, 1000, 1000, 1000, 1000, 1000, 1000, 1000, 1000, 1000, 1000, 1000, 1000, 1000, 1000, 1000, 1000, 1000, 1000, 1000],
  [1000, 1, 2, 1, 2, 2, 1, 1000, 1000, 0, 1000, 1000, 1000, 1000, 1000, 1000, 1000, 1000, 1000, 1000, 1000, 1000, 1000, 1000, 1000, 1000, 1000, 1000, 1000, 1000, 1000],
  [1000, 1, 1, 2, 2, 1, 1, 1000, 1000, 1000, 0, 1000, 1000, 1000, 1000, 1000, 1000, 1000, 1000, 1000, 1000, 1000, 1000, 1000, 1000, 1000, 1000, 1000, 1000, 1000, 1000],
  [1000, 1, 1000, 1000, 1000, 1000, 1000, 1000, 1000, 1000, 1000, 0, 1000, 1000, 1000, 1000, 1000, 1000, 1000, 1000, 1000, 1000, 1000, 1000, 1000, 1000, 1000, 1000, 1000, 1000, 1000],
  [1000, 1, 1, 1, 1, 2, 1, 1000, 1, 1000, 1000, 1000, 0, 1000, 1000, 1000, 1000, 1000, 1000, 1000, 1000, 1000, 1000, 1000, 1000, 1000, 1000, 1000, 1000, 1000, 1000],
  [1000, 1, 1000, 1000, 1000, 1000, 1000, 1000, 1000, 1000, 1000, 1000, 1000, 0, 1000, 1000, 1000, 1000, 1000, 1000, 1000, 1000, 1000, 1000, 1000, 1000, 1000, 1000, 1000, 1000, 1000],
  [1000, 1, 1, 1000, 1000, 1000, 1000, 1, 1000, 1000, 1000, 1000, 1000, 1000, 0, 1000, 1000, 1000, 1000, 1000, 1000, 1000, 1000, 1000, 1000, 1000, 1000, 1000, 1000, 1000, 1000],
  [1000, 1, 2, 1, 2, 1, 1, 1000, 1000, 1000, 1, 1000, 1000, 1000, 1000, 0, 1000, 1000, 1000, 1000, 1000, 1000, 1000, 1000, 1000, 1000, 1000, 1000, 1000, 1000, 1000],
  [1000, 1, 1, 2, 1, 3, 2, 1000, 1, 1000, 1000, 1000, 1000, 1000, 1000, 1000, 0, 1000, 1000, 1000, 1000, 1000, 1000, 1000, 1000, 1000, 1000, 1000, 1000, 1000, 1000],
  [1000, 1, 1000, 1000, 1000, 1000, 1000, 1000, 1000, 1000, 1000, 1000, 1000, 1000, 1000, 1000, 1000, 0, 1000, 1000, 1000, 1000, 1000, 1000, 1000, 1000, 1000, 1000, 1000, 1000, 1000],
  [1000, 1, 1, 1, 2, 2, 1, 1000, 1000, 1, 1000, 1000, 1000, 1000, 1000, 1000, 1000, 1000, 0, 1000, 1000, 1000, 1000, 1000, 1000, 1000, 1000, 1000, 1000, 1000, 1000],
  [1000, 1, 1000, 1000, 1000, 1000, 1000, 1000, 1000, 1000, 1000, 1000, 1000, 1000, 1000, 1000, 1000, 1000, 1000, 0, 1000, 1000, 1000, 1000, 1000, 1000, 1000, 1000, 1000, 1000, 1000],
  [1000, 1, 1, 2, 1, 1, 2, 1000, 2, 1000, 1, 1000, 1, 1000, 1000, 1000, 1000, 1000, 1000, 1000, 0, 1000, 1000, 1000, 1000, 1000, 1000, 1000, 1000, 1000, 1000],
  [1000, 1, 2, 1, 2, 3, 2, 1, 2, 1000, 1000, 1000, 1, 1000, 1000, 1000, 1000, 1000, 1000, 1000, 1000, 0, 1000, 1000, 1000, 1000, 1000, 1000, 1000, 1000, 1000],
  [1000, 1, 1, 1000, 1000, 1000, 1000, 1000, 1000, 1000, 1000, 1, 1000, 1000, 1000, 1000, 1000, 1000, 1000, 1000, 1000, 1000, 0, 1000, 1000, 1000, 1000, 1000, 1000, 1000, 1000],
  [1000, 1, 1000, 1000, 1000, 1000, 1000, 1000, 1000, 1000, 1000, 1000, 1000, 1000, 1000, 1000, 1000, 1000, 1000, 1000, 1000, 1000, 1000, 0, 1000, 1000, 1000, 1000, 1000, 1000, 1000],
  [1000, 1, 1, 1, 1, 2, 1, 1000, 1, 1000, 1000, 1000, 1, 1000, 1000, 1000, 1000, 1000, 1000, 1000, 1000, 1000, 1000, 1000, 0, 1000, 1000, 1000, 1000, 1000, 1000],
  [1000, 1, 3, 3, 2, 1, 1000, 1000, 1000, 1000, 1000, 1000, 1000, 1000, 1000, 1000, 1000, 1000, 1000, 1000, 1000, 1000, 1000, 1000, 1000, 0, 1000, 1000, 1000, 1000, 1000],
  [1000, 1, 1, 1000, 1000, 1000, 1000, 1000, 1000, 1000, 1000, 1000, 1000, 1, 1000, 1000, 1000, 1000, 1000, 1000, 1000, 1000, 1000, 1000, 1000, 1000, 0, 1000, 1000, 1000, 1000],
  [1000, 1, 2, 1, 3, 3, 2, 1000, 1000, 1, 1000, 1000, 1000, 1000, 1000, 1000, 1000, 1000, 1000, 1000, 1000, 1000, 1000, 1000, 1000, 1000, 1000, 0, 1000, 1000, 1000],
  [1000, 1, 1, 2, 1, 3, 2, 1, 2, 1000, 1000, 1000, 1, 1000, 1, 1000, 1000, 1000, 1000, 1000, 1000, 1000, 1000, 1000, 1000, 1000, 1000, 1000, 0, 1000, 1000],
  [1000, 1, 1000, 1000, 1000, 1000, 1000, 1000, 1000, 1000, 1000, 1000, 1000, 1000, 1000, 1000, 1000, 1000, 1000, 1000, 1000, 1000, 1000, 1000, 1000, 1000, 1000, 1000, 1000, 0, 1000],
  [1000, 1, 1, 1, 2, 1, 1, 1000, 2, 1000, 1, 1000, 1, 1000, 1000, 1, 1000, 1000, 1000, 1000, 1000, 1000, 1000, 1000, 1000, 1000, 1000, 1000, 1000, 1000, 0]]
def nt9 : List (List Nat) := [[0, 0, 0, 0, 0, 0, 0, 0, 0, 0, 0, 0, 0, 0, 0, 0, 0, 0, 0, 0, 0, 0, 0, 0, 0, 0, 0, 0, 0, 0, 0],
  [0, 0, 0, 0, 0, 0, 0, 0, 0, 0, 0, 0, 0, 0, 0, 0, 0, 0, 0, 0, 0, 0, 0, 0, 0, 0, 0, 0, 0, 0, 0],
  [0, 2, 0, 0, 0, 0, 0, 0, 0, 0, 0, 0, 0, 0, 0, 0, 0, 0, 0, 0, 0, 0, 0, 0, 0, 0, 0, 0, 0, 0, 0],
  [0, 3, 3, 0, 0, 0, 0, 0, 0, 0, 0, 0, 0, 0, 0, 0, 0, 0, 0, 0, 0, 0, 0, 0, 0, 0, 0, 0, 0, 0, 0],
  [0, 4, 4, 4, 0, 0, 0, 0, 0, 0, 0, 0, 0, 0, 0, 0, 0, 0, 0, 0, 0, 0, 0, 0, 0, 0, 0, 0, 0, 0, 0],
  [0, 5, 4, 4, 5, 0, 0, 0, 0, 0, 0, 0, 0, 0, 0, 0, 0, 0, 0, 0, 0, 0, 0, 0, 0, 0, 0, 0, 0, 0, 0],
  [0, 6, 6, 6, 6, 6, 0, 0, 0, 0, 0, 0, 0, 0, 0, 0, 0, 0, 0, 0, 0, 0, 0, 0, 0, 0, 0, 0, 0, 0, 0],
  [0, 7, 0, 0, 0, 0, 0, 0, 0, 0, 0, 0, 0, 0, 0, 0, 0, 0, 0, 0, 0, 0, 0, 0, 0, 0, 0, 0, 0, 0, 0],
  [0, 8, 8, 4, 8, 6, 8, 0, 0, 0, 0, 0, 0, 0, 0, 0, 0, 0, 0, 0, 0, 0, 0, 0, 0, 0, 0, 0, 0, 0, 0],
  [0, 9, 3, 9, 6, 6, 9, 0, 0, 0, 0, 0, 0, 0, 0, 0, 0, 0, 0, 0, 0, 0, 0, 0, 0, 0, 0, 0, 0, 0, 0],
  [0, 10, 10, 6, 5, 10, 10, 0, 0, 0, 0, 0, 0, 0, 0, 0, 0, 0, 0, 0, 0, 0, 0, 0, 0, 0, 0, 0, 0, 0, 0],
  [0, 11, 0, 0, 0, 0, 0, 0, 0, 0, 0, 0, 0, 0, 0, 0, 0, 0, 0, 0, 0, 0, 0, 0, 0, 0, 0, 0, 0, 0, 0],
  [0, 12, 12, 12, 12, 6, 12, 0, 12, 0, 0, 0, 0, 0, 0, 0, 0, 0, 0, 0, 0, 0, 0, 0, 0, 0, 0, 0, 0, 0, 0],
  [0, 13, 0, 0, 0, 0, 0, 0, 0, 0, 0, 0, 0, 0, 0, 0, 0, 0, 0, 0, 0, 0, 0, 0, 0, 0, 0, 0, 0, 0, 0],
  [0, 14, 14, 0, 0, 0, 0, 14, 0, 0, 0, 0, 0, 0, 0, 0, 0, 0, 0, 0, 0, 0, 0, 0, 0, 0, 0, 0, 0, 0, 0],
  [0, 15, 3, 15, 5, 15, 15, 0, 0, 0, 15, 0, 0, 0, 0, 0, 0, 0, 0, 0, 0, 0, 0, 0, 0, 0, 0, 0, 0, 0, 0],
  [0, 16, 16, 4, 16, 6, 8, 0, 16, 0, 0, 0, 0, 0, 0, 0, 0, 0, 0, 0, 0, 0, 0, 0, 0, 0, 0, 0, 0, 0, 0],
  [0, 17, 0, 0, 0, 0, 0, 0, 0, 0, 0, 0, 0, 0, 0, 0, 0, 0, 0, 0, 0, 0, 0, 0, 0, 0, 0, 0, 0, 0, 0],
  [0, 18, 18, 18, 6, 6, 18, 0, 0, 18, 0, 0, 0, 0, 0, 0, 0, 0, 0, 0, 0, 0, 0, 0, 0, 0, 0, 0, 0, 0, 0],
  [0, 19, 0, 0, 0, 0, 0, 0, 0, 0, 0, 0, 0, 0, 0, 0, 0, 0, 0, 0, 0, 0, 0, 0, 0, 0, 0, 0, 0, 0, 0],
  [0, 20, 20, 4, 20, 20, 10, 0, 12, 0, 20, 0, 20, 0, 0, 0, 0, 0, 0, 0, 0, 0, 0, 0, 0, 0, 0, 0, 0, 0, 0],
  [0, 21, 3, 21, 12, 6, 12, 21, 12, 0, 0, 0, 21, 0, 0, 0, 0, 0, 0, 0, 0, 0, 0, 0, 0, 0, 0, 0, 0, 0, 0],
  [0, 22, 22, 0, 0, 0, 0, 0, 0, 0, 0, 22, 0, 0, 0, 0, 0, 0, 0, 0, 0, 0, 0, 0, 0, 0, 0, 0, 0, 0, 0],
  [0, 23, 0, 0, 0, 0, 0, 0, 0, 0, 0, 0, 0, 0, 0, 0, 0, 0, 0, 0, 0, 0, 0, 0, 0, 0, 0, 0, 0, 0, 0],
  [0, 24, 24, 24, 24, 6, 24, 0, 24, 0, 0, 0, 24, 0, 0, 0, 0, 0, 0, 0, 0, 0, 0, 0, 0, 0, 0, 0, 0, 0, 0],
  [0, 25, 4, 4, 5, 25, 0, 0, 0, 0, 0, 0, 0, 0, 0, 0, 0, 0, 0, 0, 0, 0, 0, 0, 0, 0, 0, 0, 0, 0, 0],
  [0, 26, 26, 0, 0, 0, 0, 0, 0, 0, 0, 0, 0, 26, 0, 0, 0, 0, 0, 0, 0, 0, 0, 0, 0, 0, 0, 0, 0, 0, 0],
  [0, 27, 3, 27, 6, 6, 9, 0, 0, 27, 0, 0, 0, 0, 0, 0, 0, 0, 0, 0, 0, 0, 0, 0, 0, 0, 0, 0, 0, 0, 0],
  [0, 28, 28, 4, 28, 6, 12, 28, 12, 0, 0, 0, 28, 0, 28, 0, 0, 0, 0, 0, 0, 0, 0, 0, 0, 0, 0, 0, 0, 0, 0],
  [0, 29, 0, 0, 0, 0, 0, 0, 0, 0, 0, 0, 0, 0, 0, 0, 0, 0, 0, 0, 0, 0, 0, 0, 0, 0, 0, 0, 0, 0, 0],
  [0, 30, 30, 30, 5, 30, 30, 0, 12, 0, 30, 0, 30, 0, 0, 30, 0, 0, 0, 0, 0, 0, 0, 0, 0, 0, 0, 0, 0, 0, 0]]
/-- the fewest till there is a t, from an s on (1000: never); the next slice then -/
def e9 (t s : Nat) : Nat := (tb9.getD t []).getD s 1000
def nx9 (t s : Nat) : Nat := (nt9.getD t []).getD s 0
def lnk9 (t s : Nat) : Nat → Nat
  | 0 => s
  | i + 1 => nx9 t (lnk9 t s i)
/-- a b comes of an a -/
def cm9 (a b : Nat) : Bool := decide (1 ≤ a) && (decide (a < b) && (decide (b % a = 0) || (decide (a * b % (b - a) = 0) && decide (a * b / (b - a) ≤ 30))))
def exL9 (a b : Nat) : Nat → Bool
  | 0 => false
  | f + 1 => decide (pt b + pt (30 - f) = pt a) || exL9 a b f
def ckC9 (a b : Nat) : Bool := (!decide (nI a < 1)) && ((decide (nI a < nI b) == decide (a < b)) && (!decide (a < b) || ((!decide (nI a = 0)) && ((decide (nI b - nI b / nI a * nI a = 0) == decide (b % a = 0)) && ((!decide (nI b - nI a = 0)) && ((decide (nI a * nI b - nI a * nI b / (nI b - nI a) * (nI b - nI a) = 0) == decide (a * b % (b - a) = 0)) && (decide (30 < nI a * nI b / (nI b - nI a)) == !decide (a * b / (b - a) ≤ 30))))))))
def ckR9 (a b : Nat) : Bool := (decide (nI b ≤ nI a) == decide (b ≤ a)) && ((!decide (nI a = 0)) && ((decide (nI b - nI b / nI a * nI a = 0) == decide (b % a = 0)) && ((if a < b ∧ b % a = 0 then true else exL9 a b 30) == cm9 a b)))
set_option maxRecDepth 100000 in
theorem ckC9_all : ∀ a, a < 31 → ∀ b, b < 31 → (decide (a = 0) || (decide (b = 0) || ckC9 a b)) = true := by decide +kernel
set_option maxRecDepth 100000 in
theorem ckR9_all : ∀ a, a < 31 → ∀ b, b < 31 → (decide (a = 0) || (decide (b = 0) || ckR9 a b)) = true := by decide +kernel
/-- the scribe's way to them -/
def inC9 (t s : Nat) : Nat → Nat → Nat
  | 0, v => v
  | g + 1, v => inC9 t s g (if cm9 s (t - g) = true then (if e9 t (t - g) + 1 < v then e9 t (t - g) + 1 else v) else v)
def ckT9 (t s : Nat) : Bool := (decide (e9 t s = 1000) || decide (e9 t s ≤ 29)) && ((decide (e9 t s = 0) == (decide (s = t) && !decide (t = 0))) && ((!decide (t < s) || decide (e9 t s = 1000)) && ((!(decide (1 ≤ s) && decide (s < t)) || decide (inC9 t s (t - s) 1000 = e9 t s)) && (decide (s = 0) || (decide (e9 t s = 0) || (decide (e9 t s = 1000) || (decide (s < nx9 t s) && (decide (nx9 t s ≤ t) && (cm9 s (nx9 t s) && decide (e9 t (nx9 t s) + 1 = e9 t s))))))))))
set_option maxRecDepth 100000 in
theorem ckT9_all : ∀ t, t < 31 → ∀ s, s < 31 → ckT9 t s = true := by decide +kernel
set_option maxRecDepth 100000 in
theorem ckP9_all : ∀ t, t < 31 → ∀ s, s < 31 → ∀ p, p < 31 → (decide (p = 0) || (!cm9 s p || (decide (e9 t s ≤ e9 t p + 1) && (decide (nx9 t s ≤ p) || (!decide (e9 t p + 1 = e9 t s) || decide (e9 t s = 1000)))))) = true := by decide +kernel
set_option maxRecDepth 100000 in
theorem ckZ9 : ∀ t, t < 31 → e9 t 0 = 1000 := by decide +kernel
section RC9
variable {t s p a b : Nat}
theorem e9_b (ht : t ≤ 30) (hs : s ≤ 30) : e9 t s = 1000 ∨ e9 t s ≤ 29 := by
  have h := ckT9_all t (by omega) s (by omega)
  unfold ckT9 at h
  simp only [Bool.and_eq_true, Bool.or_eq_true, decide_eq_true_eq] at h
  exact h.1
theorem e9_0 (ht : t ≤ 30) (hs : s ≤ 30) : e9 t s = 0 ↔ s = t ∧ ¬ t = 0 := by
  have h := ckT9_all t (by omega) s (by omega)
  unfold ckT9 at h
  rw [Bool.and_eq_true, Bool.and_eq_true, beq_iff_eq] at h
  have h2 := h.2.1
  constructor
  · intro z
    rw [decide_eq_true z] at h2
    have h3 := h2.symm
    rw [Bool.and_eq_true, decide_eq_true_eq, Bool.not_eq_true', decide_eq_false_iff_not] at h3
    exact h3
  · intro z
    rw [decide_eq_true z.1, decide_eq_false z.2] at h2
    exact of_decide_eq_true h2
theorem e9_gt (ht : t ≤ 30) (hs : s ≤ 30) (h : t < s) : e9 t s = 1000 := by
  have k := ckT9_all t (by omega) s (by omega)
  unfold ckT9 at k
  rw [Bool.and_eq_true, Bool.and_eq_true, Bool.and_eq_true, decide_eq_true h, Bool.not_true, Bool.false_or] at k
  exact of_decide_eq_true k.2.2.1
theorem e9_in (ht : t ≤ 30) (h1 : 1 ≤ s) (h : s < t) : inC9 t s (t - s) 1000 = e9 t s := by
  have k := ckT9_all t (by omega) s (by omega)
  unfold ckT9 at k
  rw [Bool.and_eq_true, Bool.and_eq_true, Bool.and_eq_true, Bool.and_eq_true, decide_eq_true h, decide_eq_true h1, Bool.and_self, Bool.not_true, Bool.false_or] at k
  exact of_decide_eq_true k.2.2.2.1
theorem e9_nx (ht : t ≤ 30) (hs : s ≤ 30) (h1 : 1 ≤ s) (h0 : ¬ e9 t s = 0) (hn : ¬ e9 t s = 1000) : s < nx9 t s ∧ nx9 t s ≤ t ∧ cm9 s (nx9 t s) = true ∧ e9 t (nx9 t s) + 1 = e9 t s := by
  have k := ckT9_all t (by omega) s (by omega)
  unfold ckT9 at k
  rw [Bool.and_eq_true, Bool.and_eq_true, Bool.and_eq_true, Bool.and_eq_true] at k
  obtain ⟨-, -, -, -, k⟩ := k
  rw [decide_eq_false (show ¬ s = 0 by omega), decide_eq_false h0, decide_eq_false hn, Bool.false_or, Bool.false_or, Bool.false_or, Bool.and_eq_true, Bool.and_eq_true, Bool.and_eq_true] at k
  obtain ⟨k1, k2, k3, k4⟩ := k
  exact ⟨of_decide_eq_true k1, of_decide_eq_true k2, k3, of_decide_eq_true k4⟩
theorem e9_le (ht : t ≤ 30) (hs : s ≤ 30) (h1 : 1 ≤ p) (hp : p ≤ 30) (hc : cm9 s p = true) : e9 t s ≤ e9 t p + 1 := by
  have k := ckP9_all t (by omega) s (by omega) p (by omega)
  rw [decide_eq_false (show ¬ p = 0 by omega), hc, Bool.not_true, Bool.false_or, Bool.false_or, Bool.and_eq_true] at k
  exact of_decide_eq_true k.1
theorem e9_mn (ht : t ≤ 30) (hs : s ≤ 30) (h1 : 1 ≤ p) (hp : p ≤ 30) (hc : cm9 s p = true) (he : e9 t p + 1 = e9 t s) (hn : ¬ e9 t s = 1000) : nx9 t s ≤ p := by
  have k := ckP9_all t (by omega) s (by omega) p (by omega)
  rw [decide_eq_false (show ¬ p = 0 by omega), hc, Bool.not_true, Bool.false_or, Bool.false_or, Bool.and_eq_true, decide_eq_true he, decide_eq_false hn, Bool.not_true, Bool.or_false, Bool.or_false] at k
  exact of_decide_eq_true k.2
theorem cm_lt (h : cm9 a b = true) : 1 ≤ a ∧ a < b := by
  unfold cm9 at h
  rw [Bool.and_eq_true, Bool.and_eq_true] at h
  exact ⟨of_decide_eq_true h.1, of_decide_eq_true h.2.1⟩
theorem nlt_b9 (ha : a < 2 ^ 31) (hb : b < 2 ^ 31) : nI a < nI b ↔ a < b := by
  rw [Int32.lt_iff_toInt_lt, nI_toInt ha, nI_toInt hb]; omega
end RC9
section RCX
variable {I : Im} {J : Jm} {R : Rm} {Q : Qt}
theorem px_comC {d a b : Nat} (h1 : 1 ≤ a) (h2 : a ≤ 30) (h3 : 1 ≤ b) (h4 : b ≤ 30) (hY : cm9 a b = true → Q 1 0 I J R) (hN : cm9 a b = false → Q 0 0 I J R) : AM (d + 1) 57 112 [.int (nI b), .int (nI a)] I J R Q := by
  have k := ckC9_all a (by omega) b (by omega)
  rw [decide_eq_false (show ¬ a = 0 by omega), decide_eq_false (show ¬ b = 0 by omega), Bool.false_or, Bool.false_or] at k
  unfold ckC9 at k
  rw [Bool.and_eq_true, Bool.and_eq_true, Bool.not_eq_true', decide_eq_false_iff_not, beq_iff_eq, decide_eq_decide] at k
  obtain ⟨k1, k2, k3⟩ := k
  have eC : cm9 a b = (decide (a < b) && (decide (b % a = 0) || (decide (a * b % (b - a) = 0) && decide (a * b / (b - a) ≤ 30)))) := by
    unfold cm9
    rw [decide_eq_true h1, Bool.true_and]
  refine w_X5_comesOf ⟨fun c => absurd c k1, fun _ => ⟨fun c => ?_, fun c => ⟨Or.inl rfl, hN ?_⟩⟩⟩
  · rw [k2] at c
    rw [decide_eq_true c, Bool.not_true, Bool.false_or, Bool.and_eq_true, Bool.and_eq_true, Bool.and_eq_true, Bool.and_eq_true, Bool.not_eq_true', decide_eq_false_iff_not, beq_iff_eq, decide_eq_decide, Bool.not_eq_true', decide_eq_false_iff_not, beq_iff_eq, decide_eq_decide, beq_iff_eq] at k3
    obtain ⟨j1, j2, j3, j4, j5⟩ := k3
    rw [decide_eq_true c, Bool.true_and] at eC
    refine ⟨j1, fun c2 => ⟨Or.inr rfl, hY ?_⟩, fun c2 => ⟨j3, fun c3 => ⟨Or.inl rfl, hN ?_⟩, fun c3 => ⟨j3, fun c4 => ⟨Or.inl rfl, hN ?_⟩, fun c4 => ⟨Or.inr rfl, hY ?_⟩⟩⟩⟩
    · rw [eC, decide_eq_true (j2.mp c2), Bool.true_or]
    · rw [eC, decide_eq_false (fun z => c2 (j2.mpr z)), decide_eq_false (fun z => c3 (j4.mpr z)), Bool.false_and, Bool.false_or]
    · rw [decide_eq_true c4] at j5
      have j6 : decide (a * b / (b - a) ≤ 30) = false := by rw [← Bool.not_eq_true']; exact j5.symm
      rw [eC, decide_eq_false (fun z => c2 (j2.mpr z)), j6, Bool.and_false, Bool.false_or]
    · rw [decide_eq_false c4] at j5
      have j6 : decide (a * b / (b - a) ≤ 30) = true := by rw [← Bool.not_eq_false']; exact j5.symm
      rw [eC, decide_eq_true (j4.mp c3), j6, Bool.and_true, Bool.or_true]
  · rw [k2] at c
    rw [eC, decide_eq_false c, Bool.false_and]
theorem px_comR {d a b : Nat} (h1 : 1 ≤ a) (h2 : a ≤ 30) (h3 : 1 ≤ b) (h4 : b ≤ 30) (hY : cm9 a b = true → Q 1 0 I J R) (hN : cm9 a b = false → Q 0 0 I J R) : AM (d + 2) 288 112 [.int (nI a), .int (nI b)] I J R Q := by
  have k := ckR9_all a (by omega) b (by omega)
  rw [decide_eq_false (show ¬ a = 0 by omega), decide_eq_false (show ¬ b = 0 by omega), Bool.false_or, Bool.false_or] at k
  unfold ckR9 at k
  rw [Bool.and_eq_true, Bool.and_eq_true, Bool.and_eq_true, Bool.not_eq_true', decide_eq_false_iff_not, beq_iff_eq, decide_eq_decide, beq_iff_eq, decide_eq_decide, beq_iff_eq] at k
  obtain ⟨k1, k2, k3, k4⟩ := k
  refine am_X12_comesOf (fun P hc => ?_)
  have L : ∀ (f : Nat), f ≤ 30 → (exL9 a b f = true → Q 1 0 I J R) → (exL9 a b f = false → Q 0 0 I J R) → P 15 112 [(0, .int (nI a)), (1, .int (nI b)), (2, .int (nI (31 - f)))] [] I J R := by
    intro f
    induction f with
    | zero => intro _ _ hn; exact sg_X12_comesOf_15 hc _ _ _ _ _ _ ⟨fun _ => ⟨Or.inl rfl, hn rfl⟩, fun c => absurd ((nlt_nI (a := 30) (b := 31 - 0) (by omega) (by omega)).mpr (by omega)) c⟩
    | succ f ih =>
      intro hf hy hn
      have ed : 31 - (f + 1) = 30 - f := by omega
      rw [ed]
      have eS : exL9 a b (f + 1) = (decide (pt b + pt (30 - f) = pt a) || exL9 a b f) := rfl
      obtain ⟨p1, p2, -⟩ := pt_b (d := 30 - f) (by omega) (by omega)
      obtain ⟨q1, q2, -⟩ := pt_b (d := b) h3 h4
      refine sg_X12_comesOf_15 hc _ _ _ _ _ _ ⟨fun c => absurd ((nlt_nI (a := 30) (by omega) (by omega)).mp c) (by omega), fun _ => px_parts h3 h4 (fun y1 e1 => px_parts (by omega) (by omega) (fun y2 e2 => px_parts h1 h2 (fun y3 e3 => ?_)))⟩
      have es : (y1 + y2).toInt = pt b + pt (30 - f) := tl_add e1 e2 (by omega)
      refine ⟨fun c => ?_, fun c => ⟨Or.inr rfl, hy ?_⟩⟩
      · rw [lg_cmp_eq] at c
        have c2 := cl_ne es e3 c
        rw [eS, decide_eq_false c2, Bool.false_or] at hy hn
        rw [nx30 hf]
        exact ih (by omega) hy hn
      · rw [lg_cmp_eq] at c
        rw [eS, decide_eq_true (cl_eq es e3 c), Bool.true_or]
  have go : ¬ (a < b ∧ b % a = 0) → P 13 112 [(0, .int (nI a)), (1, .int (nI b))] [] I J R := fun z => by
    rw [if_neg z] at k4
    exact sg_X12_comesOf_13 hc _ _ _ _ _ (L 30 (by decide) (fun q => hY (k4.symm.trans q)) (fun q => hN (k4.symm.trans q)))
  refine sg_X12_comesOf_0 hc _ _ _ _ _ ⟨fun c => go (fun z => ?_), fun c => ⟨k2, fun c2 => go (fun z => c2 (k3.mpr z.2)), fun c2 => ⟨Or.inr rfl, hY ?_⟩⟩⟩
  · have := k1.mp c
    omega
  · have l : ¬ b ≤ a := fun z => c (k1.mpr z)
    rw [if_pos ⟨by omega, k3.mp c2⟩] at k4
    exact k4.symm
end RCX
