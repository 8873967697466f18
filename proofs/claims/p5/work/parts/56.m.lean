def RA (a b : Int32) : Int := 100 * (a.toInt - b.toInt)
def RB (a b c : Int32) : Int := 100 * (a.toInt - b.toInt) - 60 + c.toInt
theorem RA.nn {a b : Int32} (h : b.toInt ≤ a.toInt) : 0 ≤ RA a b := by unfold RA; omega
theorem RB.nn {a b c : Int32} (h : b.toInt < a.toInt) (h2 : 0 ≤ c.toInt) : 0 ≤ RB a b c := by unfold RB; omega
theorem RB.lt0 {a b c : Int32} (h : c.toInt ≤ 30) : RB a b c < RA a b := by unfold RA RB; omega
theorem RB.lt {a b c e : Int32} (h : e.toInt < c.toInt) : RB a b e < RB a b c := by unfold RB; omega
theorem RA.lt {a b c e : Int32} (h : e.toInt = b.toInt + 1) (hc : 0 ≤ c.toInt) : RA a e < RB a b c := by unfold RA RB; omega
theorem RA.ub (a b : Int32) : RA a b < 900000000000 := by have := i32 a; have := i32 b; unfold RA; omega
theorem sp_X12_reachAt {d : Nat} {Q : Qt} {v1 : Int32} {v2 : Int32} {I : Im} {J : Jm} {R : Rm} (hB0 : Bd I) (hR0 : RI R) (hQ : ∀ (x : Int32) (y : Int64) (I2 : Im) (J2 : Jm), Bd I2 → (True) → Q x y I2 J2 R) : AM (d + 5) 292 112 [.ref 97, .int v1, .int v2] I J R Q :=  sorry
