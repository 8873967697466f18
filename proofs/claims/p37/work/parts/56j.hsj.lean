section PT13x12
section STX
variable {I : Im} {J : Jm} {R : Rm} {o M : Nat} {s : StS9} {du : Du9}
theorem cx_cut9 {e : Nat} {d a b : Int32} (hR : RI R) (h : HS9 (R 1 7) M s s du I) : AM (e + 3) 119 112 [.ref 1, .int d, .int a, .int b] I J R (fun x _ I2 J2 _ => x = anX (opCut d a b s).1 (pcR (opCut d a b s).2.1 30 0) ∧ HS9 (R 1 7) M s (opCut d a b s).2 du I2 ∧ FrCk (R 1 7) I J I2 J2) :=
  px_cCut hR h.1 (fun _ h2 hF => ⟨rfl, h.cl (now_9 hR) h2 h.2.2.1.cut hF, hF⟩)
theorem mx_cut9 {e : Nat} {d a b : Int32} (ho : o = 9 ∨ o = 15) (h : HS9 o M s (opCut d a b s).2 du I) : AM (e + 3) 258 112 [.ref 97, .int d, .int a, .int b] I J R (fun x _ I2 J2 _ => x = anX (opCut d a b s).1 (pcR (opCut d a b s).2.1 30 0) ∧ HS9 o M (opCut d a b s).2 (opCut d a b s).2 du I2 ∧ FrMk I J I2 J2) :=
  px_mCut h.2.1 h.2.2.1.lo (fun _ h2 hF => ⟨rfl, h.mf ho h2 h.2.2.2.1 hF, hF⟩)
theorem cx_split9 {e : Nat} {d n : Int32} (hR : RI R) (h : HS9 (R 1 7) M s s du I) : AM (e + 3) 120 112 [.ref 1, .int d, .int n] I J R (fun x _ I2 J2 _ => x = anX (opSplit d n s).1 (pcR (opSplit d n s).2.1 30 0) ∧ HS9 (R 1 7) M s (opSplit d n s).2 du I2 ∧ FrCk (R 1 7) I J I2 J2) :=
  px_cSplit hR h.1 (fun _ h2 hF => ⟨rfl, h.cl (now_9 hR) h2 h.2.2.1.split hF, hF⟩)
theorem mx_split9 {e : Nat} {d n : Int32} (ho : o = 9 ∨ o = 15) (h : HS9 o M s (opSplit d n s).2 du I) : AM (e + 3) 260 112 [.ref 97, .int d, .int n] I J R (fun x _ I2 J2 _ => x = anX (opSplit d n s).1 (pcR (opSplit d n s).2.1 30 0) ∧ HS9 o M (opSplit d n s).2 (opSplit d n s).2 du I2 ∧ FrMk I J I2 J2) :=
  px_mSplit h.2.1 h.2.2.1.lo (fun _ h2 hF => ⟨rfl, h.mf ho h2 h.2.2.2.1 hF, hF⟩)
theorem cx_give9 {e : Nat} {k d m : Int32} (hR : RI R) (em : I (R 1 7) 4 = m) (hm : m.toInt = (M : Int) ∧ M ≤ 6) (h : HS9 (R 1 7) M s s du I) : AM (e + 3) 121 112 [.ref 1, .int k, .int d] I J R (fun x _ I2 J2 _ => x = anX (opGive m k d s).1 (pcV ((opGive m k d s).2.2.1 (nn9 k))) ∧ HS9 (R 1 7) M s (opGive m k d s).2 du I2 ∧ FrCk (R 1 7) I J I2 J2) := by
  subst em
  exact px_cGive hR hm h.1 h.2.2.1.give.2 (fun _ h2 hF => ⟨rfl, h.cl (now_9 hR) h2 h.2.2.1.give hF, hF⟩)
theorem mx_give9 {e : Nat} {k d m : Int32} (ho : o = 9 ∨ o = 15) (em : I 102 0 = m) (hm : m.toInt = (M : Int) ∧ M ≤ 6) (h : HS9 o M s (opGive m k d s).2 du I) : AM (e + 3) 264 112 [.ref 97, .int k, .int d] I J R (fun x _ I2 J2 _ => x = anX (opGive m k d s).1 (pcV ((opGive m k d s).2.2.1 (nn9 k))) ∧ HS9 o M (opGive m k d s).2 (opGive m k d s).2 du I2 ∧ FrMk I J I2 J2) := by
  subst em
  exact px_mGive h.2.1 hm h.2.2.1.lo h.2.2.1.hv0 (fun _ h2 hF => ⟨rfl, h.mf ho h2 h.2.2.2.1 hF, hF⟩)
theorem cx_take9 {e : Nat} {k d m : Int32} (hR : RI R) (em : I (R 1 7) 4 = m) (hm : m.toInt = (M : Int) ∧ M ≤ 6) (h : HS9 (R 1 7) M s s du I) : AM (e + 3) 122 112 [.ref 1, .int k, .int d] I J R (fun x _ I2 J2 _ => x = anX (opTake m k d s).1 (pcV ((opTake m k d s).2.2.1 (nn9 k))) ∧ HS9 (R 1 7) M s (opTake m k d s).2 du I2 ∧ FrCk (R 1 7) I J I2 J2) := by
  subst em
  exact px_cTake hR hm h.1 h.2.2.1.take.2 (fun _ h2 hF => ⟨rfl, h.cl (now_9 hR) h2 h.2.2.1.take hF, hF⟩)
theorem mx_take9 {e : Nat} {k d m : Int32} (ho : o = 9 ∨ o = 15) (em : I 102 0 = m) (hm : m.toInt = (M : Int) ∧ M ≤ 6) (h : HS9 o M s (opTake m k d s).2 du I) : AM (e + 3) 266 112 [.ref 97, .int k, .int d] I J R (fun x _ I2 J2 _ => x = anX (opTake m k d s).1 (pcV ((opTake m k d s).2.2.1 (nn9 k))) ∧ HS9 o M (opTake m k d s).2 (opTake m k d s).2 du I2 ∧ FrMk I J I2 J2) := by
  subst em
  exact px_mTake h.2.1 hm h.2.2.1.hi h.2.2.1.hv0 (fun _ h2 hF => ⟨rfl, h.mf ho h2 h.2.2.2.1 hF, hF⟩)
end STX
end PT13x12
