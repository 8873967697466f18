/-! ===== has(), lacks(): whether they tell ===== -/
theorem x_one {x : Int32} (h : x.toInt = 1) : x = 1 := Int32.toInt_inj.mp h
