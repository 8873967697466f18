/-! printed by grp5.py: places of fields, by lists: what keeps them -/
def okL (L : List (Nat × Nat)) (ci k : Nat) : Bool := L.all fun q => !(Nat.beq (shl.getD (q.1 - 1) (999, 0)).1 ci && Nat.beq q.2 k)
theorem okL_ne {L : List (Nat × Nat)} {ci k : Nat} (h : okL L ci k = true) {q : Nat × Nat} (hq : q ∈ L) : ¬ ((shl.getD (q.1 - 1) (999, 0)).1 = ci ∧ q.2 = k) := fun z => by
  have h1 := List.all_eq_true.mp h q hq
  rw [z.1, z.2, nb_refl, nb_refl] at h1
  exact absurd h1 (by decide)
def PlK (L : List (Nat × Nat)) (I I2 : Im) : Prop := ∀ q ∈ L, I2 q.1 q.2 = I q.1 q.2
theorem PlK.rf {L : List (Nat × Nat)} {I : Im} : PlK L I I := fun _ _ => rfl
theorem PlK.tr {L : List (Nat × Nat)} {I I2 I3 : Im} (h : PlK L I I2) (h2 : PlK L I2 I3) : PlK L I I3 := fun q hq => (h2 q hq).trans (h q hq)
theorem PlK.at {L : List (Nat × Nat)} {I I2 : Im} (h : PlK L I I2) {o k : Nat} (hq : L.contains (o, k) = true) : I2 o k = I o k := h (o, k) (List.contains_iff_mem.mp hq)
theorem stg_L {L : List (Nat × Nat)} (hL : (L.all fun q => Nat.blt (shl.getD (q.1 - 1) (999, 0)).1 100) = true) {I0 : Im} : StG (fun _ => false) (okL L) (fun I _ _ => PlK L I0 I) := by
  have hlt : ∀ q ∈ L, (shl.getD (q.1 - 1) (999, 0)).1 < 100 := fun q hq => Nat.lt_of_lt_of_le (Nat.lt_succ_self _) (Nat.le_of_ble_eq_true (List.all_eq_true.mp hL q hq))
  refine ⟨fun I J R o ci k x h1 h2 h3 hF q hq => ?_, fun I J R o ci k x h1 h2 h3 hF => hF, fun I J R a t j x h1 h2 hF q hq => ?_, fun I J R a t j x h1 h2 hF => hF, fun I J R a0 a1 t p q m h1 h2 hF z hz => ?_, fun I J R a0 a1 t p q m h1 h2 hF => hF, fun I J R o ci k x h1 h2 hF => hF⟩
  · by_cases ho : q.1 = o
    · have hk : ¬ q.2 = k := fun z => okL_ne h3 hq ⟨by rw [ho]; exact h1, z⟩
      rw [ho, rd_k hk, ← ho]; exact hF q hq
    · rw [uI_ne ho]; exact hF q hq
  · have := hlt q hq
    rw [uI_ne (fun z => by rw [z] at this; omega)]; exact hF q hq
  · have := hlt z hz
    show (if z.1 = a1 then va_cpy (I a0) (I a1) p q m else I z.1) z.2 = I0 z.1 z.2
    rw [if_neg (fun y => by rw [y] at this; omega)]; exact hF z hz
def plF : List (Nat × Nat) := [(3, 3), (3, 12), (3, 13), (97, 10), (97, 11)]
/-- all that may write those: X11_bakery, X11_days, X12_bakery, X12_days, X12_isWell, X1_readInto, X1_readKnown, X1_readMan, X1_readOdds, X1_readStore, X1_takeSlices, X3_readAct, X3_readCut, X3_readEnd, X3_readInto, X3_readStep, X3_readTest, X3_takeMan, X6_misplaced, X6_open, X6_takeCompares, X6_takeName, X6_takeNumber, X6_takeSemicolon, X6_takeWord, X6_wrong, X6_wrongTaken -/
def dtpF : List Nat := [0, 21, 22, 23, 24, 25, 26, 27, 32, 33, 34, 35, 36, 37, 38, 39, 40, 53, 58, 61, 65, 66, 67, 69, 70, 71, 72, 73, 74, 85, 88, 94, 99, 108, 109, 172, 223, 233, 237]
set_option maxRecDepth 100000 in
theorem clpF : ClT pul dtpF (fun _ _ => true) (okL plF) := ClT.ev (by decide +kernel)
theorem kpF {d mi n : Nat} {as : List Value} {I : Im} {J : Jm} {R : Rm} {Q : Qt} (hd : dtpF.elem mi = false) (h : AM d mi n as I J R (fun x y I' J' R' => PlK plF I I' → Q x y I' J' R')) : AM d mi n as I J R Q :=
  AM_w (F := fun I' _ _ => PlK plF I I') pul_kk clpF gf_none (stg_L (by decide +kernel)) hd kvS_none HRf_none PlK.rf h
