section PT6x0
/-! ===== the scribe's bakery() ===== -/
section RB4
variable {T : Nat → Int32} {e a d o : Nat} {I : Im} {J : Jm} {R : Rm} {Q : Qt} {B : BS}
theorem px_forgetB (hO : isO 112 o 0 = true) (ho : 9 ≤ o) {N : Nat → Int64} (hQ : ∀ I2, FrW (Wo o) nV I J I2 J → BkC emC N o I2 J → Q 0 0 I2 J R) : AM (d + 2) 1 112 [.ref o] I J R Q := by
  obtain ⟨hA, hL, -⟩ := fa_0_0 hO
  refine w_X0_forget (bif_t hO (px_fill hA (fun I2 h1 h2 => bif_t hO (bif_t hO (bif_t hO (bif_t hO ?_))))))
  rw [hL] at h2
  have hF : FrW (Wo o) nV I J I2 J := ⟨fun c k q => by
    by_cases z : c = o + 1
    · exact absurd ⟨by omega, by omega⟩ (fun w => q (show o ≤ c ∧ c ≤ o + 5 from w))
    · rw [h1 c z], fun _ _ _ => rfl⟩
  refine hQ _ ((((hF.u ⟨by omega, by omega⟩).u ⟨by omega, by omega⟩).u ⟨by omega, by omega⟩).u ⟨by omega, by omega⟩) ⟨?_, ?_, ?_, ?_, fun d h3 h4 => ?_, fun k hk => ?_⟩
  · rw [rd_eq]; rfl
  · rw [rd_k (by decide), rd_k (by decide), rd_k (by decide), rd_eq]; rfl
  · rw [rd_k (by decide), rd_eq]; rfl
  · rw [rd_k (by decide), rd_k (by decide), rd_eq]; rfl
  · rw [rd_ne (by first | decide | omega), rd_ne (by first | decide | omega), rd_ne (by first | decide | omega), rd_ne (by first | decide | omega), h2, if_pos (by omega)]
    unfold emC
    rw [if_neg (by omega), if_neg (by omega)]
  · exact absurd hk (by rw [show mnN emC = 0 from rfl]; omega)
theorem rd_into {Q : Nat → Qt} {P : Kt} (hc : Cl (AM (d + 5)) true false 0 (fun _ => 0) 2 112 kX1_readInto Q P) {I0 : Im} {J0 : Jm} (ho : 9 ≤ o) (hO : isO 112 o 0 = true) (r : Rs BS) (hE : ∀ p I2 J2, r = .error p → FrB o I0 J0 I2 J2 → Ft p I2 → Q 112 0 0 I2 J2 R) (hK : ∀ B2 b I2 J2, r = .ok (B2, b) → FrB o I0 J0 I2 J2 → Rd T e b I2 J2 → BkS B2 o I2 J2 → BOk B2 → Q 112 1 0 I2 J2 R) :
    ∀ (f i a : Nat) (B : BS) (I : Im) (J : Jm), e < a + f → i ≤ a → r = prB T e f B a → BOk B → FrB o I0 J0 I J → Rd T e a I J → BkS B o I J → P 24 112 [(0, .ref 6), (1, .ref o), (2, .ref 3), (3, .int 1), (4, .int (nI i))] [] I J R := by
  have bad : ∀ p (i : Nat) (I : Im) (J : Jm), r = .error p → FrB o I0 J0 I J → Ft p I → P 24 112 [(0, .ref 6), (1, .ref o), (2, .ref 3), (3, .int 0), (4, .int (nI i + 1))] [] I J R := fun p i I J he hF hf =>
    sg_X1_readInto_24 hc _ _ _ _ _ _ ⟨fun _ => ⟨Or.inl rfl, hE p I J he hF hf⟩, fun _ => ⟨fun _ => ⟨Or.inl rfl, hE p I J he hF hf⟩, fun q => absurd rfl q⟩⟩
  intro f
  induction f with
  | zero => intro i a B I J h _ _ _ _ hR; have := hR.a; omega
  | succ f ih =>
    intro i a B I J hf hi hv hBO hF h hB
    have he := h.e
    have ha := h.a
    have done : tK (tok T e a) = 0 → Q 112 1 0 I J R := fun z => hK B a I J (by rw [hv]; unfold prB; rw [if_pos z]) hF h hB hBO
    have tend : e ≤ a → tK (tok T e a) = 0 := fun z => by
      have h1 := tok_s (T := T) ha
      have h2 := tok_b (T := T) ha
      exact h2.2.2.2.mpr (by omega)
    refine sg_X1_readInto_24 hc _ _ _ _ _ _ ⟨fun c => ⟨Or.inr rfl, done (tend ?_)⟩, fun c => ⟨fun q => absurd q (by decide), fun _ => ?_⟩⟩
    · have := (nle_nI (a := 900) (by omega) (by omega)).mp c; omega
    have hi9 : i < 900 := gt_of (a := 900) (b := i) (by omega) (by omega) c
    refine ⟨fun c => ⟨Or.inr rfl, done ((h.k_is (n := 0) (by omega)).mp c)⟩, fun c => ?_⟩
    have hk : ¬ tK (tok T e a) = 0 := fun q => c ((h.k_is (n := 0) (by omega)).mpr q)
    have hv2 : r = rb (prP T e B a) fun B b => prB T e f B b := by rw [hv]; conv => lhs; unfold prB
                                                                   rw [if_neg hk]
    have up := up_prP (T := T) (B := B) ha
    have er : ∀ p I2 J2, prP T e B a = .error p → FrB o I J I2 J2 → Ft p I2 → P 24 112 [(0, .ref 6), (1, .ref o), (2, .ref 3), (3, .int 0), (4, .int (nI i + 1))] [] I2 J2 R := fun p I2 J2 hp hF2 hf2 => bad p i I2 J2 (by rw [hv2, rb_e hp]) (hF.tr hF2) hf2
    have ok : ∀ B2 b I2 J2, prP T e B a = .ok (B2, b) → FrB o I J I2 J2 → Rd T e b I2 J2 → BkS B2 o I2 J2 → P 24 112 [(0, .ref 6), (1, .ref o), (2, .ref 3), (3, .int 1), (4, .int (nI i + 1))] [] I2 J2 R := fun B2 b I2 J2 hp hF2 h2 hB2 => by
      rw [hp] at up
      rw [nI_k1]
      exact ih (i + 1) b B2 I2 J2 (by have := up.1; omega) (by have := up.1; omega) (by rw [hv2, rb_k hp]) (bok_prP hBO hp) (hF.tr hF2) h2 hB2
    have ms : prP T e B a = .error (mis T e a) → AM (d + 5) 66 112 [.ref 3] I J R (fun x y I' J' R' => (x = 0 ∨ x = 1) → P 24 112 [(0, .ref 6), (1, .ref o), (2, .ref 3), (3, .int x), (4, .int (nI i + 1))] [] I' J' R) := fun hp => px_mis h (fun I2 J2 hF2 hf2 _ => er _ I2 J2 hp hF2.rb hf2)
    rw [h.w]
    refine ⟨fun c1 => ?_, fun c1 => ⟨fun c2 => ?_, fun c2 => ⟨fun c3 => ms ?_, fun c3 => ⟨fun c4 => ?_, fun c4 => ⟨fun c5 => ms ?_, fun c5 => ⟨fun c6 => ms ?_, fun c6 => ⟨fun c7 => ms ?_, fun c7 => ⟨fun c8 => ?_, fun c8 => ms ?_⟩⟩⟩⟩⟩⟩⟩⟩
    · have e1 : prP T e B a = prO T e B a := by unfold prP; rw [if_pos c1]
      exact px_rOdds ho hO h hB (fun p I2 J2 hp hF2 hf2 _ => er p I2 J2 (e1.trans hp) hF2 hf2) (fun B2 b I2 J2 hp hF2 h2 hB2 _ => ok B2 b I2 J2 (e1.trans hp) hF2 h2 hB2)
    · have e1 : prP T e B a = prS T e B a := by unfold prP; rw [if_neg c1, if_pos c2]
      exact px_rStore ho hO h hB (fun p I2 J2 hp hF2 hf2 _ => er p I2 J2 (e1.trans hp) hF2 hf2) (fun B2 b I2 J2 hp hF2 h2 hB2 _ => ok B2 b I2 J2 (e1.trans hp) hF2 h2 hB2)
    · unfold prP; rw [c3]; rfl
    · have e1 : prP T e B a = prM T e B a := by unfold prP; rw [if_neg c1, if_neg c2, if_pos c4]
      exact px_rMan ho hO hBO.1 h hB (fun p I2 J2 hp hF2 hf2 _ => er p I2 J2 (e1.trans hp) hF2 hf2) (fun B2 b I2 J2 hp hF2 h2 hB2 _ => ok B2 b I2 J2 (e1.trans hp) hF2 h2 hB2)
    · unfold prP; rw [c5]; rfl
    · unfold prP; rw [c6]; rfl
    · unfold prP; rw [c7]; rfl
    · have e1 : prP T e B a = prK T e B a := by unfold prP; rw [if_neg c1, if_neg c2, if_neg c4, if_pos c8]
      exact px_rKnown ho hO h hB (fun p I2 J2 hp hF2 hf2 _ => er p I2 J2 (e1.trans hp) hF2 hf2) (fun B2 b I2 J2 hp hF2 h2 hB2 _ => ok B2 b I2 J2 (e1.trans hp) hF2 h2 hB2)
    · unfold prP; rw [if_neg c1, if_neg c2, if_neg c4, if_neg c8]
theorem px_intoB (ho : 9 ≤ o) (hO : isO 112 o 0 = true) (h : Rd T e 0 I J) (hE : ∀ p I2 J2, prB T e (e + 1) em0 0 = .error p → FrB o I J I2 J2 → Ft p I2 → Q 0 0 I2 J2 R) (hK : ∀ B2 b I2 J2, prB T e (e + 1) em0 0 = .ok (B2, b) → FrB o I J I2 J2 → Rd T e b I2 J2 → BkS B2 o I2 J2 → BOk B2 → Q 1 0 I2 J2 R) : AM (d + 6) 21 112 [.ref 6, .ref o, .ref 3] I J R Q := by
  refine am_X1_readInto (fun P hc => sg_X1_readInto_0 hc _ _ _ _ (bif_t hO (px_forgetB (N := fun _ => 0) hO ho (fun I2 hF2 hB2 => ⟨Or.inl rfl, Or.inl rfl, ?_⟩))))
  have hF3 : FrB o I J (uI (uI (uI I2 6 0 0) 6 1 0) 6 2 0) J := ((((hF2.up (V2 := VB o) (W2 := WB o) (fun _ _ q => Or.inr (Or.inr q)) nV.up).u (Or.inr (Or.inl rfl))).u (Or.inr (Or.inl rfl))).u (Or.inr (Or.inl rfl)))
  have es : ∀ c, ¬ c = 6 → c < o → uI (uI (uI I2 6 0 0) 6 1 0) 6 2 0 c = I c := fun c h1 h2 => (uI_ne h1).trans ((uI_ne h1).trans ((uI_ne h1).trans (hF2.c (by intro k q; omega))))
  refine rd_into (T := T) (e := e) (R := R) (o := o) hc (I0 := I) (J0 := J) ho hO _ hE hK (e + 1) 0 0 em0 _ J (by omega) (by omega) rfl BOk.em hF3 (h.o (es 3 (by decide) (by omega)) (es 4 (by decide) (by omega)) rfl rfl) ⟨hB2.cp (fun c _ _ => (uI_ne (by first | decide | omega)).trans ((uI_ne (by first | decide | omega)).trans (uI_ne (by first | decide | omega)))) rfl, ?_, ?_, rd_eq⟩
  · rw [rd_k (by decide), rd_k (by decide), rd_eq]; rfl
  · rw [rd_k (by decide), rd_eq]; rfl
/-- days that are not there -/
theorem px_forgetD {p : Nat} (hO : isO 112 p 2 = true) (hQ : Q 0 0 (uI (uI (uI I p 0 0) p 1 0) p 2 0) J R) : AM (d + 1) 28 112 [.ref p] I J R Q :=
  w_X2_forget (bif_t hO ⟨Or.inl rfl, bif_t hO (bif_t hO hQ)⟩)
/-- a text is opened -/
noncomputable abbrev W3 : Nat → Nat → Prop := fun c _ => c = 3
theorem px_open {f n : Nat} (hf : f ≤ 900) (hn : n ≤ f) (h1 : I 3 1 = nI f) (hJ : ∀ k, k < 22 → J 5 k = rsv.getD k 0) (hQ : ∀ I2 J2, FrW W3 VR I J I2 J2 → Rd (I 4) n 0 I2 J2 → I2 3 1 = 0 → I2 3 3 = 1 → Q 0 0 I2 J2 R) : AM (d + 3) 61 112 [.ref 3, .int (nI n)] I J R Q := by
  refine w_X6_open ⟨Or.inr rfl, ?_⟩
  have e1 : (if (I 3 1 : Int32) < nI n then (I 3 1) else nI n) = nI n := by
    rw [h1, if_neg (fun q => by have := (nlt_nI (by omega) (by omega)).mp q; omega)]
  have e2 : (if (0 : Int32) < nI n then nI n else 0) = nI n := by
    by_cases q : (0 : Int32) < nI n
    · rw [if_pos q]
    · rw [if_neg q]
      have := ge_of (a := 0) (b := n) (by omega) (by omega) q
      rw [show n = 0 by omega]; rfl
  rw [e1, e2]
  have hF : FrW W3 VR I J (uI (uI (uI (uI (uI (uI I 3 4 (nI n)) 3 1 0) 3 3 1) 3 5 0) 3 12 0) 3 13 (-1)) J := ((((((FrW.rf (W := W3) (V := VR)).u rfl).u rfl).u rfl).u rfl).u rfl).u rfl
  refine px_advance (T := I 4) (e := n) (a := 0) (by omega) (by omega) (hF.c (by intro k q; exact absurd (show (4 : Nat) = 3 from q) (by decide))) (by rw [rd_k (by decide), rd_k (by decide), rd_k (by decide), rd_k (by decide), rd_k (by decide), rd_eq]) (by rw [rd_k (by decide), rd_k (by decide), rd_eq]; rfl) hJ (fun I2 J2 hF2 hS h7 => ?_)
  refine hQ I2 J2 (hF.tr (hF2.up (fun _ _ q => q.1) (fun _ _ q => q))) ⟨hS, ⟨?_, ?_⟩, by omega, by omega⟩ ?_ ?_
  · rw [hF2.i (by decide), rd_k (by decide), rd_eq]
  · rw [hF2.i (by decide), rd_eq]
  · rw [hF2.i (by decide), rd_k (by decide), rd_k (by decide), rd_k (by decide), rd_k (by decide), rd_eq]
  · rw [hF2.i (by decide), rd_k (by decide), rd_k (by decide), rd_k (by decide), rd_eq]
end RB4
end PT6x0
section PT6x1
/-! ===== the reference's reader ===== -/
theorem b255 : ∀ k : Nat, k < 256 → (Int32.ofInt ((k : Int) - 128) &&& 255).toInt = if (k : Int) - 128 < 0 then (k : Int) + 128 else (k : Int) - 128 := by decide +kernel
theorem an255 {x : Int32} (h : -128 ≤ x.toInt ∧ x.toInt ≤ 127) : (x &&& 255).toInt = if x.toInt < 0 then x.toInt + 256 else x.toInt := by
  have h1 := b255 (x.toInt + 128).toNat (by omega)
  have h2 : (((x.toInt + 128).toNat : Nat) : Int) - 128 = x.toInt := by omega
  rw [h2, Int32.ofInt_toInt] at h1
  rw [h1]
  split
  · omega
  · rfl
/-- bytes -/
noncomputable def Byt (T : Nat → Int32) : Prop := ∀ i, -128 ≤ (T i).toInt ∧ (T i).toInt ≤ 127
noncomputable def lk (T : Nat → Int32) (e i : Nat) : Int32 := if i < e then T i &&& 255 else 0
theorem lt97 {x : Int32} {n : Int32} {a b : Int} (hx : x.toInt = a) (hn : n.toInt = b) : x < n ↔ a < b := by rw [Int32.lt_iff_toInt_lt, hx, hn]
theorem isLe_i {x : Int32} {a : Int} (hx : x.toInt = a) : isLe x = true ↔ 97 ≤ a ∧ a ≤ 122 := by
  rw [isLe_t, lt97 hx (show (97 : Int32).toInt = 97 from rfl), lt97 (show (122 : Int32).toInt = 122 from rfl) hx]; omega
theorem isDi_i {x : Int32} {a : Int} (hx : x.toInt = a) : isDi x = true ↔ 48 ≤ a ∧ a ≤ 57 := by
  rw [isDi_t, lt97 hx (show (48 : Int32).toInt = 48 from rfl), lt97 (show (57 : Int32).toInt = 57 from rfl) hx]; omega
theorem eq_i {x n : Int32} {a b : Int} (hx : x.toInt = a) (hn : n.toInt = b) : x = n ↔ a = b := by rw [← Int32.toInt_inj, hx, hn]
theorem lk_in {T : Nat → Int32} {e i : Nat} (hT : Byt T) (h : i < e) : (lk T e i).toInt = if (T i).toInt < 0 then (T i).toInt + 256 else (T i).toInt := by
  unfold lk
  rw [if_pos h, an255 (hT i)]
theorem lk_out {T : Nat → Int32} {e i : Nat} (h : ¬ i < e) : lk T e i = 0 := by
  unfold lk
  rw [if_neg h]
theorem lk_le {T : Nat → Int32} {e i : Nat} (hT : Byt T) : isLe (lk T e i) = true ↔ i < e ∧ isLe (T i) = true := by
  by_cases q : i < e
  · have h1 := lk_in hT q
    have h2 := hT i
    rw [isLe_i h1, isLe_i (x := T i) rfl]
    by_cases q2 : (T i).toInt < 0
    · rw [if_pos q2]; omega
    · rw [if_neg q2]; omega
  · rw [lk_out q]
    exact ⟨fun z => absurd z (by decide), fun z => absurd z.1 q⟩
theorem lk_di {T : Nat → Int32} {e i : Nat} (hT : Byt T) : isDi (lk T e i) = true ↔ i < e ∧ isDi (T i) = true := by
  by_cases q : i < e
  · have h1 := lk_in hT q
    have h2 := hT i
    rw [isDi_i h1, isDi_i (x := T i) rfl]
    by_cases q2 : (T i).toInt < 0
    · rw [if_pos q2]; omega
    · rw [if_neg q2]; omega
  · rw [lk_out q]
    exact ⟨fun z => absurd z (by decide), fun z => absurd z.1 q⟩
/-- a byte of the text's own kinds is itself -/
theorem lk_c {T : Nat → Int32} {e i : Nat} (hT : Byt T) (h : i < e) {n : Int32} (hn : 1 ≤ n.toInt ∧ n.toInt ≤ 127) : lk T e i = n ↔ T i = n := by
  have h1 := lk_in hT h
  have h2 := hT i
  rw [eq_i h1 rfl, eq_i (x := T i) rfl rfl]
  by_cases q2 : (T i).toInt < 0
  · rw [if_pos q2]; omega
  · rw [if_neg q2]
theorem lk_eq {T : Nat → Int32} {e i : Nat} (hT : Byt T) (h : i < e) (h0 : 0 ≤ (T i).toInt) : lk T e i = T i := by
  have h1 := lk_in hT h
  exact Int32.toInt_inj.mp (by rw [h1, if_neg (by omega)])
theorem lk_sg {T : Nat → Int32} {e i : Nat} (hT : Byt T) (h : i < e) : isSg (lk T e i) = isSg (T i) := by
  have key : isSg (lk T e i) = true ↔ isSg (T i) = true := by
    rw [isSg_t, isSg_t, lk_c hT h (n := 59) (by decide), lk_c hT h (n := 60) (by decide), lk_c hT h (n := 62) (by decide), lk_c hT h (n := 61) (by decide)]
  cases q : isSg (T i) with
  | true => exact key.mpr q
  | false => exact bf_of (fun z => by rw [key.mp z] at q; cases q)
theorem isSg_pos {x : Int32} (h : isSg x = true) : 0 ≤ x.toInt := by
  rcases isSg_t.mp h with q | q | q | q <;> rw [q] <;> decide
/-- letters' numbers stay below 32 to their number -/
theorem leN_in {T : Nat → Int32} {s : Nat} : ∀ {k : Nat}, k ≤ 8 → (∀ j, j < k → isLe (T (s + j)) = true) → (k = 0 ∨ 1 ≤ (leN T s k).toInt) ∧ 0 ≤ (leN T s k).toInt ∧ (leN T s k).toInt < 32 ^ k := by
  intro k
  induction k with
  | zero => intro _ _; exact ⟨Or.inl rfl, by show (0 : Int) ≤ (0 : Int64).toInt; decide, by show (0 : Int64).toInt < 32 ^ 0; decide⟩
  | succ k ih =>
    intro h8 h
    obtain ⟨h1, h2, h3⟩ := ih (by omega) (fun j hj => h j (by omega))
    have h4 := (isLe_i (x := T (s + k)) rfl).mp (h k (by omega))
    have hp : (32 : Int) ^ (k + 1) = 32 ^ k * 32 := Int.pow_succ _ _
    have hk7 : (32 : Int) ^ k ≤ 34359738368 := by
      have : ∀ k : Nat, k ≤ 7 → (32 : Int) ^ k ≤ 34359738368 := by decide +kernel
      exact this k (by omega)
    have e1 : ((T (s + k) - 97) + 1 : Int32).toInt = (T (s + k)).toInt - 96 := by
      have a := ti_sub (x := T (s + k)) (y := 97) rfl (show (97 : Int32).toInt = 97 from rfl) (by omega)
      rw [ti_add a (show (1 : Int32).toInt = 1 from rfl) (by omega)]; omega
    have e2 : (leN T s k * 32).toInt = (leN T s k).toInt * 32 := by
      rw [Int64.toInt_mul, show (32 : Int64).toInt = 32 from rfl]; exact tl_bmod (by omega) (by omega)
    have e3 : (leN T s (k + 1)).toInt = (leN T s k).toInt * 32 + ((T (s + k)).toInt - 96) := by
      rw [leN_s, if_neg (by omega)]
      exact tl_add e2 (tl_i2l e1) (by omega)
    rw [e3, hp]
    exact ⟨Or.inr (by omega), by omega, by omega⟩
theorem let_eq {x : Int32} {w : Int64} (h : 97 ≤ x.toInt ∧ x.toInt ≤ 122) : w * 32 + Int32.toInt64 x - 96 = w * 32 + Int32.toInt64 ((x - 97) + 1) := by
  have e : Int32.toInt64 ((x - 97) + 1) = Int32.toInt64 x - 96 := Int64.toInt_inj.mp (by
    have a := ti_sub (x := x) (y := 97) rfl (show (97 : Int32).toInt = 97 from rfl) (by omega)
    have b := ti_add a (show (1 : Int32).toInt = 1 from rfl) (by omega)
    rw [tl_i2l b, tl_sub (tl_i2l (x := x) rfl) (show (96 : Int64).toInt = 96 from rfl) (by omega)]; omega)
  rw [e, Int64.sub_eq_add_neg, Int64.sub_eq_add_neg, Int64.add_assoc]
theorem dig_eq {x n : Int32} : 10 * n + x - 48 = n * 10 + (x - 48) := by
  rw [Int32.mul_comm 10 n, Int32.sub_eq_add_neg, Int32.sub_eq_add_neg, Int32.add_assoc]
/-- what the reference has of a row of letters: -1 for more than eight -/
noncomputable def leR (T : Nat → Int32) (s k : Nat) : Int64 := if 8 < k then -1 else leN T s k
noncomputable abbrev WM (ws : List Nat) : Nat → Nat → Prop := fun o k => o = 97 ∧ k ∈ ws
noncomputable abbrev VM : Nat → Nat → Prop := fun o k => o = 97 ∧ k = 19
theorem WM.no {ws : List Nat} {o : Nat} (h : ¬ o = 97) : ∀ k, ¬ WM ws o k := fun _ q => h q.1
theorem VM.no {o : Nat} (h : ¬ o = 97) : ∀ k, ¬ VM o k := fun _ q => h q.1
theorem WM.up {ws vs : List Nat} (h : ∀ k, k ∈ ws → k ∈ vs) : ∀ o k, WM ws o k → WM vs o k := fun _ _ q => ⟨q.1, h _ q.2⟩
noncomputable abbrev msA : List Nat := [14, 15, 16, 17, 18]
/-- the text lies on the tape -/
noncomputable def Txt (T : Nat → Int32) (e : Nat) (I : Im) : Prop := (∀ i, i < e → I 101 i = T i) ∧ I 97 9 = nI e
/-- the reference's reader ahead of the token behind place a -/
noncomputable def RmS (T : Nat → Int32) (e a : Nat) (I : Im) (J : Jm) : Prop := Txt T e I ∧ I 97 16 = nI (tB (tok T e a)) ∧ I 97 15 = nI (tS (tok T e a)) ∧ I 97 14 = nI (tK (tok T e a)) ∧ (tK (tok T e a) = 1 → J 97 19 = (if tW (tok T e a) = 0 then -1 else tW (tok T e a)) ∧ I 97 18 = nI (tB (tok T e a) - tS (tok T e a)) ∧ (tW (tok T e a) = 0 ↔ 8 < tB (tok T e a) - tS (tok T e a))) ∧ (tK (tok T e a) = 2 ∨ tK (tok T e a) = 3 → I 97 17 = tV (tok T e a))
theorem px_look2 {d : Nat} {Q : Qt} {T : Nat → Int32} {e i : Nat} {v : Int32} {I : Im} {J : Jm} {R : Rm} (hT : Txt T e I) (he : e ≤ 900) (hi : i ≤ 1000) (hv : v = nI i) (hQ : Q (lk T e i) 0 I J R) : AM (d + 1) 191 112 [.ref 97, .int v] I J R Q := by
  subst hv
  refine w_X12_look2 ?_
  rw [hT.2]
  refine ⟨fun c => ?_, fun c => ⟨?_, ?_⟩⟩
  · have := (nle_nI (a := e) (b := i) (by omega) hi).mp c
    rw [lk_out (by omega)] at hQ; exact hQ
  · have := gt_of (a := e) (b := i) (by omega) hi c
    exact vp_nI hi (by omega)
  · have hlt : i < e := by have := gt_of (a := e) (b := i) (by omega) hi c; omega
    rw [tn_nI (by omega), hT.1 i hlt]
    have e1 : lk T e i = T i &&& 255 := by unfold lk; rw [if_pos hlt]
    rw [e1] at hQ; exact hQ
theorem px_isLetter {d : Nat} {Q : Qt} {x : Int32} {I : Im} {J : Jm} {R : Rm} (hY : isLe x = true → Q 1 0 I J R) (hN : isLe x = false → Q 0 0 I J R) : AM (d + 1) 192 112 [.int x] I J R Q :=
  w_X12_isLetter ⟨fun c => ⟨Or.inl rfl, hN (bf_of (fun z => (isLe_t.mp z).1 c))⟩, fun c => ⟨fun c2 => ⟨Or.inl rfl, hN (bf_of (fun z => (isLe_t.mp z).2 c2))⟩, fun c2 => ⟨Or.inr rfl, hY (isLe_t.mpr ⟨c, c2⟩)⟩⟩⟩
theorem px_isDigit {d : Nat} {Q : Qt} {x : Int32} {I : Im} {J : Jm} {R : Rm} (hY : isDi x = true → Q 1 0 I J R) (hN : isDi x = false → Q 0 0 I J R) : AM (d + 1) 193 112 [.int x] I J R Q :=
  w_X12_isDigit ⟨fun c => ⟨Or.inl rfl, hN (bf_of (fun z => (isDi_t.mp z).1 c))⟩, fun c => ⟨fun c2 => ⟨Or.inl rfl, hN (bf_of (fun z => (isDi_t.mp z).2 c2))⟩, fun c2 => ⟨Or.inr rfl, hY (isDi_t.mpr ⟨c, c2⟩)⟩⟩⟩
theorem px_isSignB {d : Nat} {Q : Qt} {x : Int32} {I : Im} {J : Jm} {R : Rm} (hY : isSg x = true → Q 1 0 I J R) (hN : isSg x = false → Q 0 0 I J R) : AM (d + 1) 194 112 [.ref 97, .int x] I J R Q :=
  w_X12_isSignByte ⟨fun c => ⟨Or.inr rfl, hY (isSg_t.mpr (Or.inl c))⟩, fun c => ⟨fun c2 => ⟨Or.inr rfl, hY (isSg_t.mpr (Or.inr (Or.inl c2)))⟩, fun c2 => ⟨fun c3 => ⟨Or.inr rfl, hY (isSg_t.mpr (Or.inr (Or.inr (Or.inl c3))))⟩, fun c3 => ⟨fun c4 => ⟨Or.inl rfl, hN (bf_of (isSg_no c c2 c3 c4))⟩, fun c4 => ⟨Or.inr rfl, hY (isSg_t.mpr (Or.inr (Or.inr (Or.inr c4))))⟩⟩⟩⟩⟩
end PT6x1
section PT6x2
/-! ===== the reference's reader: a token more ===== -/
theorem rf_bl {d : Nat} {Q : Nat → Qt} {P : Kt} (hc : Cl (AM (d + 1)) true false 0 (fun _ => 0) 0 112 kX12_advance Q P) {T : Nat → Int32} {e a : Nat} {I0 : Im} {J : Jm} {R : Rm} (he : e ≤ 900) (hB : Byt T) (hQ : ∀ I2, FrW (WM msA) VM I0 J I2 J → I2 97 15 = nI (rnX isBl T e a) → P 58 112 [(0, .ref 97)] [] I2 J R) :
    ∀ (m i : Nat) (I : Im), e - i < m → i ≤ e → rnX isBl T e i = rnX isBl T e a → FrW (WM msA) VM I0 J I J → Txt T e I → I 97 15 = nI i → P 8 112 [(0, .ref 97)] [] I J R := by
  intro m
  induction m with
  | zero => intro i I h; omega
  | succ m ih =>
    intro i I hm h2 hr hF hT h5
    have exit : rnX isBl T e i = i → P 58 112 [(0, .ref 97)] [] I J R := fun hz => by
      rw [hz] at hr
      exact hQ _ hF (by rw [← hr]; exact h5)
    have next : i < e → isBl (T i) = true → P 8 112 [(0, .ref 97)] [] (uI I 97 15 (nI i + 1)) J R := fun hi hb => by
      rw [nI_k1]
      refine ih (i + 1) _ (by omega) (by omega) (by rw [← rnX_s (p := isBl) hi hb]; exact hr) (hF.u ⟨rfl, by decide⟩) ⟨fun j hj => ?_, ?_⟩ rd_eq
      · rw [rd_ne (by decide)]; exact hT.1 j hj
      · rw [rd_k (by decide)]; exact hT.2
    refine sg_X12_advance_8 hc _ _ _ ?_
    rw [hT.2, h5]
    refine ⟨fun c => exit ?_, fun c => ?_⟩
    · exact rnX_z (fun q => absurd ((nle_nI (by omega) (by omega)).mp c) (by omega))
    · have hi : i < e := by have := gt_of (a := e) (b := i) (by omega) (by omega) c; omega
      refine px_look2 hT he (by omega) rfl ?_
      rw [lk_c hB hi (n := 10) (by decide), h5]
      refine ⟨fun c2 => next hi (isBl_t.mpr (Or.inr c2)), fun c2 => px_look2 hT he (by omega) rfl ?_⟩
      rw [lk_c hB hi (n := 32) (by decide), h5]
      refine ⟨fun c3 => exit ?_, fun c3 => next hi (isBl_t.mpr (Or.inl c3))⟩
      exact rnX_z (fun _ => bf_of (fun q => (isBl_t.mp q).elim c3 c2))
theorem rf_wrd {d : Nat} {Q : Nat → Qt} {P : Kt} (hc : Cl (AM (d + 1)) true false 0 (fun _ => 0) 0 112 kX12_advance Q P) {T : Nat → Int32} {e s : Nat} {I0 : Im} {J0 : Jm} {R : Rm} (he : e ≤ 900) (hB : Byt T) (hQ : ∀ I2 J2, FrW (WM [16, 18]) VM I0 J0 I2 J2 → I2 97 16 = nI (rnX isLe T e s) → I2 97 18 = nI (rnX isLe T e s - s) → J2 97 19 = leR T s (rnX isLe T e s - s) → (∀ j, j < rnX isLe T e s - s → isLe (T (s + j)) = true) → Q 112 0 0 I2 J2 R) :
    ∀ (m i : Nat) (I : Im) (J : Jm), e - i < m → s ≤ i → i ≤ e → rnX isLe T e i = rnX isLe T e s → (∀ j, j < i - s → isLe (T (s + j)) = true) → FrW (WM [16, 18]) VM I0 J0 I J → Txt T e I → I 97 16 = nI i → I 97 15 = nI s → J 97 19 = leR T s (i - s) → P 109 112 [(0, .ref 97)] [] I J R := by
  intro m
  induction m with
  | zero => intro i I J h; omega
  | succ m ih =>
    intro i I J hm h1 h2 hr hall hF hT h6 h5 hJ
    refine sg_X12_advance_109 hc _ _ _ ?_
    refine px_look2 hT he (by omega) h6 (px_isLetter (fun hl _ => ⟨fun q => absurd q (by decide), fun _ => ?_⟩) (fun hl _ => ⟨fun _ => ?_, fun q => absurd rfl q⟩))
    · obtain ⟨hi, hl⟩ := (lk_le hB).mp hl
      have hd := rnX_s (p := isLe) hi hl
      have hx := (isLe_i (x := T i) rfl).mp hl
      have hT2 : Txt T e (uI I 97 16 (nI (i + 1))) := ⟨fun j hj => by rw [rd_ne (by decide)]; exact hT.1 j hj, by rw [rd_k (by decide)]; exact hT.2⟩
      have hall2 : ∀ j, j < i + 1 - s → isLe (T (s + j)) = true := fun j hj => by
        by_cases q : j = i - s
        · rw [q, show s + (i - s) = i by omega]; exact hl
        · exact hall j (by omega)
      rw [h6, h5, nI_sub (by omega) h1, nI_k1]
      have go : ∀ v, v = leR T s (i + 1 - s) → P 109 112 [(0, .ref 97)] [] (uI I 97 16 (nI (i + 1))) (uJ J 97 19 v) R := fun v hv =>
        ih (i + 1) _ _ (by omega) (by omega) (by omega) (by rw [← hd]; exact hr) hall2 ((hF.u ⟨rfl, by decide⟩).uj ⟨rfl, rfl⟩) hT2 rd_eq (by rw [rd_k (by decide)]; exact h5) (by rw [rj_eq]; exact hv)
      refine ⟨fun c => go _ ?_, fun c => px_look2 hT he (by omega) rfl ?_⟩
      · have := (nle_nI (a := 8) (by omega) (by omega)).mp c
        unfold leR
        rw [if_pos (by omega)]
      · have := gt_of (a := 8) (b := i - s) (by omega) (by omega) c
        rw [h6, nI_k1]
        refine go _ ?_
        unfold leR at hJ ⊢
        rw [if_neg (by omega)] at hJ ⊢
        rw [hJ, lk_eq hB hi (by omega), show i + 1 - s = (i - s) + 1 by omega, let_eq hx]
        rw [leN_s, if_neg (by omega), show s + (i - s) = i by omega]
    · have hz : rnX isLe T e i = i := rnX_z (fun q => bf_of (fun z => by rw [(lk_le hB).mpr ⟨q, z⟩] at hl; cases hl))
      rw [hz] at hr
      rw [h6, h5, nI_sub (by omega) h1]
      exact hQ _ _ (hF.u ⟨rfl, by decide⟩) (by rw [rd_k (by decide), ← hr]; exact h6) (by rw [rd_eq, ← hr]) (by rw [← hr]; exact hJ) (by rw [← hr]; exact hall)
theorem rf_num {d : Nat} {Q : Nat → Qt} {P : Kt} (hc : Cl (AM (d + 1)) true false 0 (fun _ => 0) 0 112 kX12_advance Q P) {T : Nat → Int32} {e s : Nat} {I0 : Im} {J : Jm} {R : Rm} (he : e ≤ 900) (hB : Byt T) (hQ : ∀ I2, FrW (WM [14, 16, 17]) nV I0 J I2 J → I2 97 16 = nI (rnX isDi T e s) → I2 97 14 = nI (if rnX isDi T e s - s ≤ 4 then 2 else 4) → (rnX isDi T e s - s ≤ 4 → I2 97 17 = diN T s (rnX isDi T e s - s)) → Q 112 0 0 I2 J R) :
    ∀ (m i : Nat) (I : Im), e - i < m → s ≤ i → i ≤ e → rnX isDi T e i = rnX isDi T e s → FrW (WM [14, 16, 17]) nV I0 J I J → Txt T e I → I 97 16 = nI i → I 97 15 = nI s → (i - s ≤ 4 → I 97 17 = diN T s (i - s)) → P 210 112 [(0, .ref 97)] [] I J R := by
  intro m
  induction m with
  | zero => intro i I h; omega
  | succ m ih =>
    intro i I hm h1 h2 hr hF hT h6 h5 h7
    refine sg_X12_advance_210 hc _ _ _ ?_
    refine px_look2 hT he (by omega) h6 (px_isDigit (fun hl _ => ⟨fun q => absurd q (by decide), fun _ => ?_⟩) (fun hl _ => ⟨fun _ => ?_, fun q => absurd rfl q⟩))
    · obtain ⟨hi, hl⟩ := (lk_di hB).mp hl
      have hd := rnX_s (p := isDi) hi hl
      have hx := (isDi_i (x := T i) rfl).mp hl
      rw [h6, h5, nI_sub (by omega) h1, nI_k1]
      refine ⟨fun c => ?_, fun c => px_look2 hT he (by omega) rfl ?_⟩
      · have := (nle_nI (a := 4) (by omega) (by omega)).mp c
        exact ih (i + 1) _ (by omega) (by omega) (by omega) (by rw [← hd]; exact hr) (hF.u ⟨rfl, by decide⟩) ⟨fun j hj => by rw [rd_ne (by decide)]; exact hT.1 j hj, by rw [rd_k (by decide)]; exact hT.2⟩ rd_eq (by rw [rd_k (by decide)]; exact h5) (fun q => by omega)
      · have := gt_of (a := 4) (b := i - s) (by omega) (by omega) c
        rw [rd_k (show ¬ 16 = 17 by decide), h6, nI_k1]
        refine ih (i + 1) _ (by omega) (by omega) (by omega) (by rw [← hd]; exact hr) ((hF.u ⟨rfl, by decide⟩).u ⟨rfl, by decide⟩) ⟨fun j hj => by rw [rd_ne (by decide), rd_ne (by decide)]; exact hT.1 j hj, by rw [rd_k (by decide), rd_k (by decide)]; exact hT.2⟩ rd_eq (by rw [rd_k (by decide), rd_k (by decide)]; exact h5) (fun q => ?_)
        rw [rd_k (by decide), rd_eq, h7 (by omega), lk_eq hB hi (by omega), dig_eq, show i + 1 - s = (i - s) + 1 by omega]
        rw [diN_s, if_neg (by omega), show s + (i - s) = i by omega]
    · have hz : rnX isDi T e i = i := rnX_z (fun q => bf_of (fun z => by rw [(lk_di hB).mpr ⟨q, z⟩] at hl; cases hl))
      rw [hz] at hr
      rw [h6, h5, nI_sub (by omega) h1]
      have key : ∀ v : Int32, v = nI (if i - s ≤ 4 then 2 else 4) → Q 112 0 0 (uI I 97 14 v) J R := fun v hv => hQ _ (hF.u ⟨rfl, by decide⟩) (by rw [rd_k (by decide), ← hr]; exact h6) (by rw [rd_eq, ← hr]; exact hv) (fun q => by rw [rd_k (by decide), ← hr]; exact h7 (by rw [← hr] at q; exact q))
      refine ⟨fun c => key _ ?_, fun c => key _ ?_⟩
      · rw [if_pos ((nle_nI (b := 4) (by omega) (by omega)).mp c)]; rfl
      · rw [if_neg (fun z => c ((nle_nI (b := 4) (by omega) (by omega)).mpr z))]; rfl
theorem px_madv {d : Nat} {Q : Qt} {T : Nat → Int32} {e a : Nat} {I : Im} {J : Jm} {R : Rm} (he : e ≤ 900) (ha : a ≤ e) (hB : Byt T) (hT : Txt T e I) (h6 : I 97 16 = nI a) (hQ : ∀ I2 J2, FrW (WM msA) VM I J I2 J2 → RmS T e a I2 J2 → Q 0 0 I2 J2 R) : AM (d + 2) 195 112 [.ref 97] I J R Q := by
  refine am_X12_advance (fun P hc => sg_X12_advance_0 hc _ _ _ ?_)
  rw [h6]
  refine rf_bl hc (I0 := I) (T := T) (a := a) he hB (fun I2 hF g5 => ?_) (e - a + 1) a _ (by omega) ha rfl (FrW.rf.u ⟨rfl, by decide⟩) ⟨fun j hj => by rw [rd_ne (by decide)]; exact hT.1 j hj, by rw [rd_k (by decide)]; exact hT.2⟩ rd_eq
  have hse := (rnX_in (p := isBl) (T := T) ha)
  have htok : tok T e a = tokW T e (rnX isBl T e a) := rfl
  generalize rnX isBl T e a = s at g5 hse htok
  refine sg_X12_advance_58 hc _ _ _ ?_
  have hF3 : FrW (WM msA) VM I J (uI I2 97 16 (I2 97 15)) J := hF.u ⟨rfl, by decide⟩
  have mT : Txt T e (uI I2 97 16 (I2 97 15)) := ⟨fun j hj => by rw [hF3.i (by intro q; exact absurd q.1 (by decide))]; exact hT.1 j hj, by rw [hF3.i (by decide)]; exact hT.2⟩
  have m5 : uI I2 97 16 (I2 97 15) 97 15 = nI s := by rw [rd_k (by decide)]; exact g5
  have m6 : uI I2 97 16 (I2 97 15) 97 16 = nI s := by rw [rd_eq]; exact g5
  generalize uI I2 97 16 (I2 97 15) = M at hF3 mT m5 m6
  rw [m5, mT.2]
  refine ⟨fun c => ?_, fun c => ?_⟩
  · have hs : s < e := (nlt_nI (by omega) (by omega)).mp c
    refine px_look2 mT he (by omega) rfl (px_isLetter (fun hl _ => ⟨fun q => absurd q (by decide), fun _ => ?_⟩) (fun hl _ => ⟨fun _ => ?_, fun q => absurd rfl q⟩))
    · have hl2 := ((lk_le hB).mp hl).2
      have ht : tok T e a = (s, 1, 0, leN T s (rnX isLe T e s - s), rnX isLe T e s) := by
        rw [htok]
        unfold tokW
        rw [if_neg (by omega), if_pos hl2]
      refine rf_wrd hc (I0 := uI M 97 14 1) (J0 := uJ J 97 19 0) (T := T) (s := s) he hB (fun I3 J3 hF4 k6 k8 kJ hall => ?_) (e - s + 1) s _ _ (by omega) (Nat.le_refl _) (Nat.le_of_lt hs) rfl (fun j hj => by omega) FrW.rf ⟨fun j hj => by rw [rd_ne (by decide)]; exact mT.1 j hj, by rw [rd_k (by decide)]; exact mT.2⟩ (by rw [rd_k (by decide)]; exact m6) (by rw [rd_k (by decide)]; exact m5) (by rw [rj_eq, Nat.sub_self]; rfl)
      have hF5 : FrW (WM msA) VM I J I3 J3 := ((hF3.u (k := 14) (v := 1) ⟨rfl, by decide⟩).uj (o := 97) (k := 19) (v := 0) ⟨rfl, rfl⟩).tr (hF4.up (WM.up (by decide)) (fun _ _ q => q))
      refine hQ _ _ hF5 ⟨⟨fun j hj => ?_, ?_⟩, ?_, ?_, ?_, fun _ => ⟨?_, ?_, ?_⟩, fun q => ?_⟩
      · rw [hF5.i (by intro q; exact absurd q.1 (by decide))]; exact hT.1 j hj
      · rw [hF5.i (by decide)]; exact hT.2
      · rw [k6, ht]; rfl
      · rw [hF4.i (by decide), rd_k (by decide), ht]; exact m5
      · rw [hF4.i (by decide), rd_eq, ht]; rfl
      all_goals have hb := rnX_in (p := isLe) (T := T) (i := s + 1) (e := e) hs
      all_goals have hb2 := rnX_s (p := isLe) (T := T) hs hl2
      · rw [kJ, ht]
        show leR T s (rnX isLe T e s - s) = if leN T s (rnX isLe T e s - s) = 0 then -1 else leN T s (rnX isLe T e s - s)
        unfold leR
        by_cases q : 8 < rnX isLe T e s - s
        · rw [if_pos q]
          have : leN T s (rnX isLe T e s - s) = 0 := by
            obtain ⟨n, hn⟩ : ∃ n, rnX isLe T e s - s = n + 1 := ⟨rnX isLe T e s - s - 1, by omega⟩
            rw [hn]; unfold leN; rw [if_pos (by omega)]
          rw [this]; rfl
        · rw [if_neg q]
          have h1 := leN_in (T := T) (s := s) (k := rnX isLe T e s - s) (by omega) hall
          rw [if_neg]
          intro z
          rw [z] at h1
          have := h1.1
          exact absurd (this.resolve_left (by omega)) (by decide)
      · rw [k8, ht]; rfl
      · rw [ht]
        show leN T s (rnX isLe T e s - s) = 0 ↔ 8 < rnX isLe T e s - s
        refine ⟨fun z => ?_, fun q => ?_⟩
        · rcases Nat.lt_or_ge 8 (rnX isLe T e s - s) with q | q
          · exact q
          · have h1 := leN_in (T := T) (s := s) (k := rnX isLe T e s - s) q hall
            rw [z] at h1
            exact absurd (h1.1.resolve_left (by omega)) (by decide)
        · obtain ⟨n, hn⟩ : ∃ n, rnX isLe T e s - s = n + 1 := ⟨rnX isLe T e s - s - 1, by omega⟩
          rw [hn]; unfold leN; rw [if_pos (by omega)]
      · rw [ht] at q
        exact absurd (show (1 : Nat) = 2 ∨ (1 : Nat) = 3 from q) (by decide)
    · have hl2 : isLe (T s) = false := bf_of (fun z => by rw [(lk_le hB).mpr ⟨hs, z⟩] at hl; cases hl)
      have ht : tok T e a = if isDi (T s) = true then (s, (if rnX isDi T e s - s ≤ 4 then 2 else 4), diN T s (rnX isDi T e s - s), 0, rnX isDi T e s) else (s, (if isSg (T s) = true then 3 else 4), T s, 0, s + 1) := by
        rw [htok]
        unfold tokW
        rw [if_neg (by omega), if_neg (by rw [hl2]; decide)]
      refine px_isDigit (fun hd _ => ⟨fun q => absurd q (by decide), fun _ => ?_⟩) (fun hd _ => ⟨fun _ => ?_, fun q => absurd rfl q⟩)
      · rw [if_pos ((lk_di hB).mp hd).2] at ht
        refine rf_num hc (I0 := uI M 97 17 0) (T := T) (s := s) he hB (fun I3 hF4 k6 k14 k17 => ?_) (e - s + 1) s _ (by omega) (Nat.le_refl _) (Nat.le_of_lt hs) rfl FrW.rf ⟨fun j hj => by rw [rd_ne (by decide)]; exact mT.1 j hj, by rw [rd_k (by decide)]; exact mT.2⟩ (by rw [rd_k (by decide)]; exact m6) (by rw [rd_k (by decide)]; exact m5) (fun _ => by rw [rd_eq, Nat.sub_self]; rfl)
        have hF5 : FrW (WM msA) VM I J I3 J := (hF3.u (k := 17) (v := 0) ⟨rfl, by decide⟩).tr (hF4.up (WM.up (by decide)) nV.up)
        refine hQ _ _ hF5 ⟨⟨fun j hj => ?_, ?_⟩, ?_, ?_, ?_, fun q => ?_, fun q => ?_⟩
        · rw [hF5.i (by intro q; exact absurd q.1 (by decide))]; exact hT.1 j hj
        · rw [hF5.i (by decide)]; exact hT.2
        · rw [k6, ht]; rfl
        · rw [hF4.i (by decide), rd_k (by decide), ht]; exact m5
        · rw [k14, ht]; rfl
        · rw [ht] at q
          change (if rnX isDi T e s - s ≤ 4 then 2 else 4) = 1 at q
          split at q <;> exact absurd q (by decide)
        · rw [ht] at q ⊢
          refine k17 ?_
          rcases Nat.lt_or_ge 4 (rnX isDi T e s - s) with z | z
          · change (if rnX isDi T e s - s ≤ 4 then 2 else 4) = 2 ∨ (if rnX isDi T e s - s ≤ 4 then 2 else 4) = 3 at q
            rw [if_neg (by omega)] at q; omega
          · exact z
      · have hd2 : isDi (T s) = false := bf_of (fun z => by rw [(lk_di hB).mpr ⟨hs, z⟩] at hd; cases hd)
        rw [if_neg (by rw [hd2]; decide)] at ht
        rw [m5, nI_k1]
        have fin : ∀ v : Int32, v = nI (if isSg (T s) = true then 3 else 4) → Q 0 0 (uI (uI (uI M 97 16 (nI (s + 1))) 97 17 (lk T e s)) 97 14 v) J R := fun v hv => by
          have hF5 : FrW (WM msA) VM I J (uI (uI (uI M 97 16 (nI (s + 1))) 97 17 (lk T e s)) 97 14 v) J := ((hF3.u ⟨rfl, by decide⟩).u ⟨rfl, by decide⟩).u ⟨rfl, by decide⟩
          refine hQ _ _ hF5 ⟨⟨fun j hj => ?_, ?_⟩, ?_, ?_, ?_, fun q => ?_, fun q => ?_⟩
          · rw [hF5.i (by intro q; exact absurd q.1 (by decide))]; exact hT.1 j hj
          · rw [hF5.i (by decide)]; exact hT.2
          · rw [rd_k (by decide), rd_k (by decide), rd_eq, ht]; rfl
          · rw [rd_k (by decide), rd_k (by decide), rd_k (by decide), ht]; exact m5
          · rw [rd_eq, ht]; exact hv
          · rw [ht] at q
            change (if isSg (T s) = true then 3 else 4) = 1 at q
            split at q <;> exact absurd q (by decide)
          · rw [ht] at q ⊢
            rw [rd_k (by decide), rd_eq]
            refine lk_eq hB hs (isSg_pos ?_)
            cases z : isSg (T s) with
            | true => rfl
            | false =>
              change (if isSg (T s) = true then 3 else 4) = 2 ∨ (if isSg (T s) = true then 3 else 4) = 3 at q
              rw [if_neg (by rw [z]; decide)] at q; omega
        refine px_isSignB (fun hq _ => ⟨fun q => absurd q (by decide), fun _ => fin _ ?_⟩) (fun hq _ => ⟨fun _ => fin _ ?_, fun q => absurd rfl q⟩)
        · rw [lk_sg hB hs] at hq
          rw [if_pos hq]; rfl
        · rw [lk_sg hB hs] at hq
          rw [if_neg (by rw [hq]; decide)]; rfl
  · have hs : s = e := by have := ge_of (a := s) (b := e) (by omega) (by omega) c; omega
    subst hs
    have ht : tok T s a = (s, 0, 0, 0, s) := by
      rw [htok]
      unfold tokW
      rw [if_pos (Nat.le_refl _)]
    have hF5 : FrW (WM msA) VM I J (uI M 97 14 0) J := hF3.u ⟨rfl, by decide⟩
    refine hQ _ _ hF5 ⟨⟨fun j hj => ?_, ?_⟩, ?_, ?_, ?_, fun q => ?_, fun q => ?_⟩
    · rw [hF5.i (by intro q; exact absurd q.1 (by decide))]; exact hT.1 j hj
    · rw [hF5.i (by decide)]; exact hT.2
    · rw [rd_k (by decide), ht]; exact m6
    · rw [rd_k (by decide), ht]; exact m5
    · rw [rd_eq, ht]; rfl
    · rw [ht] at q
      exact absurd (show (0 : Nat) = 1 from q) (by decide)
    · rw [ht] at q
      exact absurd (show (0 : Nat) = 2 ∨ (0 : Nat) = 3 from q) (by decide)
end PT6x2
section PT6x3
/-! ===== the reference's reader: words ===== -/
theorem rsv_i : ∀ i, i < 22 → 1 ≤ i → wiN (rsv.getD i 0) 21 = nI i ∧ ¬ rsv.getD i 0 = 0 ∧ ¬ rsv.getD i 0 = -1 := by decide +kernel
theorem wiN_of {w : Int64} {j : Nat} (hj : 1 ≤ j ∧ j ≤ 21) : ∀ k, k ≤ 21 → wiN w k = nI j → rsv.getD j 0 = w := by
  intro k
  induction k with
  | zero => intro _ h; exact absurd ((nK (a := 0) (b := j) (by omega) (by omega)).mp h) (by omega)
  | succ k ih =>
    intro hk h
    unfold wiN at h
    split at h
    · rename_i q
      have := (nK (a := k + 1) (b := j) (by omega) (by omega)).mp h
      rw [← this]; exact q
    · exact ih (by omega) h
theorem wiN_in {w : Int64} : ∀ k, k ≤ 21 → ∃ j, j ≤ 21 ∧ wiN w k = nI j := by
  intro k
  induction k with
  | zero => intro _; exact ⟨0, by omega, rfl⟩
  | succ k ih =>
    intro hk
    unfold wiN
    split
    · exact ⟨k + 1, hk, rfl⟩
    · exact ih (by omega)
theorem wiN_iff {w : Int64} {i : Nat} (hi : 1 ≤ i ∧ i ≤ 21) : wiN w 21 = nI i ↔ w = rsv.getD i 0 := by
  constructor
  · intro h; exact (wiN_of hi 21 (by omega) h).symm
  · intro h; rw [h]; exact (rsv_i i (by omega) hi.1).1
theorem tI_in {t : Tok} (h : tK t = 1) : ∃ j, j ≤ 21 ∧ tI t = nI j := by
  unfold tI
  rw [if_pos h]
  exact wiN_in 21 (by omega)
noncomputable abbrev msB : List Nat := [12, 13, 14, 15, 16, 17, 18]
noncomputable abbrev FrM (I : Im) (J : Jm) (I2 : Im) (J2 : Jm) : Prop := FrW (WM msB) VM I J I2 J2
/-- the reference's reader ahead of place a, no fault -/
noncomputable def Mr (T : Nat → Int32) (e a : Nat) (I : Im) (J : Jm) : Prop := RmS T e a I J ∧ I 97 12 = 0 ∧ a ≤ e ∧ e ≤ 900 ∧ Byt T
noncomputable def FtM (p : Nat × Nat) (I : Im) : Prop := I 97 12 = nI p.1 ∧ I 97 13 = nI p.2 ∧ 1 ≤ p.1 ∧ p.1 ≤ 7
section MR
variable {T : Nat → Int32} {e a d : Nat} {I : Im} {J : Jm} {R : Rm} {Q : Qt}
theorem Mr.ha (h : Mr T e a I J) : a ≤ e := h.2.2.1
theorem Mr.he (h : Mr T e a I J) : e ≤ 900 := h.2.2.2.1
theorem Mr.f (h : Mr T e a I J) : I 97 12 = 0 := h.2.1
theorem Mr.s (h : Mr T e a I J) : I 97 15 = nI (tS (tok T e a)) := h.1.2.2.1
theorem Mr.b (h : Mr T e a I J) : I 97 16 = nI (tB (tok T e a)) := h.1.2.1
theorem Mr.k (h : Mr T e a I J) : I 97 14 = nI (tK (tok T e a)) := h.1.2.2.2.1
theorem Mr.w (h : Mr T e a I J) (q : tK (tok T e a) = 1) : J 97 19 = (if tW (tok T e a) = 0 then -1 else tW (tok T e a)) := (h.1.2.2.2.2.1 q).1
theorem Mr.v (h : Mr T e a I J) (q : tK (tok T e a) = 2 ∨ tK (tok T e a) = 3) : I 97 17 = tV (tok T e a) := h.1.2.2.2.2.2 q
theorem Mr.k_is {n : Nat} (h : Mr T e a I J) (hn : n ≤ 1000) : I 97 14 = nI n ↔ tK (tok T e a) = n := by
  have := tok_k (T := T) (e := e) (a := a)
  rw [h.k, nK (by omega) hn]
theorem Mr.o (h : Mr T e a I J) {I2 : Im} {J2 : Jm} (h3 : ∀ k, k = 9 ∨ k = 12 ∨ k = 14 ∨ k = 15 ∨ k = 16 ∨ k = 17 ∨ k = 18 → I2 97 k = I 97 k) (h4 : I2 101 = I 101) (j3 : J2 97 = J 97) : Mr T e a I2 J2 := by
  unfold Mr RmS Txt at h ⊢
  rw [h3 9 (by omega), h3 12 (by omega), h3 14 (by omega), h3 15 (by omega), h3 16 (by omega), h3 17 (by omega), h3 18 (by omega), h4, j3]
  exact h
theorem FtM.ne {p : Nat × Nat} (h : FtM p I) : ¬ I 97 12 = 0 ∧ ¬ I 97 12 ≤ 0 ∧ 0 < I 97 12 := by
  obtain ⟨h1, h2, h3, h4⟩ := h
  rw [h1]
  exact ⟨fun q => by have := (nK (a := p.1) (b := 0) (by omega) (by omega)).mp q; omega, fun q => by have := (nle_nI (a := p.1) (b := 0) (by omega) (by omega)).mp q; omega, (nlt_nI (a := 0) (b := p.1) (by omega) (by omega)).mpr (by omega)⟩
theorem Mr.le (h : Mr T e a I J) : I 97 12 ≤ 0 ∧ ¬ 0 < I 97 12 := by rw [h.f]; exact ⟨by decide, by decide⟩
theorem px_isWord {i : Nat} {w : Int64} (hi : 1 ≤ i ∧ i ≤ 21) (hw : w = rsv.getD i 0) (h : Mr T e a I J) (hY : tI (tok T e a) = nI i → Q 1 0 I J R) (hN : ¬ tI (tok T e a) = nI i → Q 0 0 I J R) : AM (d + 1) 198 112 [.ref 97, .long w] I J R Q := by
  have hr := rsv_i i (by omega) hi.1
  refine w_X12_isWord ⟨fun c => ⟨Or.inl rfl, hN (fun q => ?_)⟩, fun c => ?_⟩
  · have hk : ¬ tK (tok T e a) = 1 := fun z => c ((h.k_is (n := 1) (by omega)).mpr z)
    unfold tI at q
    rw [if_neg hk] at q
    exact absurd q.symm (fun z => by
      have h1 : (nI i).toInt = i := nI_ti (by omega)
      rw [z] at h1
      have : ((-1 : Int32)).toInt = -1 := rfl
      omega)
  · have hk : tK (tok T e a) = 1 := (h.k_is (n := 1) (by omega)).mp c
    have e1 : tI (tok T e a) = nI i ↔ tW (tok T e a) = w := by
      unfold tI
      rw [if_pos hk, wiN_iff hi, hw]
    have e2 : J 97 19 = w ↔ tW (tok T e a) = w := by
      rw [h.w hk]
      by_cases q : tW (tok T e a) = 0
      · rw [if_pos q, q, hw]
        exact ⟨fun z => absurd z.symm hr.2.2, fun z => absurd z.symm hr.2.1⟩
      · rw [if_neg q]
    rw [lg_cmp_eq, e2, ← e1]
    exact ⟨fun c2 => ⟨Or.inl rfl, hN c2⟩, fun c2 => ⟨Or.inr rfl, hY c2⟩⟩
noncomputable def spl (v0 v1 v2 v3 v4 : Int32) : Int64 :=
  if v2 ≤ 0 then
    (if v3 ≤ 0 then (if v4 ≤ 0 then (((((Int32.toInt64 v0) - 96) * 32) + (Int32.toInt64 v1)) - 96) else ((((((((Int32.toInt64 v0) - 96) * 32) + (Int32.toInt64 v1)) - 96) * 32) + (Int32.toInt64 v4)) - 96))
    else (if v4 ≤ 0 then ((((((((Int32.toInt64 v0) - 96) * 32) + (Int32.toInt64 v1)) - 96) * 32) + (Int32.toInt64 v3)) - 96) else (((((((((((Int32.toInt64 v0) - 96) * 32) + (Int32.toInt64 v1)) - 96) * 32) + (Int32.toInt64 v3)) - 96) * 32) + (Int32.toInt64 v4)) - 96)))
  else
    (if v3 ≤ 0 then (if v4 ≤ 0 then ((((((((Int32.toInt64 v0) - 96) * 32) + (Int32.toInt64 v1)) - 96) * 32) + (Int32.toInt64 v2)) - 96) else (((((((((((Int32.toInt64 v0) - 96) * 32) + (Int32.toInt64 v1)) - 96) * 32) + (Int32.toInt64 v2)) - 96) * 32) + (Int32.toInt64 v4)) - 96))
    else (if v4 ≤ 0 then (((((((((((Int32.toInt64 v0) - 96) * 32) + (Int32.toInt64 v1)) - 96) * 32) + (Int32.toInt64 v2)) - 96) * 32) + (Int32.toInt64 v3)) - 96) else ((((((((((((((Int32.toInt64 v0) - 96) * 32) + (Int32.toInt64 v1)) - 96) * 32) + (Int32.toInt64 v2)) - 96) * 32) + (Int32.toInt64 v3)) - 96) * 32) + (Int32.toInt64 v4)) - 96)))
theorem px_spell {v0 v1 v2 v3 v4 : Int32} (hQ : Q 0 (spl v0 v1 v2 v3 v4) I J R) : AM (d + 1) 197 112 [.int v0, .int v1, .int v2, .int v3, .int v4] I J R Q := by
  unfold spl at hQ
  refine w_X12_spelled ⟨fun c => ?_, fun c => ?_⟩
  · rw [if_pos c] at hQ
    refine ⟨fun c2 => ?_, fun c2 => ?_⟩
    · rw [if_pos c2] at hQ
      exact ⟨fun c3 => by rw [if_pos c3] at hQ; exact hQ, fun c3 => by rw [if_neg c3] at hQ; exact hQ⟩
    · rw [if_neg c2] at hQ
      exact ⟨fun c3 => by rw [if_pos c3] at hQ; exact hQ, fun c3 => by rw [if_neg c3] at hQ; exact hQ⟩
  · rw [if_neg c] at hQ
    refine ⟨fun c2 => ?_, fun c2 => ?_⟩
    · rw [if_pos c2] at hQ
      exact ⟨fun c3 => by rw [if_pos c3] at hQ; exact hQ, fun c3 => by rw [if_neg c3] at hQ; exact hQ⟩
    · rw [if_neg c2] at hQ
      exact ⟨fun c3 => by rw [if_pos c3] at hQ; exact hQ, fun c3 => by rw [if_neg c3] at hQ; exact hQ⟩
theorem px_isOdds (h : Mr T e a I J) (hY : tI (tok T e a) = 1 → Q 1 0 I J R) (hN : ¬ tI (tok T e a) = 1 → Q 0 0 I J R) : AM (d + 2) 199 112 [.ref 97] I J R Q :=
  w_X12_isOdds (px_spell (px_isWord (i := 1) (by decide) (by decide +kernel) h (fun q _ => ⟨Or.inr rfl, hY q⟩) (fun q _ => ⟨Or.inl rfl, hN q⟩)))
theorem px_isStore (h : Mr T e a I J) (hY : tI (tok T e a) = 2 → Q 1 0 I J R) (hN : ¬ tI (tok T e a) = 2 → Q 0 0 I J R) : AM (d + 2) 200 112 [.ref 97] I J R Q :=
  w_X12_isStore (px_spell (px_isWord (i := 2) (by decide) (by decide +kernel) h (fun q _ => ⟨Or.inr rfl, hY q⟩) (fun q _ => ⟨Or.inl rfl, hN q⟩)))
theorem px_isTimes (h : Mr T e a I J) (hY : tI (tok T e a) = 3 → Q 1 0 I J R) (hN : ¬ tI (tok T e a) = 3 → Q 0 0 I J R) : AM (d + 2) 201 112 [.ref 97] I J R Q :=
  w_X12_isTimes (px_spell (px_isWord (i := 3) (by decide) (by decide +kernel) h (fun q _ => ⟨Or.inr rfl, hY q⟩) (fun q _ => ⟨Or.inl rfl, hN q⟩)))
theorem px_isMan_ (h : Mr T e a I J) (hY : tI (tok T e a) = 4 → Q 1 0 I J R) (hN : ¬ tI (tok T e a) = 4 → Q 0 0 I J R) : AM (d + 2) 202 112 [.ref 97] I J R Q :=
  w_X12_isMan (px_spell (px_isWord (i := 4) (by decide) (by decide +kernel) h (fun q _ => ⟨Or.inr rfl, hY q⟩) (fun q _ => ⟨Or.inl rfl, hN q⟩)))
theorem px_isDue (h : Mr T e a I J) (hY : tI (tok T e a) = 5 → Q 1 0 I J R) (hN : ¬ tI (tok T e a) = 5 → Q 0 0 I J R) : AM (d + 2) 203 112 [.ref 97] I J R Q :=
  w_X12_isDue (px_spell (px_isWord (i := 5) (by decide) (by decide +kernel) h (fun q _ => ⟨Or.inr rfl, hY q⟩) (fun q _ => ⟨Or.inl rfl, hN q⟩)))
theorem px_isBy (h : Mr T e a I J) (hY : tI (tok T e a) = 6 → Q 1 0 I J R) (hN : ¬ tI (tok T e a) = 6 → Q 0 0 I J R) : AM (d + 2) 204 112 [.ref 97] I J R Q :=
  w_X12_isBy (px_spell (px_isWord (i := 6) (by decide) (by decide +kernel) h (fun q _ => ⟨Or.inr rfl, hY q⟩) (fun q _ => ⟨Or.inl rfl, hN q⟩)))
theorem px_isHas (h : Mr T e a I J) (hY : tI (tok T e a) = 7 → Q 1 0 I J R) (hN : ¬ tI (tok T e a) = 7 → Q 0 0 I J R) : AM (d + 2) 205 112 [.ref 97] I J R Q :=
  w_X12_isHas (px_spell (px_isWord (i := 7) (by decide) (by decide +kernel) h (fun q _ => ⟨Or.inr rfl, hY q⟩) (fun q _ => ⟨Or.inl rfl, hN q⟩)))
theorem px_isKnown (h : Mr T e a I J) (hY : tI (tok T e a) = 8 → Q 1 0 I J R) (hN : ¬ tI (tok T e a) = 8 → Q 0 0 I J R) : AM (d + 2) 206 112 [.ref 97] I J R Q :=
  w_X12_isKnown (px_spell (px_isWord (i := 8) (by decide) (by decide +kernel) h (fun q _ => ⟨Or.inr rfl, hY q⟩) (fun q _ => ⟨Or.inl rfl, hN q⟩)))
theorem px_isEnd (h : Mr T e a I J) (hY : tI (tok T e a) = 20 → Q 1 0 I J R) (hN : ¬ tI (tok T e a) = 20 → Q 0 0 I J R) : AM (d + 2) 209 112 [.ref 97] I J R Q :=
  w_X12_isEnd (px_spell (px_isWord (i := 20) (by decide) (by decide +kernel) h (fun q _ => ⟨Or.inr rfl, hY q⟩) (fun q _ => ⟨Or.inl rfl, hN q⟩)))
/-- a step's word, a test's, by the token's number -/
noncomputable def stW (i : Int32) : Int32 := if i = 9 then 0 else if i = 10 then 1 else if i = 11 then 2 else if i = 12 then 3 else if i = 13 then 4 else if i = 14 then 5 else if i = 15 then 6 else if i = 19 then 7 else if i = 21 then 8 else -1
noncomputable def teW (i : Int32) : Int32 := if i = 16 then 0 else if i = 17 then 1 else if i = 18 then 2 else -1
theorem px_stepWord (h : Mr T e a I J) (hQ : Q (stW (tI (tok T e a))) 0 I J R) : AM (d + 2) 207 112 [.ref 97] I J R Q := by
  unfold stW at hQ
  exact w_X12_stepWord (px_spell (px_isWord (i := 9) (by decide) (by decide +kernel) h (fun q _ => ⟨fun z => absurd z (by decide), fun _ => by rw [if_pos (show tI (tok T e a) = 9 from q)] at hQ; exact hQ⟩) (fun n0 _ => ⟨fun _ => px_spell (px_isWord (i := 10) (by decide) (by decide +kernel) h (fun q _ => ⟨fun z => absurd z (by decide), fun _ => by rw [if_neg (show ¬ tI (tok T e a) = 9 from n0), if_pos (show tI (tok T e a) = 10 from q)] at hQ; exact hQ⟩) (fun n1 _ => ⟨fun _ => px_spell (px_isWord (i := 11) (by decide) (by decide +kernel) h (fun q _ => ⟨fun z => absurd z (by decide), fun _ => by rw [if_neg (show ¬ tI (tok T e a) = 9 from n0), if_neg (show ¬ tI (tok T e a) = 10 from n1), if_pos (show tI (tok T e a) = 11 from q)] at hQ; exact hQ⟩) (fun n2 _ => ⟨fun _ => px_spell (px_isWord (i := 12) (by decide) (by decide +kernel) h (fun q _ => ⟨fun z => absurd z (by decide), fun _ => by rw [if_neg (show ¬ tI (tok T e a) = 9 from n0), if_neg (show ¬ tI (tok T e a) = 10 from n1), if_neg (show ¬ tI (tok T e a) = 11 from n2), if_pos (show tI (tok T e a) = 12 from q)] at hQ; exact hQ⟩) (fun n3 _ => ⟨fun _ => px_spell (px_isWord (i := 13) (by decide) (by decide +kernel) h (fun q _ => ⟨fun z => absurd z (by decide), fun _ => by rw [if_neg (show ¬ tI (tok T e a) = 9 from n0), if_neg (show ¬ tI (tok T e a) = 10 from n1), if_neg (show ¬ tI (tok T e a) = 11 from n2), if_neg (show ¬ tI (tok T e a) = 12 from n3), if_pos (show tI (tok T e a) = 13 from q)] at hQ; exact hQ⟩) (fun n4 _ => ⟨fun _ => px_spell (px_isWord (i := 14) (by decide) (by decide +kernel) h (fun q _ => ⟨fun z => absurd z (by decide), fun _ => by rw [if_neg (show ¬ tI (tok T e a) = 9 from n0), if_neg (show ¬ tI (tok T e a) = 10 from n1), if_neg (show ¬ tI (tok T e a) = 11 from n2), if_neg (show ¬ tI (tok T e a) = 12 from n3), if_neg (show ¬ tI (tok T e a) = 13 from n4), if_pos (show tI (tok T e a) = 14 from q)] at hQ; exact hQ⟩) (fun n5 _ => ⟨fun _ => px_spell (px_isWord (i := 15) (by decide) (by decide +kernel) h (fun q _ => ⟨fun z => absurd z (by decide), fun _ => by rw [if_neg (show ¬ tI (tok T e a) = 9 from n0), if_neg (show ¬ tI (tok T e a) = 10 from n1), if_neg (show ¬ tI (tok T e a) = 11 from n2), if_neg (show ¬ tI (tok T e a) = 12 from n3), if_neg (show ¬ tI (tok T e a) = 13 from n4), if_neg (show ¬ tI (tok T e a) = 14 from n5), if_pos (show tI (tok T e a) = 15 from q)] at hQ; exact hQ⟩) (fun n6 _ => ⟨fun _ => px_spell (px_isWord (i := 19) (by decide) (by decide +kernel) h (fun q _ => ⟨fun z => absurd z (by decide), fun _ => by rw [if_neg (show ¬ tI (tok T e a) = 9 from n0), if_neg (show ¬ tI (tok T e a) = 10 from n1), if_neg (show ¬ tI (tok T e a) = 11 from n2), if_neg (show ¬ tI (tok T e a) = 12 from n3), if_neg (show ¬ tI (tok T e a) = 13 from n4), if_neg (show ¬ tI (tok T e a) = 14 from n5), if_neg (show ¬ tI (tok T e a) = 15 from n6), if_pos (show tI (tok T e a) = 19 from q)] at hQ; exact hQ⟩) (fun n7 _ => ⟨fun _ => px_spell (px_isWord (i := 21) (by decide) (by decide +kernel) h (fun q _ => ⟨fun z => absurd z (by decide), fun _ => by rw [if_neg (show ¬ tI (tok T e a) = 9 from n0), if_neg (show ¬ tI (tok T e a) = 10 from n1), if_neg (show ¬ tI (tok T e a) = 11 from n2), if_neg (show ¬ tI (tok T e a) = 12 from n3), if_neg (show ¬ tI (tok T e a) = 13 from n4), if_neg (show ¬ tI (tok T e a) = 14 from n5), if_neg (show ¬ tI (tok T e a) = 15 from n6), if_neg (show ¬ tI (tok T e a) = 19 from n7), if_pos (show tI (tok T e a) = 21 from q)] at hQ; exact hQ⟩) (fun n8 _ => ⟨fun _ => by rw [if_neg (show ¬ tI (tok T e a) = 9 from n0), if_neg (show ¬ tI (tok T e a) = 10 from n1), if_neg (show ¬ tI (tok T e a) = 11 from n2), if_neg (show ¬ tI (tok T e a) = 12 from n3), if_neg (show ¬ tI (tok T e a) = 13 from n4), if_neg (show ¬ tI (tok T e a) = 14 from n5), if_neg (show ¬ tI (tok T e a) = 15 from n6), if_neg (show ¬ tI (tok T e a) = 19 from n7), if_neg (show ¬ tI (tok T e a) = 21 from n8)] at hQ; exact hQ, fun z => absurd rfl z⟩)), fun z => absurd rfl z⟩)), fun z => absurd rfl z⟩)), fun z => absurd rfl z⟩)), fun z => absurd rfl z⟩)), fun z => absurd rfl z⟩)), fun z => absurd rfl z⟩)), fun z => absurd rfl z⟩)), fun z => absurd rfl z⟩)))
theorem px_testWord (h : Mr T e a I J) (hQ : Q (teW (tI (tok T e a))) 0 I J R) : AM (d + 2) 208 112 [.ref 97] I J R Q := by
  unfold teW at hQ
  exact w_X12_testWord (px_spell (px_isWord (i := 16) (by decide) (by decide +kernel) h (fun q _ => ⟨fun z => absurd z (by decide), fun _ => by rw [if_pos (show tI (tok T e a) = 16 from q)] at hQ; exact hQ⟩) (fun n0 _ => ⟨fun _ => px_spell (px_isWord (i := 17) (by decide) (by decide +kernel) h (fun q _ => ⟨fun z => absurd z (by decide), fun _ => by rw [if_neg (show ¬ tI (tok T e a) = 16 from n0), if_pos (show tI (tok T e a) = 17 from q)] at hQ; exact hQ⟩) (fun n1 _ => ⟨fun _ => px_spell (px_isWord (i := 18) (by decide) (by decide +kernel) h (fun q _ => ⟨fun z => absurd z (by decide), fun _ => by rw [if_neg (show ¬ tI (tok T e a) = 16 from n0), if_neg (show ¬ tI (tok T e a) = 17 from n1), if_pos (show tI (tok T e a) = 18 from q)] at hQ; exact hQ⟩) (fun n2 _ => ⟨fun _ => by rw [if_neg (show ¬ tI (tok T e a) = 16 from n0), if_neg (show ¬ tI (tok T e a) = 17 from n1), if_neg (show ¬ tI (tok T e a) = 18 from n2)] at hQ; exact hQ, fun z => absurd rfl z⟩)), fun z => absurd rfl z⟩)), fun z => absurd rfl z⟩)))
theorem kp_tab : ∀ j, j ≤ 21 → (¬ nI j = 1 ∧ ¬ nI j = 2 ∧ ¬ nI j = 3 ∧ ¬ nI j = 4 ∧ ¬ nI j = 5 ∧ ¬ nI j = 6 ∧ ¬ nI j = 7 ∧ ¬ nI j = 8 ∧ ¬ 0 ≤ stW (nI j) ∧ ¬ 0 ≤ teW (nI j) ∧ ¬ nI j = 20) → j = 0 := by decide +kernel
theorem kp_0 : ¬ (0 : Int32) ≤ stW 0 ∧ ¬ (0 : Int32) ≤ teW 0 := by decide
/-- a word that is kept -/
theorem px_isKept (hk : tK (tok T e a) = 1) (h : Mr T e a I J) (hY : ¬ tI (tok T e a) = 0 → Q 1 0 I J R) (hN : tI (tok T e a) = 0 → Q 0 0 I J R) : AM (d + 3) 210 112 [.ref 97] I J R Q := by
  have yes : ∀ i : Int32, ¬ i = 0 → tI (tok T e a) = i → (((1 : Int32) = 0 ∨ (1 : Int32) = 1) ∧ Q 1 0 I J R) := fun i hi q => ⟨Or.inr rfl, hY (by rw [q]; exact hi)⟩
  refine w_X12_isKept (px_isOdds h (fun q _ => ⟨fun _ => yes 1 (by decide) q, fun z => absurd z (by decide)⟩) (fun n1 _ => ⟨fun z => absurd rfl z, fun _ => ?_⟩))
  refine px_isStore h (fun q _ => ⟨fun _ => yes 2 (by decide) q, fun z => absurd z (by decide)⟩) (fun n2 _ => ⟨fun z => absurd rfl z, fun _ => ?_⟩)
  refine px_isTimes h (fun q _ => ⟨fun _ => yes 3 (by decide) q, fun z => absurd z (by decide)⟩) (fun n3 _ => ⟨fun z => absurd rfl z, fun _ => ?_⟩)
  refine px_isMan_ h (fun q _ => ⟨fun _ => yes 4 (by decide) q, fun z => absurd z (by decide)⟩) (fun n4 _ => ⟨fun z => absurd rfl z, fun _ => ?_⟩)
  refine px_isDue h (fun q _ => ⟨fun _ => yes 5 (by decide) q, fun z => absurd z (by decide)⟩) (fun n5 _ => ⟨fun z => absurd rfl z, fun _ => ?_⟩)
  refine px_isBy h (fun q _ => ⟨fun _ => yes 6 (by decide) q, fun z => absurd z (by decide)⟩) (fun n6 _ => ⟨fun z => absurd rfl z, fun _ => ?_⟩)
  refine px_isHas h (fun q _ => ⟨fun _ => yes 7 (by decide) q, fun z => absurd z (by decide)⟩) (fun n7 _ => ⟨fun z => absurd rfl z, fun _ => ?_⟩)
  refine px_isKnown h (fun q _ => ⟨fun z => absurd z (by decide), fun _ => yes 8 (by decide) q⟩) (fun n8 _ => ⟨fun _ => ?_, fun z => absurd rfl z⟩)
  refine px_stepWord h ⟨fun q => ⟨Or.inr rfl, hY (fun z => by rw [z] at q; exact kp_0.1 q)⟩, fun n9 => ?_⟩
  refine px_testWord h ⟨fun q => ⟨Or.inr rfl, hY (fun z => by rw [z] at q; exact kp_0.2 q)⟩, fun n10 => ?_⟩
  refine px_isEnd h (fun q _ => ⟨fun z => absurd z (by decide), fun _ => yes 20 (by decide) q⟩) (fun n11 _ => ⟨fun _ => ⟨Or.inl rfl, hN ?_⟩, fun z => absurd rfl z⟩)
  obtain ⟨j, hj, ej⟩ := tI_in hk
  rw [ej] at n1 n2 n3 n4 n5 n6 n7 n8 n9 n10 n11 ⊢
  rw [kp_tab j hj ⟨n1, n2, n3, n4, n5, n6, n7, n8, n9, n10, n11⟩]; rfl
theorem px_isName (h : Mr T e a I J) (hY : tI (tok T e a) = 0 → ¬ tW (tok T e a) = 0 → Q 1 0 I J R) (hN : ¬ tI (tok T e a) = 0 ∨ tW (tok T e a) = 0 → Q 0 0 I J R) : AM (d + 4) 211 112 [.ref 97] I J R Q := by
  refine w_X12_isName ⟨fun c => ⟨Or.inl rfl, hN (Or.inl (fun q => ?_))⟩, fun c => ?_⟩
  · exact c ((h.k_is (n := 1) (by omega)).mpr (tI_k (by rw [q]; decide)))
  · have hk : tK (tok T e a) = 1 := (h.k_is (n := 1) (by omega)).mp c
    obtain ⟨-, hl, h8⟩ := h.1.2.2.2.2.1 hk
    have hb := tok_b (T := T) h.ha
    have he := h.he
    rw [hl, show ((8 : Int32) < nI (tB (tok T e a) - tS (tok T e a))) ↔ 8 < tB (tok T e a) - tS (tok T e a) from nlt_nI (a := 8) (by omega) (by omega), ← h8]
    refine ⟨fun c2 => ⟨Or.inl rfl, hN (Or.inr c2)⟩, fun c2 => px_isKept hk h (fun q _ => ⟨fun _ => ⟨Or.inl rfl, hN (Or.inl q)⟩, fun z => absurd z (by decide)⟩) (fun q _ => ⟨fun z => absurd rfl z, fun _ => ⟨Or.inr rfl, hY q c2⟩⟩)⟩
end MR
end PT6x3
section PT6x4
/-! ===== the reference's reader: what is taken ===== -/
section MT
variable {T : Nat → Int32} {e a d : Nat} {I : Im} {J : Jm} {R : Rm} {Q : Qt}
theorem px_fail {k : Nat} {v : Int32} {s : Nat} (h : Mr T e a I J) (hk : 1 ≤ k ∧ k ≤ 7) (hv : v = nI s) (hQ : ∀ I2, FrM I J I2 J → FtM (k, s) I2 → Q 0 0 I2 J R) : AM (d + 1) 212 112 [.ref 97, .int (nI k), .int v] I J R Q :=
  w_X12_fail ⟨fun _ => hQ _ ((FrW.rf.u ⟨rfl, by decide⟩).u ⟨rfl, by decide⟩) ⟨by rw [rd_k (by decide), rd_eq], by rw [rd_eq, hv], hk⟩, fun c => absurd h.le.1 c⟩
theorem px_amiss (h : Mr T e a I J) (hQ : ∀ I2, FrM I J I2 J → FtM (mis T e a) I2 → Q 0 0 I2 J R) : AM (d + 2) 213 112 [.ref 97] I J R Q := by
  refine w_X12_amiss ⟨fun c => px_fail (k := 2) h (by decide) h.s (fun I2 hF hf => hQ I2 hF ?_), fun c => px_fail (k := 1) h (by decide) h.s (fun I2 hF hf => hQ I2 hF ?_)⟩
  · unfold mis
    rw [if_neg (fun q => c ((h.k_is (n := 4) (by omega)).mpr q))]; exact hf
  · unfold mis
    rw [if_pos ((h.k_is (n := 4) (by omega)).mp c)]; exact hf
theorem px_mad (h : Mr T e a I J) (hQ : ∀ I2 J2, FrM I J I2 J2 → Mr T e (tB (tok T e a)) I2 J2 → Q 0 0 I2 J2 R) : AM (d + 2) 195 112 [.ref 97] I J R Q := by
  have hb := tB_le (T := T) h.ha
  refine px_madv h.he hb.2 h.2.2.2.2 h.1.1 h.b (fun I2 J2 hF hS => hQ I2 J2 (hF.up (WM.up (by decide)) (fun _ _ q => q)) ⟨hS, ?_, hb.2, h.he, h.2.2.2.2⟩)
  rw [hF.i (by decide)]; exact h.f
/-- must -/
theorem px_mustB {p : Nat × Nat} {x : Int32} (h : FtM p I) (hQ : Q 0 0 I J R) : AM (d + 3) 214 112 [.ref 97, .int x] I J R Q :=
  w_X12_must ⟨fun c => absurd c h.ne.2.1, fun _ => hQ⟩
theorem px_mustY (h : Mr T e a I J) (hQ : ∀ I2 J2, FrM I J I2 J2 → Mr T e (tB (tok T e a)) I2 J2 → Q 0 0 I2 J2 R) : AM (d + 3) 214 112 [.ref 97, .int 1] I J R Q :=
  w_X12_must ⟨fun _ => ⟨fun c => absurd c (by decide), fun _ => px_mad h hQ⟩, fun c => absurd h.le.1 c⟩
theorem px_mustN (h : Mr T e a I J) (hQ : ∀ I2, FrM I J I2 J → FtM (mis T e a) I2 → Q 0 0 I2 J R) : AM (d + 3) 214 112 [.ref 97, .int 0] I J R Q :=
  w_X12_must ⟨fun _ => ⟨fun _ => px_amiss h hQ, fun c => absurd rfl c⟩, fun c => absurd h.le.1 c⟩
/-- a number that stands and may -/
theorem px_mayBeB {p : Nat × Nat} {lo hi : Int32} (h : FtM p I) (hQ : Q 0 0 I J R) : AM (d + 3) 215 112 [.ref 97, .int lo, .int hi] I J R Q :=
  am_X12_mayBe (fun P hc => sg_X12_mayBe_0 hc _ _ _ _ _ ⟨fun _ => sg_X12_mayBe_19 hc _ _ _ _ _ ⟨fun _ => hQ, fun c => absurd c h.ne.1⟩, fun c => absurd c h.ne.1⟩)
theorem isIn_i {v lo hi : Int32} : ((lg_cmp (Int32.toInt64 v) (Int32.toInt64 lo) < 0) ↔ v < lo) ∧ (((0 : Int32) < lg_cmp (Int32.toInt64 v) (Int32.toInt64 hi)) ↔ ¬ v ≤ hi) := by
  rw [lg_cmp_lt, lg_cmp_gt, Int64.lt_iff_toInt_lt, Int64.lt_iff_toInt_lt, tl_i2l (x := v) rfl, tl_i2l (x := lo) rfl, tl_i2l (x := hi) rfl, Int32.lt_iff_toInt_lt, Int32.le_iff_toInt_le]
  omega
theorem px_isInI {v lo hi : Int32} (hY : lo ≤ v → v ≤ hi → Q 1 0 I J R) (hN : v < lo ∨ ¬ v ≤ hi → Q 0 0 I J R) : AM (d + 1) 178 112 [.long (Int32.toInt64 v), .long (Int32.toInt64 lo), .long (Int32.toInt64 hi)] I J R Q := by
  refine w_X12_isIn ?_
  rw [(isIn_i (hi := hi)).1, (isIn_i (lo := lo)).2]
  refine ⟨fun c => ⟨Or.inl rfl, hN (Or.inl c)⟩, fun c => ⟨fun c2 => ⟨Or.inl rfl, hN (Or.inr c2)⟩, fun c2 => ⟨Or.inr rfl, hY ?_ ?_⟩⟩⟩
  · rw [Int32.le_iff_toInt_le]; rw [Int32.lt_iff_toInt_lt] at c; omega
  · exact Decidable.not_not.mp c2
theorem px_mayBe {lo hi : Int32} (h : Mr T e a I J) (hE : ∀ p I2, tkN T e lo hi a = .error p → FrM I J I2 J → FtM p I2 → Q 0 0 I2 J R) (hK : ∀ v b, tkN T e lo hi a = .ok (v, b) → I 97 17 = v → lo ≤ v → v ≤ hi → b = tB (tok T e a) → Q 0 0 I J R) : AM (d + 3) 215 112 [.ref 97, .int lo, .int hi] I J R Q := by
  refine am_X12_mayBe (fun P hc => sg_X12_mayBe_0 hc _ _ _ _ _ ⟨fun c => absurd h.f c, fun _ => ⟨fun c => ?_, fun c => ?_⟩⟩)
  · have hk := (h.k_is (n := 2) (by omega)).mp c
    have hv := h.v (Or.inl hk)
    refine sg_X12_mayBe_19 hc _ _ _ _ _ ⟨fun c => absurd h.f c, fun _ => ?_⟩
    rw [hv]
    refine px_isInI (fun l1 l2 _ => ⟨fun _ => hK _ _ ?_ hv l1 l2 rfl, fun q => absurd q (by decide)⟩) (fun q _ => ⟨fun z => absurd rfl z, fun _ => px_fail (k := 4) h (by decide) h.s (fun I2 hF hf => hE _ I2 ?_ hF hf)⟩)
    · unfold tkN
      rw [if_pos hk, if_neg (fun z => by rw [Int32.lt_iff_toInt_lt] at z; rw [Int32.le_iff_toInt_le] at l1; omega), if_pos l2]
    · unfold tkN
      rw [if_pos hk]
      by_cases z : tV (tok T e a) < lo
      · rw [if_pos z]
      · rw [if_neg z, if_neg (q.resolve_left z)]
  · have hk : ¬ tK (tok T e a) = 2 := fun z => c ((h.k_is (n := 2) (by omega)).mpr z)
    refine px_amiss h (fun I2 hF hf => sg_X12_mayBe_19 hc _ _ _ _ _ ⟨fun _ => hE _ I2 ?_ hF hf, fun z => absurd z hf.ne.1⟩)
    unfold tkN
    rw [if_neg hk]
theorem px_countB {p : Nat × Nat} {lo hi : Int32} (h : FtM p I) (hQ : Q 0 0 I J R) : AM (d + 4) 216 112 [.ref 97, .int lo, .int hi] I J R Q :=
  w_X12_count (px_mayBeB h ⟨fun c => absurd c h.ne.2.1, fun _ => hQ⟩)
theorem px_count {lo hi : Int32} (h : Mr T e a I J) (hE : ∀ p I2, tkN T e lo hi a = .error p → FrM I J I2 J → FtM p I2 → Q 0 0 I2 J R) (hK : ∀ v b I2 J2, tkN T e lo hi a = .ok (v, b) → lo ≤ v → v ≤ hi → FrM I J I2 J2 → Mr T e b I2 J2 → Q v 0 I2 J2 R) : AM (d + 4) 216 112 [.ref 97, .int lo, .int hi] I J R Q := by
  refine w_X12_count (px_mayBe h (fun p I2 hp hF hf => ⟨fun c => absurd c hf.ne.2.1, fun _ => hE p I2 hp hF hf⟩) (fun v b hp hv l1 l2 hb => ⟨fun _ => ?_, fun c => absurd h.le.1 c⟩))
  rw [hv]
  refine px_mad h (fun I2 J2 hF h2 => hK v b I2 J2 hp l1 l2 hF ?_)
  rw [hb]; exact h2
theorem px_bwB {p : Nat × Nat} {x lo hi : Int32} (h : FtM p I) (hQ : Q 0 0 I J R) : AM (d + 5) 217 112 [.ref 97, .int x, .int lo, .int hi] I J R Q :=
  w_X12_behindWord (px_mustB h (px_countB h hQ))
/-- a word, then a number -/
theorem px_bw {i : Int32} {x lo hi : Int32} (hx : x = 1 ∧ tI (tok T e a) = i ∨ x = 0 ∧ ¬ tI (tok T e a) = i) (h : Mr T e a I J) (hE : ∀ p I2 J2, (rb (tkW T e i a) fun _ b => tkN T e lo hi b) = .error p → FrM I J I2 J2 → FtM p I2 → Q 0 0 I2 J2 R) (hK : ∀ v b I2 J2, (rb (tkW T e i a) fun _ b => tkN T e lo hi b) = .ok (v, b) → lo ≤ v → v ≤ hi → FrM I J I2 J2 → Mr T e b I2 J2 → Q v 0 I2 J2 R) : AM (d + 5) 217 112 [.ref 97, .int x, .int lo, .int hi] I J R Q := by
  refine w_X12_behindWord ?_
  rcases hx with ⟨rfl, hti⟩ | ⟨rfl, hti⟩
  · have e1 : (rb (tkW T e i a) fun _ b => tkN T e lo hi b) = tkN T e lo hi (tB (tok T e a)) := by
      unfold tkW
      rw [if_pos hti]; rfl
    rw [e1] at hE hK
    exact px_mustY h (fun I2 J2 hF h2 => px_count h2 (fun p I3 hp hF3 hf => hE p I3 J2 hp (hF.tr hF3) hf) (fun v b I3 J3 hp l1 l2 hF3 h3 => hK v b I3 J3 hp l1 l2 (hF.tr hF3) h3))
  · have e1 : (rb (tkW T e i a) fun _ b => tkN T e lo hi b) = .error (mis T e a) := by
      unfold tkW
      rw [if_neg hti]; rfl
    rw [e1] at hE
    exact px_mustN h (fun I2 hF hf => px_countB hf (hE _ I2 J rfl hF hf))
theorem px_perB {p : Nat × Nat} {x : Int32} (h : FtM p I) (hQ : Q 0 0 I J R) : AM (d + 3) 218 112 [.ref 97, .int x] I J R Q :=
  w_X12_perhaps ⟨fun _ => ⟨Or.inl rfl, hQ⟩, fun c => absurd h.ne.2.2 c⟩
theorem px_perN (h : Mr T e a I J) (hQ : Q 0 0 I J R) : AM (d + 3) 218 112 [.ref 97, .int 0] I J R Q :=
  w_X12_perhaps ⟨fun c => absurd c h.le.2, fun _ => ⟨fun c => absurd rfl c, fun _ => ⟨Or.inl rfl, hQ⟩⟩⟩
theorem px_perY (h : Mr T e a I J) (hQ : ∀ I2 J2, FrM I J I2 J2 → Mr T e (tB (tok T e a)) I2 J2 → Q 1 0 I2 J2 R) : AM (d + 3) 218 112 [.ref 97, .int 1] I J R Q :=
  w_X12_perhaps ⟨fun c => absurd c h.le.2, fun _ => ⟨fun _ => px_mad h (fun I2 J2 hF h2 => ⟨Or.inr rfl, hQ I2 J2 hF h2⟩), fun c => absurd c (by decide)⟩⟩
/-- a set's bit, both ways -/
theorem inS_of {s v : Int32} (hs : 0 ≤ s.toInt) (h1 : (1 : Int32) ≤ v) (h2 : v ≤ 30) : ((s >>> ((v - 1) &&& 31)) &&& 1 = 1) ↔ inS s v = true := by
  rw [le_i] at h1 h2
  have e1 : (1 : Int32).toInt = 1 := rfl
  have e30 : (30 : Int32).toInt = 30 := rfl
  have hd : (v - 1).toInt = v.toInt - 1 := ti_sub rfl e1 (by omega)
  unfold inS
  rw [Bool.not_eq_true', decide_eq_false_iff_not, isOf_iff hs (by omega), isIn_iff hs (by omega)]
  exact (Bool.not_eq_false _).symm.to_iff
theorem px_isOf {s v : Int32} (hs : 0 ≤ s.toInt) (h1 : (1 : Int32) ≤ v) (h2 : v ≤ 30) (hY : inS s v = true → Q 1 0 I J R) (hN : inS s v = false → Q 0 0 I J R) : AM (d + 1) 189 112 [.int s, .int (v - 1)] I J R Q := by
  refine w_X12_isOf ⟨fun c => ⟨Or.inl rfl, hN (bf_of (fun z => c ((inS_of hs h1 h2).mpr z)))⟩, fun c => ⟨Or.inr rfl, hY ((inS_of hs h1 h2).mp c)⟩⟩
theorem px_mslB {p : Nat × Nat} (h : FtM p I) (hQ : Q 0 0 I J R) : AM (d + 5) 219 112 [.ref 97] I J R Q :=
  am_X12_readSlices (fun P hc => sg_X12_readSlices_0 hc _ _ _ (sg_X12_readSlices_2 hc _ _ _ _ ⟨fun _ => hQ, fun c => absurd c h.ne.1⟩))
end MT
end PT6x4
section PT6x5
/-! ===== the reference takes slices ===== -/
section ML
variable {T : Nat → Int32} {e a d : Nat} {I : Im} {J : Jm} {R : Rm} {Q : Qt}
theorem rf_sl {Q : Nat → Qt} {P : Kt} (hc : Cl (AM (d + 4)) true false 0 (fun _ => 0) 1 112 kX12_readSlices Q P) {I0 : Im} {J0 : Jm} (r : Rs Int32) (hE : ∀ p x I2 J2, r = .error p → FrM I0 J0 I2 J2 → FtM p I2 → Q 112 x 0 I2 J2 R) (hK : ∀ s b I2 J2, r = .ok (s, b) → FrM I0 J0 I2 J2 → Mr T e b I2 J2 → Q 112 s 0 I2 J2 R) :
    ∀ (f a : Nat) (set : Int32) (I : Im) (J : Jm), e < a + f → r = tkL T e f set a → 0 ≤ set.toInt ∧ set.toInt < 1073741824 → FrM I0 J0 I J → Mr T e a I J → P 2 112 [(0, .ref 97), (1, .int set)] [] I J R := by
  have bad : ∀ p (v : Int32) (I : Im) (J : Jm), r = .error p → FrM I0 J0 I J → FtM p I → P 53 112 [(0, .ref 97), (1, .int v)] [] I J R := fun p v I J he hF hf =>
    sg_X12_readSlices_53 hc _ _ _ _ (px_countB hf ⟨fun _ => sg_X12_readSlices_2 hc _ _ _ _ ⟨fun _ => hE p _ I J he hF hf, fun c => absurd c hf.ne.1⟩, fun c => absurd c hf.ne.1⟩)
  intro f
  induction f with
  | zero => intro a set I J h _ _ _ hR; have := hR.ha; omega
  | succ f ih =>
    intro a set I J hf hv hs hF h
    refine sg_X12_readSlices_2 hc _ _ _ _ ⟨fun c => absurd h.f c, fun _ => ⟨fun c => ?_, fun c => ?_⟩⟩
    · have hk : ¬ tK (tok T e a) = 2 := fun q => c ((h.k_is (n := 2) (by omega)).mpr q)
      refine hK set a I J ?_ hF h
      rw [hv]; unfold tkL; rw [if_neg hk]
    · have hk : tK (tok T e a) = 2 := (h.k_is (n := 2) (by omega)).mp c
      have hv2 : tkL T e (f + 1) set a = rb (tkN T e 1 30 a) (fun v b => if inS set v = true then .error (5, tS (tok T e a)) else tkL T e f (set ||| biS v) b) := by
        conv => lhs; unfold tkL
        rw [if_pos hk]
      rw [hv2] at hv
      have up := up_tkN (T := T) (lo := 1) (hi := 30) h.ha
      refine px_mayBe h (fun p I2 hp hF2 hf2 => ⟨fun _ => bad p _ I2 J (by rw [hv, rb_e hp]) (hF.tr hF2) hf2, fun z => absurd z hf2.ne.1⟩) (fun v b hp e17 l1 l2 hb => ⟨fun z => absurd h.f z, fun _ => ?_⟩)
      rw [rb_k hp] at hv
      rw [hp] at up
      rw [e17]
      refine px_isOf hs.1 l1 l2 (fun hi _ => ⟨fun z => absurd z (by decide), fun _ => ?_⟩) (fun hi _ => ⟨fun _ => ?_, fun z => absurd rfl z⟩)
      · rw [if_pos hi] at hv
        exact px_fail (k := 5) h (by decide) h.s (fun I3 hF3 hf3 => bad _ _ I3 J hv (hF.tr hF3) hf3)
      · rw [if_neg (by rw [hi]; decide)] at hv
        refine sg_X12_readSlices_53 hc _ _ _ _ (px_count h (fun p I2 hp2 _ _ => by rw [hp] at hp2; cases hp2) (fun v2 b2 I2 J2 hp2 _ _ hF2 h2 => ?_))
        rw [hp] at hp2
        cases hp2
        refine ⟨fun z => absurd h2.f z, fun _ => ?_⟩
        exact ih b _ I2 J2 (by have := up.1; omega) hv (bi_in hs l1 l2) (hF.tr hF2) h2
theorem px_msl (h : Mr T e a I J) (hE : ∀ p x I2 J2, tkL T e 31 0 a = .error p → FrM I J I2 J2 → FtM p I2 → Q x 0 I2 J2 R) (hK : ∀ s b I2 J2, tkL T e 31 0 a = .ok (s, b) → FrM I J I2 J2 → Mr T e b I2 J2 → Q s 0 I2 J2 R) : AM (d + 5) 219 112 [.ref 97] I J R Q := by
  have hp : pcn 0 30 = 0 := by decide +kernel
  have z0 : 0 ≤ (0 : Int32).toInt ∧ (0 : Int32).toInt < 1073741824 := by decide
  exact am_X12_readSlices (fun P hc => sg_X12_readSlices_0 hc _ _ _ (rf_sl hc _ hE hK (e + 1) a 0 I J (by omega) (tkL_f 31 (e + 1) 0 a h.ha z0 (Or.inl (by omega)) (Or.inr (by omega))) z0 FrW.rf h))
end ML
end PT6x5
section PT6x6
/-! ===== the reference reads a bakery ===== -/
noncomputable abbrev msC : List Nat := [12, 13, 14, 15, 16, 17, 18, 24, 25, 26]
noncomputable abbrev WN : Nat → Nat → Prop := fun c k => (c = 97 ∧ k ∈ msC) ∨ (c = 102 ∧ 1296 ≤ k)
noncomputable abbrev VN : Nat → Nat → Prop := fun c k => (c = 97 ∧ k = 19) ∨ (c = 104 ∧ 24 ≤ k)
noncomputable abbrev FrN (I : Im) (J : Jm) (I2 : Im) (J2 : Jm) : Prop := FrW WN VN I J I2 J2
theorem FrW.nb {I I2 : Im} {J J2 : Jm} (h : FrM I J I2 J2) : FrN I J I2 J2 := h.up (fun _ _ q => Or.inl ⟨q.1, (show ∀ k, k ∈ msB → k ∈ msC by decide) _ q.2⟩) (fun _ _ q => Or.inl q)
/-- the new block holds what is read -/
noncomputable def BkM (B : BS) (I : Im) (J : Jm) : Prop := (∀ k, k < 324 → I 102 (1296 + k) = B.1 k) ∧ (∀ k, k < mnN B.1 → J 104 (24 + k) = B.2.1 k) ∧ I 97 24 = B.2.2.1 ∧ I 97 25 = B.2.2.2.1 ∧ I 97 26 = B.2.2.2.2
section MB
variable {T : Nat → Int32} {e a d : Nat} {I : Im} {J : Jm} {R : Rm} {Q : Qt} {B : BS}
theorem BkM.m {I2 : Im} {J2 : Jm} (h : BkM B I J) (hF : FrM I J I2 J2) : BkM B I2 J2 := by
  obtain ⟨h1, h2, h3, h4, h5⟩ := h
  refine ⟨fun k hk => ?_, fun k hk => ?_, ?_, ?_, ?_⟩
  · rw [hF.i (by intro q; exact absurd q.1 (by decide))]; exact h1 k hk
  · rw [hF.j (by intro q; exact absurd q.1 (by decide))]; exact h2 k hk
  · rw [hF.i (by decide)]; exact h3
  · rw [hF.i (by decide)]; exact h4
  · rw [hF.i (by decide)]; exact h5
/-- a number in the new block -/
theorem BkM.u {j : Nat} {v : Int32} {N : Nat → Int64} {x y z : Int32} {C : Nat → Int32} (h : BkM (C, N, x, y, z) I J) (hj : j < 324) (h0 : ¬ j = 0) : BkM (upd C j v, N, x, y, z) (uI I 102 (1296 + j) v) J := by
  obtain ⟨h1, h2, h3, h4, h5⟩ := h
  refine ⟨fun k hk => ?_, fun k hk => ?_, ?_, ?_, ?_⟩
  · by_cases q : k = j
    · subst q; rw [rd_eq]; exact upd_s.symm
    · rw [rd_k (by omega)]
      show I 102 (1296 + k) = upd C j v k
      rw [upd_i q]; exact h1 k hk
  · exact h2 k (by change k < mnN (upd C j v) at hk; rw [mnN_u h0] at hk; exact hk)
  · rw [rd_ne (by decide)]; exact h3
  · rw [rd_ne (by decide)]; exact h4
  · rw [rd_ne (by decide)]; exact h5
theorem Mr.w_ {c k : Nat} {v : Int32} (h : Mr T e a I J) (hc : ¬ c = 97 ∨ (k = 24 ∨ k = 25 ∨ k = 26)) (hc4 : ¬ c = 101) : Mr T e a (uI I c k v) J := h.o (fun j hj => by
  by_cases q : c = 97
  · subst q; exact rd_k (by omega)
  · exact rd_ne (fun z => q z.symm)) (uI_ne (fun q => hc4 q.symm)) rfl
theorem FtM.w_ {p : Nat × Nat} {c k : Nat} {v : Int32} (h : FtM p I) (hc : ¬ c = 97 ∨ (k = 24 ∨ k = 25 ∨ k = 26)) : FtM p (uI I c k v) := by
  have e1 : ∀ j, j = 12 ∨ j = 13 → uI I c k v 97 j = I 97 j := fun j hj => by
    by_cases q : c = 97
    · subst q; exact rd_k (by omega)
    · exact rd_ne (fun z => q z.symm)
  unfold FtM at h ⊢
  rw [e1 12 (by omega), e1 13 (by omega)]
  exact h
theorem px_mrO (h : Mr T e a I J) (hB : BkM B I J) (hE : ∀ p I2 J2, qrO T e B a = .error p → FrN I J I2 J2 → FtM p I2 → Q 0 0 I2 J2 R) (hK : ∀ B2 b I2 J2, qrO T e B a = .ok (B2, b) → FrN I J I2 J2 → Mr T e b I2 J2 → BkM B2 I2 J2 → Q 0 0 I2 J2 R) : AM (d + 6) 228 112 [.ref 97] I J R Q := by
  refine am_X12_readOdds (fun P hc => sg_X12_readOdds_0 hc _ _ _ ?_)
  rw [hB.2.2.1]
  refine ⟨fun c => ?_, fun c => px_fail (k := 5) h (by decide) h.s (fun I2 hF hf => ?_)⟩
  · have hv : qrO T e B a = rb (tkN T e 0 16 (tB (tok T e a))) fun v b => .ok ((upd B.1 1 v, B.2.1, 1, B.2.2.2.1, B.2.2.2.2), b) := by
      unfold qrO; rw [if_pos c]
    refine sg_X12_readOdds_16 hc _ _ _ ⟨Or.inr rfl, ?_⟩
    have hFw : FrN I J (uI I 97 24 1) J := FrW.rf.u (Or.inl ⟨rfl, by decide⟩)
    have hBw : BkM (B.1, B.2.1, 1, B.2.2.2.1, B.2.2.2.2) (uI I 97 24 1) J := ⟨fun k hk => by rw [rd_ne (by decide)]; exact hB.1 k hk, hB.2.1, rd_eq, by rw [rd_k (by decide)]; exact hB.2.2.2.1, by rw [rd_k (by decide)]; exact hB.2.2.2.2⟩
    refine px_mustY (h.w_ (Or.inr (Or.inl rfl)) (by decide)) (fun I2 J2 hF2 h2 => px_count h2 (fun p I3 hp hF3 hf => ⟨fun _ => hE p I3 J2 (by rw [hv, rb_e hp]) ((hFw.tr hF2.nb).tr hF3.nb) hf, fun q => absurd q hf.ne.1⟩) (fun v b I3 J3 hp l1 l2 hF3 h3 => ⟨fun q => absurd h3.f q, fun _ => ⟨vp_of (show (1297 : Int32).toInt = 1297 from rfl) (by omega) (by omega), ?_⟩⟩))
    exact hK _ b _ J3 (by rw [hv, rb_k hp]) (((hFw.tr hF2.nb).tr hF3.nb).u (Or.inr ⟨rfl, by decide⟩)) (h3.w_ (Or.inl (by decide)) (by decide)) (((hBw.m hF2).m hF3).u (j := 1) (by decide) (by decide))
  · refine sg_X12_readOdds_16 hc _ _ _ ⟨Or.inr rfl, ?_⟩
    have hf2 : FtM (5, tS (tok T e a)) (uI I2 97 24 1) := hf.w_ (Or.inr (Or.inl rfl))
    refine px_mustB hf2 (px_countB hf2 ⟨fun _ => hE _ _ J (by unfold qrO; rw [if_neg c]) (hF.nb.u (Or.inl ⟨rfl, by decide⟩)) hf2, fun q => absurd q hf2.ne.1⟩)
theorem px_mrK (h : Mr T e a I J) (hB : BkM B I J) (hE : ∀ p I2 J2, qrK T e B a = .error p → FrN I J I2 J2 → FtM p I2 → Q 0 0 I2 J2 R) (hK : ∀ B2 b I2 J2, qrK T e B a = .ok (B2, b) → FrN I J I2 J2 → Mr T e b I2 J2 → BkM B2 I2 J2 → Q 0 0 I2 J2 R) : AM (d + 6) 229 112 [.ref 97] I J R Q := by
  refine am_X12_readKnown (fun P hc => sg_X12_readKnown_0 hc _ _ _ ?_)
  rw [hB.2.2.2.1]
  refine ⟨fun c => ?_, fun c => px_fail (k := 5) h (by decide) h.s (fun I2 hF hf => ?_)⟩
  · have hv : qrK T e B a = rb (tkL T e 31 0 (tB (tok T e a))) fun s b => .ok ((upd B.1 3 s, B.2.1, B.2.2.1, 1, B.2.2.2.2), b) := by
      unfold qrK; rw [if_pos c]
    refine sg_X12_readKnown_16 hc _ _ _ ⟨Or.inr rfl, ?_⟩
    have hFw : FrN I J (uI I 97 25 1) J := FrW.rf.u (Or.inl ⟨rfl, by decide⟩)
    have hBw : BkM (B.1, B.2.1, B.2.2.1, 1, B.2.2.2.2) (uI I 97 25 1) J := ⟨fun k hk => by rw [rd_ne (by decide)]; exact hB.1 k hk, hB.2.1, by rw [rd_k (by decide)]; exact hB.2.2.1, rd_eq, by rw [rd_k (by decide)]; exact hB.2.2.2.2⟩
    refine px_mustY (h.w_ (Or.inr (Or.inr (Or.inl rfl))) (by decide)) (fun I2 J2 hF2 h2 => px_msl h2 (fun p x I3 J3 hp hF3 hf => ⟨fun _ => hE p I3 J3 (by rw [hv, rb_e hp]) ((hFw.tr hF2.nb).tr hF3.nb) hf, fun q => absurd q hf.ne.1⟩) (fun v b I3 J3 hp hF3 h3 => ⟨fun q => absurd h3.f q, fun _ => ⟨vp_of (show (1299 : Int32).toInt = 1299 from rfl) (by omega) (by omega), ?_⟩⟩))
    exact hK _ b _ J3 (by rw [hv, rb_k hp]) (((hFw.tr hF2.nb).tr hF3.nb).u (Or.inr ⟨rfl, by decide⟩)) (h3.w_ (Or.inl (by decide)) (by decide)) (((hBw.m hF2).m hF3).u (j := 3) (by decide) (by decide))
  · refine sg_X12_readKnown_16 hc _ _ _ ⟨Or.inr rfl, ?_⟩
    have hf2 : FtM (5, tS (tok T e a)) (uI I2 97 25 1) := hf.w_ (Or.inr (Or.inr (Or.inl rfl)))
    refine px_mustB hf2 (px_mslB hf2 ⟨fun _ => hE _ _ J (by unfold qrK; rw [if_neg c]) (hF.nb.u (Or.inl ⟨rfl, by decide⟩)) hf2, fun q => absurd q hf2.ne.1⟩)
/-- words in a faulty state: whatever they say -/
theorem px_wAny {w : Int64} (hQ : ∀ x : Int32, x = 0 ∨ x = 1 → Q x 0 I J R) : AM (d + 1) 198 112 [.ref 97, .long w] I J R Q :=
  w_X12_isWord ⟨fun _ => ⟨Or.inl rfl, hQ 0 (Or.inl rfl)⟩, fun _ => ⟨fun _ => ⟨Or.inl rfl, hQ 0 (Or.inl rfl)⟩, fun _ => ⟨Or.inr rfl, hQ 1 (Or.inr rfl)⟩⟩⟩
theorem px_tiAny (hQ : ∀ x : Int32, x = 0 ∨ x = 1 → Q x 0 I J R) : AM (d + 2) 201 112 [.ref 97] I J R Q := w_X12_isTimes (px_spell (px_wAny (fun x hx _ => ⟨hx, hQ x hx⟩)))
theorem px_duAny (hQ : ∀ x : Int32, x = 0 ∨ x = 1 → Q x 0 I J R) : AM (d + 2) 203 112 [.ref 97] I J R Q := w_X12_isDue (px_spell (px_wAny (fun x hx _ => ⟨hx, hQ x hx⟩)))
theorem px_byAny (hQ : ∀ x : Int32, x = 0 ∨ x = 1 → Q x 0 I J R) : AM (d + 2) 204 112 [.ref 97] I J R Q := w_X12_isBy (px_spell (px_wAny (fun x hx _ => ⟨hx, hQ x hx⟩)))
theorem px_haAny (hQ : ∀ x : Int32, x = 0 ∨ x = 1 → Q x 0 I J R) : AM (d + 2) 205 112 [.ref 97] I J R Q := w_X12_isHas (px_spell (px_wAny (fun x hx _ => ⟨hx, hQ x hx⟩)))
theorem px_mrS (hBO : BOk B) (h : Mr T e a I J) (hB : BkM B I J) (hE : ∀ p I2 J2, qrS T e B a = .error p → FrN I J I2 J2 → FtM p I2 → Q 0 0 I2 J2 R) (hK : ∀ B2 b I2 J2, qrS T e B a = .ok (B2, b) → FrN I J I2 J2 → Mr T e b I2 J2 → BkM B2 I2 J2 → Q 0 0 I2 J2 R) : AM (d + 6) 230 112 [.ref 97] I J R Q := by
  refine am_X12_readStore (fun P hc => ?_)
  have bad : ∀ p I2 J2, qrS T e B a = .error p → FrN I J I2 J2 → FtM p I2 → P 44 112 [(0, .ref 97)] [] I2 J2 R := fun p I2 J2 he hF hf =>
    sg_X12_readStore_44 hc _ _ _ (px_countB hf (px_tiAny (fun x hx _ => px_perB hf (fun _ => ⟨fun _ => ⟨fun q => absurd q hf.ne.2.1, fun _ => hE p I2 J2 he hF hf⟩, fun q => absurd rfl q⟩))))
  refine sg_X12_readStore_0 hc _ _ _ (px_mustY h (fun I2 J2 hF2 h2 => px_mayBe h2 (fun p I3 hp hF3 hf => ⟨fun _ => bad p I3 J2 (by unfold qrS; rw [rb_e hp]) (hF2.nb.tr hF3.nb) hf, fun q => absurd q hf.ne.1⟩) (fun v b hp e17 l1 l2 hb => ⟨fun q => absurd h2.f q, fun _ => ?_⟩)))
  have hv : qrS T e B a = if inS B.2.2.2.2 v = true then .error (5, tS (tok T e (tB (tok T e a)))) else rb (if tI (tok T e b) = 3 then tkN T e 0 99 (tB (tok T e b)) else .ok (1, b)) fun n b => .ok ((upd B.1 (3 + v.toNatClampNeg) n, B.2.1, B.2.2.1, B.2.2.2.1, B.2.2.2.2 ||| biS v), b) := by
    unfold qrS; rw [rb_k hp]
  have hB2 := hB.m hF2
  obtain ⟨t1, t2, t3, t4⟩ := tn_sl l1 l2
  rw [hB2.2.2.2.2, e17]
  refine px_isOf hBO.2.1 l1 l2 (fun hi _ => ⟨fun q => absurd q (by decide), fun _ => px_fail (k := 5) h2 (by decide) h2.s (fun I3 hF3 hf => bad _ I3 J2 (by rw [hv, if_pos hi]) (hF2.nb.tr hF3.nb) hf)⟩) (fun hi _ => ⟨fun _ => ?_, fun q => absurd rfl q⟩)
  rw [if_neg (by rw [hi]; decide)] at hv
  refine sg_X12_readStore_44 hc _ _ _ (px_count h2 (fun p I3 hp3 _ _ => by rw [hp] at hp3; cases hp3) (fun v3 b3 I3 J3 hp3 _ _ hF3 h3 => ?_))
  rw [hp] at hp3
  cases hp3
  have hB3 := hB2.m hF3
  have hFa := hF2.nb.tr hF3.nb
  -- the writes
  have fin : ∀ (n : Int32) (b4 : Nat) (I4 : Im) (J4 : Jm), qrS T e B a = .ok ((upd B.1 (3 + v.toNatClampNeg) n, B.2.1, B.2.2.1, B.2.2.2.1, B.2.2.2.2 ||| biS v), b4) → FrN I J I4 J4 → Mr T e b4 I4 J4 → BkM B I4 J4 → (((I4 97 12) ≤ (0 : Int32) → (vp_in ((1300 + v) - 1) 1620 ∧ Q 0 0 (uI (uI I4 97 26 ((I4 97 26) ||| (1 <<< ((v - 1) &&& 31)))) 102 (Int32.toNatClampNeg ((1300 + v) - 1)) n) J4 R)) ∧ (¬ (I4 97 12) ≤ (0 : Int32) → Q 0 0 I4 J4 R)) := fun n b4 I4 J4 hv4 hF4 h4 hB4 => by
    have e9 : ((1300 + v) - 1 : Int32) = nI (1296 + (3 + v.toNatClampNeg)) := Int32.toInt_inj.mp (by
      have a1 := ti_add (x := 1300) (y := v) (show (1300 : Int32).toInt = 1300 from rfl) t4 (by omega)
      rw [ti_sub a1 (show (1 : Int32).toInt = 1 from rfl) (by omega), nI_toInt (by omega)]; omega)
    rw [e9, tn_nI (by omega), hB4.2.2.2.2]
    refine ⟨fun _ => ⟨vp_of (nI_toInt (by omega)) (by omega) (by omega), ?_⟩, fun q => absurd h4.le.1 q⟩
    have hB5 : BkM (B.1, B.2.1, B.2.2.1, B.2.2.2.1, B.2.2.2.2 ||| biS v) (uI I4 97 26 (B.2.2.2.2 ||| biS v)) J4 := ⟨fun k hk => by rw [rd_ne (by decide)]; exact hB4.1 k hk, hB4.2.1, by rw [rd_k (by decide)]; exact hB4.2.2.1, by rw [rd_k (by decide)]; exact hB4.2.2.2.1, rd_eq⟩
    exact hK _ b4 _ J4 hv4 ((hF4.u (Or.inl ⟨rfl, by decide⟩)).u (Or.inr ⟨rfl, by omega⟩)) ((h4.w_ (Or.inr (Or.inr (Or.inr rfl))) (by decide)).w_ (Or.inl (by decide)) (by decide)) (hB5.u (by omega) (by omega))
  refine px_isTimes h3 (fun ht _ => ?_) (fun ht _ => ?_)
  · rw [if_pos ht] at hv
    refine px_perY h3 (fun I4 J4 hF4 h4 _ => ⟨fun q => absurd q (by decide), fun _ => px_count h4 (fun p I5 hp5 hF5 hf => ⟨fun q => absurd q hf.ne.2.1, fun _ => hE p I5 J4 (by rw [hv, rb_e hp5]) ((hFa.tr hF4.nb).tr hF5.nb) hf⟩) (fun n b5 I5 J5 hp5 _ _ hF5 h5 => fin n b5 I5 J5 (by rw [hv, rb_k hp5]) ((hFa.tr hF4.nb).tr hF5.nb) h5 ((hB3.m hF4).m hF5))⟩)
  · rw [if_neg ht] at hv
    exact px_perN h3 (fun _ => ⟨fun _ => fin 1 b I3 J3 hv hFa h3 hB3, fun q => absurd rfl q⟩)
end MB
end PT6x6
section PT6x7
/-! ===== the reference reads a bakery: men, the whole ===== -/
section MG
variable {T : Nat → Int32} {e a d : Nat} {I : Im} {J : Jm} {R : Rm} {Q : Qt} {B : BS}
/-- the first man of a name, in the block b -/
theorem px_mnamed {N : Nat → Int64} {w : Int64} {m b : Nat} {v : Int32} (h324 : 324 * v = nI (324 * b)) (h6 : 6 * v = nI (6 * b)) (hb : b < 5) (hm : m ≤ 6) (hC : I 102 (324 * b) = nI m) (hN : ∀ k, k < m → J 104 (6 * b + k) = N k) (hw : J 97 19 = w) (hQ : Q (nmG N w m 0) 0 I J R) : AM (d + 1) 226 112 [.ref 97, .int v] I J R Q := by
  refine am_X12_named (fun P hc => sg_X12_named_0 hc _ _ _ _ ?_)
  have L : ∀ f k : Nat, k + f = m → nmG N w m 0 = nmG N w f k → P 2 112 [(0, .ref 97), (1, .int v), (2, .int (nI k))] [] I J R := by
    intro f
    induction f with
    | zero =>
      intro k hk hv
      refine sg_X12_named_2 hc _ _ _ _ _ ?_
      rw [h324, tn_nI (by omega), hC]
      refine ⟨vp_of (nI_toInt (by omega)) (by omega) (by omega), fun _ => ?_, fun c => absurd ?_ c⟩
      · rw [hv] at hQ; exact hQ
      · rw [show k = m by omega]; exact (nle_nI (by omega) (by omega)).mpr (Nat.le_refl _)
    | succ f ih =>
      intro k hk hv
      refine sg_X12_named_2 hc _ _ _ _ _ ?_
      rw [h324, tn_nI (by omega), hC, h6, nI_add, tn_nI (by omega), hN k (by omega), hw, nI_k1, lg_cmp_eq]
      refine ⟨vp_of (nI_toInt (by omega)) (by omega) (by omega), fun c => absurd ((nle_nI (by omega) (by omega)).mp c) (by omega), fun _ => ⟨vp_nI (by omega) (by omega), ?_⟩⟩
      have e1 : nmG N w (f + 1) k = if N k = w then nI k else nmG N w f (k + 1) := rfl
      rw [e1] at hv
      refine ⟨fun c => ?_, fun c => ?_⟩
      · rw [if_neg c] at hv
        exact ih (k + 1) (by omega) hv
      · rw [if_pos c] at hv
        rw [hv] at hQ; exact hQ
  exact L m 0 (by omega) rfl
theorem nmG_in {N : Nat → Int64} {w : Int64} : ∀ f k, nmG N w f k = -1 ∨ ∃ j, k ≤ j ∧ j < k + f ∧ nmG N w f k = nI j := by
  intro f
  induction f with
  | zero => intro k; exact Or.inl rfl
  | succ f ih =>
    intro k
    unfold nmG
    by_cases q : N k = w
    · rw [if_pos q]; exact Or.inr ⟨k, by omega, by omega, rfl⟩
    · rw [if_neg q]
      rcases ih (k + 1) with h | ⟨j, h1, h2, h3⟩
      · exact Or.inl h
      · exact Or.inr ⟨j, by omega, by omega, h3⟩
theorem px_dueX (h : Mr T e a I J) (hQ : ∀ x : Int32, (x = 1 ∧ tI (tok T e a) = 5 ∨ x = 0 ∧ ¬ tI (tok T e a) = 5) → Q x 0 I J R) : AM (d + 2) 203 112 [.ref 97] I J R Q := px_isDue h (fun q => hQ 1 (Or.inl ⟨rfl, q⟩)) (fun q => hQ 0 (Or.inr ⟨rfl, q⟩))
theorem px_byX (h : Mr T e a I J) (hQ : ∀ x : Int32, (x = 1 ∧ tI (tok T e a) = 6 ∨ x = 0 ∧ ¬ tI (tok T e a) = 6) → Q x 0 I J R) : AM (d + 2) 204 112 [.ref 97] I J R Q := px_isBy h (fun q => hQ 1 (Or.inl ⟨rfl, q⟩)) (fun q => hQ 0 (Or.inr ⟨rfl, q⟩))
theorem px_mrM (hBO : BOk B) (h : Mr T e a I J) (hB : BkM B I J) (hE : ∀ p I2 J2, qrM T e B a = .error p → FrN I J I2 J2 → FtM p I2 → Q 0 0 I2 J2 R) (hK : ∀ B2 b I2 J2, qrM T e B a = .ok (B2, b) → FrN I J I2 J2 → Mr T e b I2 J2 → BkM B2 I2 J2 → Q 0 0 I2 J2 R) : AM (d + 6) 231 112 [.ref 97] I J R Q := by
  have hm := hBO.1.m
  have e0 : I 102 1296 = nI (mnN B.1) := (hB.1 0 (by omega)).trans hm.2
  refine am_X12_readMan (fun P hc => ?_)
  have b92 : ∀ p v I2 J2, qrM T e B a = .error p → FrN I J I2 J2 → FtM p I2 → P 92 112 [(0, .ref 97), (1, .int v)] [] I2 J2 R := fun p v I2 J2 he hF hf =>
    sg_X12_readMan_92 hc _ _ _ _ (px_mustB hf (px_duAny (fun x hx _ => px_bwB hf (px_byAny (fun x2 hx2 _ => px_bwB hf (px_haAny (fun x3 hx3 _ => px_perB hf (fun _ => ⟨fun _ => ⟨fun q => absurd q hf.ne.2.1, fun _ => hE p I2 J2 he hF hf⟩, fun q => absurd rfl q⟩))))))))
  have b72 : ∀ p v I2 J2, qrM T e B a = .error p → FrN I J I2 J2 → FtM p I2 → P 72 112 [(0, .ref 97), (1, .int v)] [] I2 J2 R := fun p v I2 J2 he hF hf => sg_X12_readMan_72 hc _ _ _ _ ⟨fun _ => b92 p v I2 J2 he hF hf, fun q => absurd q hf.ne.1⟩
  have b48 : ∀ p v I2 J2, qrM T e B a = .error p → FrN I J I2 J2 → FtM p I2 → P 48 112 [(0, .ref 97), (1, .int v)] [] I2 J2 R := fun p v I2 J2 he hF hf => sg_X12_readMan_48 hc _ _ _ _ ⟨fun _ => b72 p v I2 J2 he hF hf, fun q => absurd q hf.ne.1⟩
  have b25 : ∀ p v I2 J2, qrM T e B a = .error p → FrN I J I2 J2 → FtM p I2 → P 25 112 [(0, .ref 97), (1, .int v)] [] I2 J2 R := fun p v I2 J2 he hF hf => sg_X12_readMan_25 hc _ _ _ _ (px_mustB hf ⟨fun _ => b48 p v I2 J2 he hF hf, fun q => absurd q hf.ne.1⟩)
  refine sg_X12_readMan_0 hc _ _ _ ?_
  rw [show Int32.toNatClampNeg 1296 = 1296 from rfl, e0]
  refine ⟨vp_of (show (1296 : Int32).toInt = 1296 from rfl) (by omega) (by omega), fun c => ?_, fun c => px_fail (k := 6) h (by decide) h.s (fun I2 hF hf => b25 _ _ I2 J ?_ hF.nb hf)⟩
  · have hm5 : mnN B.1 ≤ 5 := by
      rcases Nat.lt_or_ge (mnN B.1) 6 with z | z
      · omega
      · exact absurd (by rw [show mnN B.1 = 6 by omega]; rfl) c
    have hv : qrM T e B a = rb (tkM T e (tB (tok T e a))) fun w b => if nmG B.2.1 w (mnN B.1) 0 = -1 then
        rb (rb (tkW T e 5 b) fun _ b => tkN T e 1 99 b) fun p b => rb (rb (tkW T e 6 b) fun _ b => tkN T e 1 30 b) fun q b =>
        rb (if tI (tok T e b) = 7 then tkL T e 31 0 (tB (tok T e b)) else .ok (0, b)) fun h b =>
        .ok ((upd (upd (upd (upd B.1 (34 + mnN B.1) p) (40 + mnN B.1) q) (46 + mnN B.1) h) 0 (B.1 0 + 1), vp_updL B.2.1 (mnN B.1) w, B.2.2), b)
      else .error (3, tS (tok T e (tB (tok T e a)))) := by
      unfold qrM; rw [if_neg (by rw [hm.2]; exact c)]
    refine sg_X12_readMan_25 hc _ _ _ _ (px_mustY h (fun I2 J2 hF2 h2 => ⟨fun q => absurd h2.f q, fun _ => ?_⟩))
    have hB2 := hB.m hF2
    refine px_isName h2 (fun n1 n2 _ => ⟨fun _ => ?_, fun q => absurd q (by decide)⟩) (fun hn _ => ⟨fun q => absurd rfl q, fun _ => px_amiss h2 (fun I3 hF3 hf => b48 _ _ I3 J2 ?_ (hF2.nb.tr hF3.nb) hf)⟩)
    · have hp : tkM T e (tB (tok T e a)) = .ok (tW (tok T e (tB (tok T e a))), tB (tok T e (tB (tok T e a)))) := by
        unfold tkM; rw [if_pos n1, if_neg n2]
      rw [rb_k hp] at hv
      have hk := tI_k (t := tok T e (tB (tok T e a))) (by rw [n1]; decide)
      have hw : J2 97 19 = tW (tok T e (tB (tok T e a))) := by rw [h2.w hk, if_neg n2]
      have e02 : I2 102 (324 * 4) = nI (mnN B.1) := (hB2.1 0 (by omega)).trans hm.2
      refine sg_X12_readMan_48 hc _ _ _ _ ⟨fun q => absurd h2.f q, fun _ => px_mnamed (b := 4) (m := mnN B.1) (by decide) (by decide) (by decide) hm.1 e02 hB2.2.1 hw ⟨fun c3 => ?_, fun c3 => ?_⟩⟩
      · have hnm : nmG B.2.1 (tW (tok T e (tB (tok T e a)))) (mnN B.1) 0 = -1 := by
          rcases nmG_in (N := B.2.1) (w := tW (tok T e (tB (tok T e a)))) (mnN B.1) 0 with z | ⟨j, _, hj, z⟩
          · exact z
          · rw [z] at c3; exact absurd c3 (nI_pos (by omega))
        rw [if_pos hnm] at hv
        refine sg_X12_readMan_72 hc _ _ _ _ ⟨fun q => absurd h2.f q, fun _ => ?_⟩
        have e24 : (24 + nI (mnN B.1) : Int32) = nI (24 + mnN B.1) := nI_add 24 _
        rw [e24, tn_nI (by omega), hw]
        refine ⟨vp_nI (by omega) (by omega), ?_⟩
        have hFw : FrN I J I2 (uJ J2 104 (24 + mnN B.1) (tW (tok T e (tB (tok T e a))))) := hF2.nb.uj (Or.inr ⟨rfl, by omega⟩)
        have h3 : Mr T e (tB (tok T e a)) I2 (uJ J2 104 (24 + mnN B.1) (tW (tok T e (tB (tok T e a))))) := h2.o (fun _ _ => rfl) rfl (uJ_ne (by decide))
        -- the names, with the new one
        have hB3 : ∀ I4 J4, FrM I2 (uJ J2 104 (24 + mnN B.1) (tW (tok T e (tB (tok T e a))))) I4 J4 → (∀ k, k < 324 → I4 102 (1296 + k) = B.1 k) ∧ (∀ k, k < mnN B.1 + 1 → J4 104 (24 + k) = vp_updL B.2.1 (mnN B.1) (tW (tok T e (tB (tok T e a)))) k) ∧ I4 97 24 = B.2.2.1 ∧ I4 97 25 = B.2.2.2.1 ∧ I4 97 26 = B.2.2.2.2 := fun I4 J4 hF4 => by
          refine ⟨fun k hk => ?_, fun k hk => ?_, ?_, ?_, ?_⟩
          · rw [hF4.i (by intro q; exact absurd q.1 (by decide))]; exact hB2.1 k hk
          · rw [hF4.j (by intro q; exact absurd q.1 (by decide))]
            by_cases z : k = mnN B.1
            · subst z; rw [rj_eq]; simp [vp_updL]
            · rw [rj_k (by omega)]; simp [vp_updL, z]; exact hB2.2.1 k (by omega)
          · rw [hF4.i (by decide)]; exact hB2.2.2.1
          · rw [hF4.i (by decide)]; exact hB2.2.2.2.1
          · rw [hF4.i (by decide)]; exact hB2.2.2.2.2
        refine sg_X12_readMan_92 hc _ _ _ _ (px_mustY h3 (fun I4 J4 hF4 h4 => ?_))
        -- the tail, from the first word on
        have fin : ∀ (p q s : Int32) (b : Nat) (I7 : Im) (J7 : Jm), qrM T e B a = .ok ((upd (upd (upd (upd B.1 (34 + mnN B.1) p) (40 + mnN B.1) q) (46 + mnN B.1) s) 0 (B.1 0 + 1), vp_updL B.2.1 (mnN B.1) (tW (tok T e (tB (tok T e a)))), B.2.2), b) → FrM I2 (uJ J2 104 (24 + mnN B.1) (tW (tok T e (tB (tok T e a))))) I7 J7 → Mr T e b I7 J7 → (((I7 97 12) ≤ (0 : Int32) → (vp_in (1330 + nI (mnN B.1)) 1620 ∧ (vp_in (1336 + nI (mnN B.1)) 1620 ∧ (vp_in (1342 + nI (mnN B.1)) 1620 ∧ (vp_in 1296 1620 ∧ (vp_in 1296 1620 ∧ Q 0 0 (uI (uI (uI (uI I7 102 (Int32.toNatClampNeg (1330 + nI (mnN B.1))) p) 102 (Int32.toNatClampNeg (1336 + nI (mnN B.1))) q) 102 (Int32.toNatClampNeg (1342 + nI (mnN B.1))) s) 102 (Int32.toNatClampNeg 1296) (((uI (uI (uI I7 102 (Int32.toNatClampNeg (1330 + nI (mnN B.1))) p) 102 (Int32.toNatClampNeg (1336 + nI (mnN B.1))) q) 102 (Int32.toNatClampNeg (1342 + nI (mnN B.1))) s) 102 (Int32.toNatClampNeg 1296)) + 1)) J7 R)))))) ∧ (¬ (I7 97 12) ≤ (0 : Int32) → Q 0 0 I7 J7 R)) := fun p q s b I7 J7 hv7 hF7 h7 => by
          have f1 : (1330 + nI (mnN B.1) : Int32) = nI (1296 + (34 + mnN B.1)) := (nI_add 1330 _).trans (by rw [show 1330 + mnN B.1 = 1296 + (34 + mnN B.1) by omega])
          have f2 : (1336 + nI (mnN B.1) : Int32) = nI (1296 + (40 + mnN B.1)) := (nI_add 1336 _).trans (by rw [show 1336 + mnN B.1 = 1296 + (40 + mnN B.1) by omega])
          have f3 : (1342 + nI (mnN B.1) : Int32) = nI (1296 + (46 + mnN B.1)) := (nI_add 1342 _).trans (by rw [show 1342 + mnN B.1 = 1296 + (46 + mnN B.1) by omega])
          have hv1296 : vp_in 1296 1620 := vp_of (show (1296 : Int32).toInt = 1296 from rfl) (by omega) (by omega)
          rw [f1, f2, f3, tn_nI (by omega), tn_nI (by omega), tn_nI (by omega), show Int32.toNatClampNeg 1296 = 1296 from rfl]
          refine ⟨fun _ => ⟨vp_of (nI_toInt (by omega)) (by omega) (by omega), vp_of (nI_toInt (by omega)) (by omega) (by omega), vp_of (nI_toInt (by omega)) (by omega) (by omega), hv1296, hv1296, ?_⟩, fun z => absurd h7.le.1 z⟩
          obtain ⟨g1, g2, g3, g4, g5⟩ := hB3 I7 J7 hF7
          have e7 : uI (uI (uI I7 102 (1296 + (34 + mnN B.1)) p) 102 (1296 + (40 + mnN B.1)) q) 102 (1296 + (46 + mnN B.1)) s 102 1296 = B.1 0 := by
            rw [rd_k (by omega), rd_k (by omega), rd_k (by omega)]; exact g1 0 (by omega)
          rw [e7]
          have hC2 : mnN (upd (upd (upd (upd B.1 (34 + mnN B.1) p) (40 + mnN B.1) q) (46 + mnN B.1) s) 0 (B.1 0 + 1)) = mnN B.1 + 1 := mnN_of (by omega) (by rw [upd_s, hm.2, nI_k1])
          refine hK _ b _ J7 hv7 (((((hFw.tr hF7.nb).u (Or.inr ⟨rfl, by omega⟩)).u (Or.inr ⟨rfl, by omega⟩)).u (Or.inr ⟨rfl, by omega⟩)).u (Or.inr ⟨rfl, by omega⟩)) ((((h7.w_ (Or.inl (by decide)) (by decide)).w_ (Or.inl (by decide)) (by decide)).w_ (Or.inl (by decide)) (by decide)).w_ (Or.inl (by decide)) (by decide)) ⟨fun k hk => ?_, fun k hk => ?_, ?_, ?_, ?_⟩
          · show _ = upd (upd (upd (upd B.1 (34 + mnN B.1) p) (40 + mnN B.1) q) (46 + mnN B.1) s) 0 (B.1 0 + 1) k
            by_cases z0 : k = 0
            · subst z0; rw [rd_eq, upd_s]
            · rw [rd_k (by omega), upd_i z0]
              by_cases z1 : k = 46 + mnN B.1
              · subst z1; rw [rd_eq, upd_s]
              · rw [rd_k (by omega), upd_i z1]
                by_cases z2 : k = 40 + mnN B.1
                · subst z2; rw [rd_eq, upd_s]
                · rw [rd_k (by omega), upd_i z2]
                  by_cases z3 : k = 34 + mnN B.1
                  · subst z3; rw [rd_eq, upd_s]
                  · rw [rd_k (by omega), upd_i z3]; exact g1 k hk
          · change k < mnN (upd (upd (upd (upd B.1 (34 + mnN B.1) p) (40 + mnN B.1) q) (46 + mnN B.1) s) 0 (B.1 0 + 1)) at hk
            rw [hC2] at hk
            exact g2 k hk
          · rw [rd_ne (by decide), rd_ne (by decide), rd_ne (by decide), rd_ne (by decide)]; exact g3
          · rw [rd_ne (by decide), rd_ne (by decide), rd_ne (by decide), rd_ne (by decide)]; exact g4
          · rw [rd_ne (by decide), rd_ne (by decide), rd_ne (by decide), rd_ne (by decide)]; exact g5
        have er : ∀ p I5 J5, qrM T e B a = .error p → FrM I2 (uJ J2 104 (24 + mnN B.1) (tW (tok T e (tB (tok T e a))))) I5 J5 → FtM p I5 → Q 0 0 I5 J5 R := fun p I5 J5 he hF5 hf => hE p I5 J5 he (hFw.tr hF5.nb) hf
        refine px_dueX h4 (fun x2 hx2 _ => px_bw hx2 h4 (fun p2 I5 J5 hp hF5 hf => px_byAny (fun x4 hx4 _ => px_bwB hf (px_haAny (fun x3 hx3 _ => px_perB hf (fun _ => ⟨fun _ => ⟨fun q => absurd q hf.ne.2.1, fun _ => er p2 I5 J5 (by rw [hv, rb_e hp]) (hF4.tr hF5) hf⟩, fun q => absurd rfl q⟩))))) (fun p b5 I5 J5 hp _ _ hF5 h5 => ?_))
        rw [rb_k hp] at hv
        refine px_byX h5 (fun x4 hx4 _ => px_bw hx4 h5 (fun p2 I6 J6 hp hF6 hf => px_haAny (fun x3 hx3 _ => px_perB hf (fun _ => ⟨fun _ => ⟨fun q => absurd q hf.ne.2.1, fun _ => er p2 I6 J6 (by rw [hv, rb_e hp]) ((hF4.tr hF5).tr hF6) hf⟩, fun q => absurd rfl q⟩))) (fun q b6 I6 J6 hp6 _ _ hF6 h6 => ?_))
        rw [rb_k hp6] at hv
        have hFz := (hF4.tr hF5).tr hF6
        refine px_isHas h6 (fun ht _ => ?_) (fun ht _ => ?_)
        · rw [if_pos ht] at hv
          exact px_perY h6 (fun I7 J7 hF7 h7 _ => ⟨fun z => absurd z (by decide), fun _ => px_msl h7 (fun p2 x I8 J8 hp8 hF8 hf => ⟨fun z => absurd z hf.ne.2.1, fun _ => er p2 I8 J8 (by rw [hv, rb_e hp8]) ((hFz.tr hF7).tr hF8) hf⟩) (fun s b8 I8 J8 hp8 hF8 h8 => fin p q s b8 I8 J8 (by rw [hv, rb_k hp8]) ((hFz.tr hF7).tr hF8) h8)⟩)
        · rw [if_neg ht] at hv
          exact px_perN h6 (fun _ => ⟨fun _ => fin p q 0 b6 I6 J6 hv hFz h6, fun z => absurd rfl z⟩)
      · have hnm : ¬ nmG B.2.1 (tW (tok T e (tB (tok T e a)))) (mnN B.1) 0 = -1 := fun z => by rw [z] at c3; exact c3 (by decide)
        rw [if_neg hnm] at hv
        exact px_fail (k := 3) h2 (by decide) h2.s (fun I3 hF3 hf => b72 _ _ I3 J2 hv (hF2.nb.tr hF3.nb) hf)
    · have hp : tkM T e (tB (tok T e a)) = .error (mis T e (tB (tok T e a))) := by
        unfold tkM
        rcases hn with hn | hn
        · rw [if_neg hn]
        · rw [if_pos hn]
          split <;> rfl
      rw [hv, rb_e hp]
  · unfold qrM; rw [if_pos (by rw [hm.2]; exact c)]
end MG
end PT6x7
section PT6x8
/-! ===== the reference's bakery() ===== -/
section MH
variable {T : Nat → Int32} {e a d : Nat} {I : Im} {J : Jm} {R : Rm} {Q : Qt} {B : BS}
theorem px_mrP (hBO : BOk B) (h : Mr T e a I J) (hB : BkM B I J) (hE : ∀ p I2 J2, qrP T e B a = .error p → FrN I J I2 J2 → FtM p I2 → Q 0 0 I2 J2 R) (hK : ∀ B2 b I2 J2, qrP T e B a = .ok (B2, b) → FrN I J I2 J2 → Mr T e b I2 J2 → BkM B2 I2 J2 → Q 0 0 I2 J2 R) : AM (d + 7) 232 112 [.ref 97] I J R Q := by
  refine w_X12_readPart ?_
  refine px_isOdds h (fun c1 _ => ⟨fun q => absurd q (by decide), fun _ => ?_⟩) (fun c1 _ => ⟨fun _ => ?_, fun q => absurd rfl q⟩)
  · have e1 : qrP T e B a = qrO T e B a := by unfold qrP; rw [if_pos c1]
    rw [e1] at hE hK
    exact px_mrO h hB hE hK
  refine px_isStore h (fun c2 _ => ⟨fun q => absurd q (by decide), fun _ => ?_⟩) (fun c2 _ => ⟨fun _ => ?_, fun q => absurd rfl q⟩)
  · have e1 : qrP T e B a = qrS T e B a := by unfold qrP; rw [if_neg c1, if_pos c2]
    rw [e1] at hE hK
    exact px_mrS hBO h hB hE hK
  refine px_isMan_ h (fun c3 _ => ⟨fun q => absurd q (by decide), fun _ => ?_⟩) (fun c3 _ => ⟨fun _ => ?_, fun q => absurd rfl q⟩)
  · have e1 : qrP T e B a = qrM T e B a := by unfold qrP; rw [if_neg c1, if_neg c2, if_pos c3]
    rw [e1] at hE hK
    exact px_mrM hBO h hB hE hK
  refine px_isKnown h (fun c4 _ => ⟨fun q => absurd q (by decide), fun _ => ?_⟩) (fun c4 _ => ⟨fun _ => ?_, fun q => absurd rfl q⟩)
  · have e1 : qrP T e B a = qrK T e B a := by unfold qrP; rw [if_neg c1, if_neg c2, if_neg c3, if_pos c4]
    rw [e1] at hE hK
    exact px_mrK h hB hE hK
  · have e1 : qrP T e B a = .error (mis T e a) := by unfold qrP; rw [if_neg c1, if_neg c2, if_neg c3, if_neg c4]
    exact px_amiss h (fun I2 hF hf => hE _ I2 J e1 hF.nb hf)
theorem px_isSign {x : Int32} (h : Mr T e a I J) (hY : tK (tok T e a) = 3 → tV (tok T e a) = x → Q 1 0 I J R) (hN : (tK (tok T e a) = 3 → ¬ tV (tok T e a) = x) → Q 0 0 I J R) : AM (d + 1) 196 112 [.ref 97, .int x] I J R Q := by
  refine w_X12_isSign ⟨fun c => ⟨Or.inl rfl, hN (fun q => absurd ((h.k_is (n := 3) (by omega)).mpr q) c)⟩, fun c => ?_⟩
  have hk : tK (tok T e a) = 3 := (h.k_is (n := 3) (by omega)).mp c
  rw [h.v (Or.inr hk)]
  exact ⟨fun c2 => ⟨Or.inl rfl, hN (fun _ => c2)⟩, fun c2 => ⟨Or.inr rfl, hY hk c2⟩⟩
theorem px_sgAny {x : Int32} (hQ : ∀ x : Int32, x = 0 ∨ x = 1 → Q x 0 I J R) : AM (d + 1) 196 112 [.ref 97, .int x] I J R Q :=
  w_X12_isSign ⟨fun _ => ⟨Or.inl rfl, hQ 0 (Or.inl rfl)⟩, fun _ => ⟨fun _ => ⟨Or.inl rfl, hQ 0 (Or.inl rfl)⟩, fun _ => ⟨Or.inr rfl, hQ 1 (Or.inr rfl)⟩⟩⟩
/-- a semicolon -/
theorem px_msemi {Q1 : Qt} (hQ : ∀ x I2 J2, Q1 x 0 I2 J2 R → Q1 x 0 I2 J2 R) (h : Mr T e a I J) (hE : ∀ p I2 J2, tkS T e a = .error p → FrM I J I2 J2 → FtM p I2 → Q 0 0 I2 J2 R) (hK : ∀ b I2 J2, tkS T e a = .ok ((), b) → FrM I J I2 J2 → Mr T e b I2 J2 → Q 0 0 I2 J2 R) : AM (d + 3) 196 112 [.ref 97, .int 59] I J R (fun x2 _ I2 J2 _ => (x2 = 0 ∨ x2 = 1) → AM (d + 3) 214 112 [.ref 97, .int x2] I2 J2 R Q) := by
  refine px_isSign h (fun c1 c2 _ => px_mustY h (fun I2 J2 hF h2 => hK _ I2 J2 ?_ hF h2)) (fun c _ => px_mustN h (fun I2 hF hf => hE _ I2 J ?_ hF hf))
  · unfold tkS; rw [if_pos c1, if_pos c2]
  · unfold tkS
    by_cases q : tK (tok T e a) = 3
    · rw [if_pos q, if_neg (c q)]
    · rw [if_neg q]
theorem rf_bak {Q : Nat → Qt} {P : Kt} (hc : Cl (AM (d + 7)) true false 0 (fun _ => 0) 1 112 kX12_bakery Q P) {I0 : Im} {J0 : Jm} (r : Rs BS) (hE : ∀ p I2 J2, r = .error p → FrN I0 J0 I2 J2 → FtM p I2 → P 74 112 [(0, .ref 97)] [] I2 J2 R) (hK : ∀ B2 b I2 J2, r = .ok (B2, b) → FrN I0 J0 I2 J2 → Mr T e b I2 J2 → BkM B2 I2 J2 → BOk B2 → P 74 112 [(0, .ref 97)] [] I2 J2 R) :
    ∀ (f a : Nat) (B : BS) (I : Im) (J : Jm), e < a + f → r = prB T e f B a → BOk B → FrN I0 J0 I J → Mr T e a I J → BkM B I J → P 43 112 [(0, .ref 97)] [] I J R := by
  intro f
  induction f with
  | zero => intro a B I J h _ _ _ hR; have := hR.ha; omega
  | succ f ih =>
    intro a B I J hf hv hBO hF h hB
    refine sg_X12_bakery_43 hc _ _ _ ⟨fun q => absurd h.f q, fun _ => ⟨fun c => ?_, fun c => ?_⟩⟩
    · exact hK B a I J (by rw [hv]; unfold prB; rw [if_pos ((h.k_is (n := 0) (by omega)).mp c)]) hF h hB hBO
    · have hk : ¬ tK (tok T e a) = 0 := fun q => c ((h.k_is (n := 0) (by omega)).mpr q)
      have hv2 : r = rb (prP T e B a) fun B b => prB T e f B b := by
        rw [hv]; conv => lhs; unfold prB
        rw [if_neg hk]
      have up := up_prP (T := T) (B := B) h.ha
      rw [prP_q] at hv2
      refine px_mrP hBO h hB (fun p I2 J2 hp hF2 hf2 => px_sgAny (fun x hx _ => px_mustB hf2 (sg_X12_bakery_43 hc _ _ _ ⟨fun _ => hE p I2 J2 ?_ (hF.tr hF2) hf2, fun q => absurd q hf2.ne.1⟩))) (fun B2 b I2 J2 hp hF2 h2 hB2 => ?_)
      · rw [hv2]; unfold sem; rw [rb_e (rb_e hp)]
      · refine px_msemi (Q1 := fun _ _ _ _ _ => True) (fun _ _ _ q => q) h2 (fun p I3 J3 hp3 hF3 hf3 => sg_X12_bakery_43 hc _ _ _ ⟨fun _ => hE p I3 J3 ?_ (hF.tr (hF2.tr hF3.nb)) hf3, fun q => absurd q hf3.ne.1⟩) (fun b3 I3 J3 hp3 hF3 h3 => ?_)
        · rw [hv2]; unfold sem; rw [rb_k hp, rb_e hp3]; rfl
        · have hp4 : prP T e B a = .ok (B2, b3) := by rw [prP_q]; unfold sem; rw [rb_k hp, rb_k hp3]
          rw [hp4] at up
          refine ih b3 B2 I3 J3 (by have := up.1; omega) ?_ (bok_prP hBO hp4) (hF.tr (hF2.tr hF3.nb)) h3 (hB2.m hF3)
          rw [hv2, ← prP_q, rb_k hp4]
/-- a block that is emptied -/
theorem px_empties {b : Nat} {v : Int32} (h324 : 324 * v = nI (324 * b)) (hb : b < 5) (hQ : ∀ I2, (∀ c, ¬ c = 102 → I2 c = I c) → (∀ k, (k < 324 * b ∨ 324 * b + 324 ≤ k) → I2 102 k = I 102 k) → (∀ k, k < 324 → I2 102 (324 * b + k) = emC k) → Q 0 0 I2 J R) : AM (d + 1) 225 112 [.ref 97, .int v] I J R Q := by
  refine am_X12_empties (fun P hc => sg_X12_empties_0 hc _ _ _ _ ?_)
  have L : ∀ f k : Nat, ∀ I2 : Im, k + f = 324 → (∀ c, ¬ c = 102 → I2 c = I c) → (∀ k, (k < 324 * b ∨ 324 * b + 324 ≤ k) → I2 102 k = I 102 k) → (∀ j, j < k → I2 102 (324 * b + j) = 0) → P 2 112 [(0, .ref 97), (1, .int v), (2, .int (nI k))] [] I2 J R := by
    intro f
    induction f with
    | zero =>
      intro k I2 hk h1 h2 h3
      refine sg_X12_empties_2 hc _ _ _ _ _ ⟨fun _ => ?_, fun c => absurd ((nle_nI (a := 324) (by omega) (by omega)).mpr (by omega)) c⟩
      have e1 : (nI (324 * b) + 1 : Int32) = nI (324 * b + 1) := nI_add _ 1
      have e3 : (nI (324 * b) + 3 : Int32) = nI (324 * b + 3) := nI_add _ 3
      rw [h324, e1, e3, tn_nI (by omega), tn_nI (by omega)]
      refine ⟨vp_of (nI_toInt (by omega)) (by omega) (by omega), vp_of (nI_toInt (by omega)) (by omega) (by omega), hQ _ (fun c hc => ?_) (fun j hj => ?_) (fun j hj => ?_)⟩
      · rw [uI_ne hc, uI_ne hc]; exact h1 c hc
      · rw [rd_k (by omega), rd_k (by omega)]; exact h2 j hj
      · unfold emC
        by_cases z3 : j = 3
        · subst z3; rw [rd_eq, if_neg (by decide), if_pos rfl]
        · rw [rd_k (by omega)]
          by_cases z1 : j = 1
          · subst z1; rw [rd_eq, if_pos rfl]
          · rw [rd_k (by omega), if_neg z1, if_neg z3]; exact h3 j (by omega)
    | succ f ih =>
      intro k I2 hk h1 h2 h3
      refine sg_X12_empties_2 hc _ _ _ _ _ ⟨fun c => absurd ((nle_nI (a := 324) (by omega) (by omega)).mp c) (by omega), fun _ => ?_⟩
      rw [h324, nI_add, tn_nI (by omega), nI_k1]
      refine ⟨vp_of (nI_toInt (by omega)) (by omega) (by omega), ih (k + 1) _ (by omega) (fun c hc => ?_) (fun j hj => ?_) (fun j hj => ?_)⟩
      · rw [uI_ne hc]; exact h1 c hc
      · rw [rd_k (by omega)]; exact h2 j hj
      · by_cases z : j = k
        · subst z; rw [rd_eq]
        · rw [rd_k (by omega)]; exact h3 j (by omega)
  exact L 324 0 I (by omega) (fun _ _ => rfl) (fun _ _ => rfl) (fun j hj => by omega)
/-- a block that is copied, its names -/
theorem px_copy {f t : Nat} {v w : Int32} (hv : 324 * v = nI (324 * f)) (hw : 324 * w = nI (324 * t)) (hv6 : 6 * v = nI (6 * f)) (hw6 : 6 * w = nI (6 * t)) (hf : f < 5) (ht : t < 5) (hne : ¬ f = t) (hQ : ∀ I2 J2, (∀ c, ¬ c = 102 → I2 c = I c) → (∀ k, (k < 324 * t ∨ 324 * t + 324 ≤ k) → I2 102 k = I 102 k) → (∀ k, k < 324 → I2 102 (324 * t + k) = I 102 (324 * f + k)) → (∀ c, ¬ c = 104 → J2 c = J c) → (∀ k, (k < 6 * t ∨ 6 * t + 6 ≤ k) → J2 104 k = J 104 k) → (∀ k, k < 6 → J2 104 (6 * t + k) = J 104 (6 * f + k)) → Q 0 0 I2 J2 R) : AM (d + 1) 316 112 [.ref 97, .int v, .int w] I J R Q := by
  refine am_X12_copy (fun P hc => sg_X12_copy_0 hc _ _ _ _ _ ?_)
  have L2 : ∀ g k : Nat, ∀ I2 : Im, ∀ J2 : Jm, k + g = 6 → (∀ c, ¬ c = 102 → I2 c = I c) → (∀ k, (k < 324 * t ∨ 324 * t + 324 ≤ k) → I2 102 k = I 102 k) → (∀ k, k < 324 → I2 102 (324 * t + k) = I 102 (324 * f + k)) → (∀ c, ¬ c = 104 → J2 c = J c) → (∀ k, (k < 6 * t ∨ 6 * t + 6 ≤ k) → J2 104 k = J 104 k) → (∀ j, j < k → J2 104 (6 * t + j) = J 104 (6 * f + j)) → P 41 112 [(0, .ref 97), (1, .int v), (2, .int w), (3, .int (nI k))] [] I2 J2 R := by
    intro g
    induction g with
    | zero =>
      intro k I2 J2 hk h1 h2 h3 h4 h5 h6
      refine sg_X12_copy_41 hc _ _ _ _ _ _ ⟨fun _ => hQ I2 J2 h1 h2 h3 h4 h5 (fun j hj => h6 j (by omega)), fun c => absurd ((nle_nI (a := 6) (by omega) (by omega)).mpr (by omega)) c⟩
    | succ g ih =>
      intro k I2 J2 hk h1 h2 h3 h4 h5 h6
      refine sg_X12_copy_41 hc _ _ _ _ _ _ ⟨fun c => absurd ((nle_nI (a := 6) (by omega) (by omega)).mp c) (by omega), fun _ => ?_⟩
      rw [hv6, hw6, nI_add, nI_add, tn_nI (by omega), tn_nI (by omega), nI_k1]
      refine ⟨vp_of (nI_toInt (by omega)) (by omega) (by omega), vp_of (nI_toInt (by omega)) (by omega) (by omega), ih (k + 1) I2 _ (by omega) h1 h2 h3 (fun c hc => ?_) (fun j hj => ?_) (fun j hj => ?_)⟩
      · rw [uJ_ne hc]; exact h4 c hc
      · rw [rj_k (by omega)]; exact h5 j hj
      · by_cases z : j = k
        · subst z; rw [rj_eq]; exact h5 _ (by omega)
        · rw [rj_k (by omega)]; exact h6 j (by omega)
  have L : ∀ g k : Nat, ∀ I2 : Im, k + g = 324 → (∀ c, ¬ c = 102 → I2 c = I c) → (∀ k, (k < 324 * t ∨ 324 * t + 324 ≤ k) → I2 102 k = I 102 k) → (∀ j, j < k → I2 102 (324 * t + j) = I 102 (324 * f + j)) → P 2 112 [(0, .ref 97), (1, .int v), (2, .int w), (3, .int (nI k))] [] I2 J R := by
    intro g
    induction g with
    | zero =>
      intro k I2 hk h1 h2 h3
      refine sg_X12_copy_2 hc _ _ _ _ _ _ ⟨fun _ => L2 6 0 I2 J (by omega) h1 h2 (fun j hj => h3 j (by omega)) (fun _ _ => rfl) (fun _ _ => rfl) (fun j hj => by omega), fun c => absurd ((nle_nI (a := 324) (by omega) (by omega)).mpr (by omega)) c⟩
    | succ g ih =>
      intro k I2 hk h1 h2 h3
      refine sg_X12_copy_2 hc _ _ _ _ _ _ ⟨fun c => absurd ((nle_nI (a := 324) (by omega) (by omega)).mp c) (by omega), fun _ => ?_⟩
      rw [hv, hw, nI_add, nI_add, tn_nI (by omega), tn_nI (by omega), nI_k1]
      refine ⟨vp_of (nI_toInt (by omega)) (by omega) (by omega), vp_of (nI_toInt (by omega)) (by omega) (by omega), ih (k + 1) _ (by omega) (fun c hc => ?_) (fun j hj => ?_) (fun j hj => ?_)⟩
      · rw [uI_ne hc]; exact h1 c hc
      · rw [rd_k (by omega)]; exact h2 j hj
      · by_cases z : j = k
        · subst z; rw [rd_eq]; exact h2 _ (by omega)
        · rw [rd_k (by omega)]; exact h3 j (by omega)
  exact L 324 0 I (by omega) (fun _ _ => rfl) (fun _ _ => rfl) (fun j hj => by omega)
end MH
end PT6x8
section PT6x9
/-! ===== the reference's bakery(), whole ===== -/
noncomputable abbrev msD : List Nat := [0, 1, 8, 9, 10, 11, 12, 13, 14, 15, 16, 17, 18, 24, 25, 26]
noncomputable abbrev WQ : Nat → Nat → Prop := fun c k => (c = 97 ∧ k ∈ msD) ∨ (c = 102 ∧ (k < 324 ∨ 1296 ≤ k))
noncomputable abbrev VQ : Nat → Nat → Prop := fun c k => (c = 97 ∧ k = 19) ∨ (c = 104 ∧ (k < 6 ∨ 24 ≤ k))
noncomputable abbrev FrQ (I : Im) (J : Jm) (I2 : Im) (J2 : Jm) : Prop := FrW WQ VQ I J I2 J2
theorem FrW.nq {I I2 : Im} {J J2 : Jm} (h : FrN I J I2 J2) : FrQ I J I2 J2 := h.up (fun _ _ q => q.elim (fun z => Or.inl ⟨z.1, (show ∀ k, k ∈ msC → k ∈ msD by decide) _ z.2⟩) (fun z => Or.inr ⟨z.1, Or.inr z.2⟩)) (fun _ _ q => q.elim Or.inl (fun z => Or.inr ⟨z.1, Or.inr z.2⟩))
section MI
variable {T : Nat → Int32} {e a d : Nat} {I : Im} {J : Jm} {R : Rm} {Q : Qt} {B : BS}
/-- what fault() tells: the reference's two numbers -/
noncomputable def FtK (p : Nat × Nat) (I : Im) : Prop := I 97 10 = nI p.1 ∧ I 97 11 = nI p.2
theorem px_wellB {p : Nat × Nat} (h : FtM p I) (hQ : ∀ I2, FrW (WM [0, 10, 11]) nV I J I2 J → FtK p I2 → Q 0 0 I2 J R) : AM (d + 2) 223 112 [.ref 97] I J R Q := by
  have e1 : ∀ v, uI I 97 10 v 97 12 = I 97 12 := fun v => rd_k (by decide)
  have e2 : ∀ v w, uI (uI I 97 10 v) 97 11 w 97 12 = I 97 12 := fun v w => (rd_k (by decide)).trans (e1 v)
  refine w_X12_isWell ⟨fun _ => ⟨fun c => absurd ((e2 _ _).symm.trans c) h.ne.1, fun _ => w_X12_no ⟨Or.inl rfl, fun _ => ⟨fun _ => ⟨Or.inl rfl, hQ _ (((FrW.rf.u ⟨rfl, by decide⟩).u ⟨rfl, by decide⟩).u ⟨rfl, by decide⟩) ⟨?_, ?_⟩⟩, fun q => absurd rfl q⟩⟩⟩, fun c => absurd ((e1 _).symm.trans c) h.ne.1⟩
  · rw [rd_k (by decide), rd_k (by decide), rd_eq]; exact h.1
  · rw [rd_k (by decide), rd_eq, rd_k (by decide)]; exact h.2.1
theorem px_wellG (h : I 97 12 = 0) (hQ : ∀ I2, FrW (WM [0, 10, 11]) nV I J I2 J → I2 97 10 = 0 → I2 97 11 = -1 → Q 1 0 I2 J R) : AM (d + 2) 223 112 [.ref 97] I J R Q := by
  have e1 : ∀ v, uI I 97 10 v 97 12 = I 97 12 := fun v => rd_k (by decide)
  have e2 : ∀ v w, uI (uI I 97 10 v) 97 11 w 97 12 = I 97 12 := fun v w => (rd_k (by decide)).trans (e1 v)
  refine w_X12_isWell ⟨fun c => absurd ((e1 _).trans h) c, fun _ => ⟨fun _ => ⟨Or.inr rfl, hQ _ ((FrW.rf.u ⟨rfl, by decide⟩).u ⟨rfl, by decide⟩) ?_ rd_eq⟩, fun c => absurd ((e2 _ _).trans h) c⟩⟩
  rw [rd_k (by decide), rd_eq]; exact h
/-- a text can be read, or not -/
theorem px_startN {v w : Int32} {f : Nat} (hf : f ≤ 900) (h8 : I 97 8 = nI f) (hv : v < 0 ∨ nI f < v ∨ ¬ v ≤ w) (hQ : ∀ I2, FrW (WM [0]) nV I J I2 J → Q 0 0 I2 J R) : AM (d + 4) 222 112 [.ref 97, .int v, .int w] I J R Q := by
  have no : AM (d + 3) 177 112 [.ref 97, .int 5] I J R (fun x _ I' J' _ => (x = 0 ∨ x = 1) → (((x : Int32) = 0 ∨ (x : Int32) = 1) ∧ Q x 0 I' J' R)) := w_X12_no ⟨Or.inl rfl, fun _ => ⟨Or.inl rfl, hQ _ (FrW.rf.u ⟨rfl, by decide⟩)⟩⟩
  refine w_X12_starts ⟨fun _ => no, fun c1 => ⟨fun _ => no, fun c2 => ⟨fun c3 => ?_, fun _ => no⟩⟩⟩
  rw [h8] at c2
  rcases hv with z | z | z
  · exact absurd z c1
  · exact absurd z c2
  · exact absurd c3 z
theorem px_startY {n f : Nat} {w : Int32} (hf : f ≤ 900) (hn : n ≤ f) (hw : nI n ≤ w) (h8 : I 97 8 = nI f) (hB : Byt T) (hT : ∀ i, i < f → I 101 i = T i) (hQ : ∀ I2 J2, FrW (WM [8, 9, 12, 14, 15, 16, 17, 18]) VM I J I2 J2 → I2 97 8 = 0 → Mr T n 0 I2 J2 → Q 1 0 I2 J2 R) : AM (d + 4) 222 112 [.ref 97, .int (nI n), .int w] I J R Q := by
  refine w_X12_starts ⟨fun c => absurd c (nI_pos (by omega)), fun _ => ⟨fun c => ?_, fun _ => ⟨fun _ => ?_, fun c => absurd hw c⟩⟩⟩
  · rw [h8] at c
    have := (nlt_nI (by omega) (by omega)).mp c
    omega
  · have hF : FrW (WM [8, 9, 12, 14, 15, 16, 17, 18]) VM I J (uI (uI (uI (uI I 97 9 (nI n)) 97 8 0) 97 16 0) 97 12 0) J := (((FrW.rf.u ⟨rfl, by decide⟩).u ⟨rfl, by decide⟩).u ⟨rfl, by decide⟩).u ⟨rfl, by decide⟩
    refine px_madv (T := T) (e := n) (a := 0) (by omega) (by omega) hB ⟨fun i hi => ?_, ?_⟩ ?_ (fun I2 J2 hF2 hS => ⟨Or.inr rfl, ?_⟩)
    · rw [hF.i (by intro q; exact absurd q.1 (by decide))]; exact hT i (by omega)
    · rw [rd_k (by decide), rd_k (by decide), rd_k (by decide), rd_eq]
    · rw [rd_k (by decide), rd_eq]; rfl
    · refine hQ I2 J2 (hF.tr (hF2.up (WM.up (by decide)) (fun _ _ q => q))) ?_ ⟨hS, ?_, by omega, by omega, hB⟩
      · rw [hF2.i (by decide), rd_k (by decide), rd_k (by decide), rd_eq]
      · rw [hF2.i (by decide), rd_eq]
theorem px_mbN {v : Int32} {f : Nat} (hf : f ≤ 900) (h8 : I 97 8 = nI f) (hv : v < 0 ∨ nI f < v) (hQ : ∀ I2, FrQ I J I2 J → I2 97 8 = I 97 8 → I2 97 10 = I 97 10 → I2 97 11 = I 97 11 → I2 102 = I 102 → Q (-1) 0 I2 J R) : AM (d + 8) 233 112 [.ref 97, .int v] I J R Q := by
  have hF : FrW (WM [0, 1]) nV I J (uI (uI I 97 1 0) 97 0 0) J := (FrW.rf.u ⟨rfl, by decide⟩).u ⟨rfl, by decide⟩
  refine am_X12_bakery (fun P hc => sg_X12_bakery_0 hc _ _ _ _ (px_startN hf ?_ (hv.elim Or.inl (fun z => Or.inr (Or.inl z))) (fun I2 hF2 _ => ⟨fun q => absurd rfl q, fun _ => ?_⟩)))
  · rw [hF.i (by decide)]; exact h8
  · have hF3 : FrW (WM [0, 1]) nV I J I2 J := hF.tr (hF2.up (WM.up (by decide)) (fun _ _ q => q))
    exact hQ I2 (hF3.up (fun _ _ q => Or.inl ⟨q.1, (show ∀ k, k ∈ [0, 1] → k ∈ msD by decide) _ q.2⟩) nV.up) (hF3.i (by decide)) (hF3.i (by decide)) (hF3.i (by decide)) (hF3.c (WM.no (by decide)))
theorem px_mbY {n f : Nat} (hf : f ≤ 900) (hn : n ≤ f) (h8 : I 97 8 = nI f) (hB : Byt T) (hT : ∀ i, i < f → I 101 i = T i) (hE : ∀ p I2 J2, prB T n (n + 1) em0 0 = .error p → FrQ I J I2 J2 → I2 97 8 = 0 → FtK p I2 → (∀ k, k < 1296 → I2 102 k = I 102 k) → (∀ k, k < 24 → J2 104 k = J 104 k) → Q (-1) 0 I2 J2 R) (hK : ∀ B2 b I2 J2, prB T n (n + 1) em0 0 = .ok (B2, b) → BOk B2 → FrQ I J I2 J2 → I2 97 8 = 0 → I2 97 10 = 0 → I2 97 11 = -1 → (∀ k, k < 324 → I2 102 k = B2.1 k) → (∀ k, k < mnN B2.1 → J2 104 k = B2.2.1 k) → Q (B2.1 0) 0 I2 J2 R) : AM (d + 8) 233 112 [.ref 97, .int (nI n)] I J R Q := by
  have hF : FrW (WM [0, 1]) nV I J (uI (uI I 97 1 0) 97 0 0) J := (FrW.rf.u ⟨rfl, by decide⟩).u ⟨rfl, by decide⟩
  refine am_X12_bakery (fun P hc => sg_X12_bakery_0 hc _ _ _ _ (px_startY (T := T) hf hn ?_ ?_ hB ?_ (fun I2 J2 hF2 h28 h2 _ => ⟨fun _ => px_empties (b := 4) (by decide) (by decide) (fun I3 e1 e2 e3 => ⟨Or.inl rfl, Or.inl rfl, ?_⟩), fun q => absurd q (by decide)⟩)))
  · exact (nle_nI (b := 900) (by omega) (by omega)).mpr (by omega)
  · rw [hF.i (by decide)]; exact h8
  · intro i hi; rw [hF.i (by intro q; exact absurd q.1 (by decide))]; exact hT i hi
  · -- the new block is empty
    have hFs : FrQ I J I2 J2 := (hF.up (fun _ _ q => Or.inl ⟨q.1, (show ∀ k, k ∈ [0, 1] → k ∈ msD by decide) _ q.2⟩) nV.up).tr (hF2.up (fun _ _ q => Or.inl ⟨q.1, (show ∀ k, k ∈ [8, 9, 12, 14, 15, 16, 17, 18] → k ∈ msD by decide) _ q.2⟩) (fun _ _ q => Or.inl q))
    have hF3 : FrQ I J I3 J2 := hFs.tr ⟨fun c k q => by
      by_cases z : c = 102
      · subst z
        exact e2 k (by
          rcases Nat.lt_or_ge k 1296 with w | w
          · exact Or.inl w
          · exact absurd (Or.inr ⟨rfl, Or.inr w⟩) q)
      · rw [e1 c z], fun _ _ _ => rfl⟩
    have e12 : I2 102 = I 102 := (hF2.c (WM.no (by decide))).trans (hF.c (WM.no (by decide)))
    have lo3 : ∀ k, k < 1296 → I3 102 k = I 102 k := fun k hk => by rw [e2 k (Or.inl (by omega)), e12]
    have j4 : J2 104 = J 104 := hF2.cj (VM.no (by decide))
    have hFa : FrQ I J (uI (uI (uI I3 97 24 0) 97 25 0) 97 26 0) J2 := ((hF3.u (Or.inl ⟨rfl, by decide⟩)).u (Or.inl ⟨rfl, by decide⟩)).u (Or.inl ⟨rfl, by decide⟩)
    have hMa : Mr T n 0 (uI (uI (uI I3 97 24 0) 97 25 0) 97 26 0) J2 := ((((h2.o (fun k _ => congrFun (e1 97 (by decide)) k) (e1 101 (by decide)) rfl) : Mr T n 0 I3 J2).w_ (Or.inr (Or.inl rfl)) (by decide)).w_ (Or.inr (Or.inr (Or.inl rfl))) (by decide)).w_ (Or.inr (Or.inr (Or.inr rfl))) (by decide)
    have a8 : uI (uI (uI I3 97 24 0) 97 25 0) 97 26 0 97 8 = 0 := by rw [rd_k (by decide), rd_k (by decide), rd_k (by decide), e1 97 (by decide)]; exact h28
    have lo : ∀ k, k < 1296 → uI (uI (uI I3 97 24 0) 97 25 0) 97 26 0 102 k = I 102 k := fun k hk => by rw [rd_ne (by decide), rd_ne (by decide), rd_ne (by decide)]; exact lo3 k hk
    have hBa : BkM em0 (uI (uI (uI I3 97 24 0) 97 25 0) 97 26 0) J2 := by
      refine ⟨fun k hk => ?_, fun k hk => ?_, ?_, ?_, ?_⟩
      · rw [rd_ne (by decide), rd_ne (by decide), rd_ne (by decide)]; exact e3 k hk
      · exact absurd hk (by rw [show mnN em0.1 = 0 from rfl]; omega)
      · rw [rd_k (by decide), rd_k (by decide), rd_eq]; rfl
      · rw [rd_k (by decide), rd_eq]; rfl
      · rw [rd_eq]; rfl
    generalize uI (uI (uI I3 97 24 0) 97 25 0) 97 26 0 = M at hFa hMa a8 lo hBa
    refine rf_bak hc (I0 := M) (J0 := J2) (T := T) (e := n) (prB T n (n + 1) em0 0) (fun p I4 J4 hp hF4 hf => ?_) (fun B2 b I4 J4 hp hF4 h4 hB4 hO4 => ?_) (n + 1) 0 em0 M J2 (by omega) rfl BOk.em FrW.rf hMa hBa
    · refine sg_X12_bakery_74 hc _ _ _ (px_wellB hf (fun I5 hF5 hk _ => ⟨fun q => absurd rfl q, fun _ => ?_⟩))
      refine hE p I5 J4 hp ((hFa.tr hF4.nq).tr (hF5.up (fun _ _ q => Or.inl ⟨q.1, (show ∀ k, k ∈ [0, 10, 11] → k ∈ msD by decide) _ q.2⟩) nV.up)) ?_ hk (fun k hk => ?_) (fun k hk => ?_)
      · rw [hF5.i (by decide), hF4.i (by decide)]; exact a8
      · rw [hF5.i (by intro q; exact absurd q.1 (by decide)), hF4.i (by intro q; omega)]; exact lo k hk
      · rw [hF4.j (by intro q; omega), j4]
    · refine sg_X12_bakery_74 hc _ _ _ (px_wellG h4.f (fun I5 hF5 k10 k11 _ => ⟨fun _ => px_copy (f := 4) (t := 0) (by decide) (by decide) (by decide) (by decide) (by decide) (by decide) (by decide) (fun I6 J6 c1 c2 c3 c4 c5 c6 => ⟨vp_of (show (0 : Int32).toInt = 0 from rfl) (by omega) (by omega), ?_⟩), fun q => absurd q (by decide)⟩))
      have f102 : ∀ k, k < 324 → I6 102 k = B2.1 k := fun k hk => by
        have := c3 k hk
        rw [show 324 * 0 + k = k by omega] at this
        rw [this, hF5.i (by intro q; exact absurd q.1 (by decide))]; exact hB4.1 k hk
      have e0 : I6 102 (Int32.toNatClampNeg 0) = B2.1 0 := f102 0 (by omega)
      rw [e0]
      refine hK B2 b I6 J6 hp hO4 (((hFa.tr hF4.nq).tr (hF5.up (fun _ _ q => Or.inl ⟨q.1, (show ∀ k, k ∈ [0, 10, 11] → k ∈ msD by decide) _ q.2⟩) nV.up)).tr ⟨fun c k q => ?_, fun c k q => ?_⟩) ?_ ?_ ?_ f102 (fun k hk => ?_)
      · by_cases z : c = 102
        · subst z
          exact c2 k (by
            rcases Nat.lt_or_ge k 324 with w | w
            · exact absurd (Or.inr ⟨rfl, Or.inl w⟩) q
            · exact Or.inr (by omega))
        · rw [c1 c z]
      · by_cases z : c = 104
        · subst z
          exact c5 k (by
            rcases Nat.lt_or_ge k 6 with w | w
            · exact absurd (Or.inr ⟨rfl, Or.inl w⟩) q
            · exact Or.inr (by omega))
        · rw [c4 c z]
      · rw [c1 97 (by decide), hF5.i (by decide), hF4.i (by decide)]; exact a8
      · rw [c1 97 (by decide)]; exact k10
      · rw [c1 97 (by decide)]; exact k11
      · have hm := hO4.1.m
        have := c6 k (by omega)
        rw [show 6 * 0 + k = k by omega] at this
        rw [this]; exact hB4.2.1 k hk
end MI
end PT6x9
