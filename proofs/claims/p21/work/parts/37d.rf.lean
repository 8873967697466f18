/-! ===== the reference's reader: what is taken ===== -/
section MT
variable {T : Nat → Int32} {e a d : Nat} {I : Im} {J : Jm} {R : Rm} {Q : Qt}
theorem px_fail {k : Nat} {v : Int32} {s : Nat} (h : Mr T e a I J) (hk : 1 ≤ k ∧ k ≤ 7) (hv : v = nI s) (hQ : ∀ I2, FrM I J I2 J → FtM (k, s) I2 → Q 0 0 I2 J R) : AM (d + 1) 212 112 [.ref 97, .int (nI k), .int v] I J R Q :=
  w_X12_fail ⟨fun _ => hQ _ ((FrW.rf.u ⟨rfl, by decide⟩).u ⟨rfl, by decide⟩) ⟨by rw [rd_k (by decide), rd_eq], by rw [rd_eq, hv], hk⟩, fun c => absurd h.le.1 c⟩
theorem px_amiss (h : Mr T e a I J) (hQ : ∀ I2, FrM I J I2 J → FtM (mis T e a) I2 → Q 0 0 I2 J R) : AM (d + 2) 213 112 [.ref 97] I J R Q := by
  refine w_X12_amiss ⟨fun c => px_fail (k := 2) h (by decide) h.s (fun I2 hF hf => hQ I2 hF ?_), fun c => px_fail (k := 1) h (by decide) h.s (fun I2 hF hf => hQ I2 hF ?_)⟩
  · unfold mis
    rw [if_neg (fun q => c ((h.k_is (n := 4) (by omega)).mpr q))]; exact hf
  · unfold mis
    rw [if_pos ((h.k_is (n := 4) (by omega)).mp c)]; exact hf
theorem px_mad (h : Mr T e a I J) (hQ : ∀ I2 J2, FrM I J I2 J2 → Mr T e (tB (tok T e a)) I2 J2 → Q 0 0 I2 J2 R) : AM (d + 2) 195 112 [.ref 97] I J R Q := by
  have hb := tB_le (T := T) h.ha
  refine px_madv h.he hb.2 h.2.2.2.2 h.1.1 h.b (fun I2 J2 hF hS => hQ I2 J2 (hF.up (WM.up (by decide)) (fun _ _ q => q)) ⟨hS, ?_, hb.2, h.he, h.2.2.2.2⟩)
  rw [hF.i (by decide)]; exact h.f
/-- must -/
theorem px_mustB {p : Nat × Nat} {x : Int32} (h : FtM p I) (hQ : Q 0 0 I J R) : AM (d + 3) 214 112 [.ref 97, .int x] I J R Q :=
  w_X12_must ⟨fun c => absurd c h.ne.2.1, fun _ => hQ⟩
theorem px_mustY (h : Mr T e a I J) (hQ : ∀ I2 J2, FrM I J I2 J2 → Mr T e (tB (tok T e a)) I2 J2 → Q 0 0 I2 J2 R) : AM (d + 3) 214 112 [.ref 97, .int 1] I J R Q :=
  w_X12_must ⟨fun _ => ⟨fun c => absurd c (by decide), fun _ => px_mad h hQ⟩, fun c => absurd h.le.1 c⟩
theorem px_mustN (h : Mr T e a I J) (hQ : ∀ I2, FrM I J I2 J → FtM (mis T e a) I2 → Q 0 0 I2 J R) : AM (d + 3) 214 112 [.ref 97, .int 0] I J R Q :=
  w_X12_must ⟨fun _ => ⟨fun _ => px_amiss h hQ, fun c => absurd rfl c⟩, fun c => absurd h.le.1 c⟩
/-- a number that stands and may -/
theorem px_mayBeB {p : Nat × Nat} {lo hi : Int32} (h : FtM p I) (hQ : Q 0 0 I J R) : AM (d + 3) 215 112 [.ref 97, .int lo, .int hi] I J R Q :=
  am_X12_mayBe (fun P hc => sg_X12_mayBe_0 hc _ _ _ _ _ ⟨fun _ => sg_X12_mayBe_19 hc _ _ _ _ _ ⟨fun _ => hQ, fun c => absurd c h.ne.1⟩, fun c => absurd c h.ne.1⟩)
theorem isIn_i {v lo hi : Int32} : ((lg_cmp (Int32.toInt64 v) (Int32.toInt64 lo) < 0) ↔ v < lo) ∧ (((0 : Int32) < lg_cmp (Int32.toInt64 v) (Int32.toInt64 hi)) ↔ ¬ v ≤ hi) := by
  rw [lg_cmp_lt, lg_cmp_gt, Int64.lt_iff_toInt_lt, Int64.lt_iff_toInt_lt, tl_i2l (x := v) rfl, tl_i2l (x := lo) rfl, tl_i2l (x := hi) rfl, Int32.lt_iff_toInt_lt, Int32.le_iff_toInt_le]
  omega
theorem px_isInI {v lo hi : Int32} (hY : lo ≤ v → v ≤ hi → Q 1 0 I J R) (hN : v < lo ∨ ¬ v ≤ hi → Q 0 0 I J R) : AM (d + 1) 178 112 [.long (Int32.toInt64 v), .long (Int32.toInt64 lo), .long (Int32.toInt64 hi)] I J R Q := by
  refine w_X12_isIn ?_
  rw [(isIn_i (hi := hi)).1, (isIn_i (lo := lo)).2]
  refine ⟨fun c => ⟨Or.inl rfl, hN (Or.inl c)⟩, fun c => ⟨fun c2 => ⟨Or.inl rfl, hN (Or.inr c2)⟩, fun c2 => ⟨Or.inr rfl, hY ?_ ?_⟩⟩⟩
  · rw [Int32.le_iff_toInt_le]; rw [Int32.lt_iff_toInt_lt] at c; omega
  · exact Decidable.not_not.mp c2
theorem px_mayBe {lo hi : Int32} (h : Mr T e a I J) (hE : ∀ p I2, tkN T e lo hi a = .error p → FrM I J I2 J → FtM p I2 → Q 0 0 I2 J R) (hK : ∀ v b, tkN T e lo hi a = .ok (v, b) → I 97 17 = v → lo ≤ v → v ≤ hi → b = tB (tok T e a) → Q 0 0 I J R) : AM (d + 3) 215 112 [.ref 97, .int lo, .int hi] I J R Q := by
  refine am_X12_mayBe (fun P hc => sg_X12_mayBe_0 hc _ _ _ _ _ ⟨fun c => absurd h.f c, fun _ => ⟨fun c => ?_, fun c => ?_⟩⟩)
  · have hk := (h.k_is (n := 2) (by omega)).mp c
    have hv := h.v (Or.inl hk)
    refine sg_X12_mayBe_19 hc _ _ _ _ _ ⟨fun c => absurd h.f c, fun _ => ?_⟩
    rw [hv]
    refine px_isInI (fun l1 l2 _ => ⟨fun _ => hK _ _ ?_ hv l1 l2 rfl, fun q => absurd q (by decide)⟩) (fun q _ => ⟨fun z => absurd rfl z, fun _ => px_fail (k := 4) h (by decide) h.s (fun I2 hF hf => hE _ I2 ?_ hF hf)⟩)
    · unfold tkN
      rw [if_pos hk, if_neg (fun z => by rw [Int32.lt_iff_toInt_lt] at z; rw [Int32.le_iff_toInt_le] at l1; omega), if_pos l2]
    · unfold tkN
      rw [if_pos hk]
      by_cases z : tV (tok T e a) < lo
      · rw [if_pos z]
      · rw [if_neg z, if_neg (q.resolve_left z)]
  · have hk : ¬ tK (tok T e a) = 2 := fun z => c ((h.k_is (n := 2) (by omega)).mpr z)
    refine px_amiss h (fun I2 hF hf => sg_X12_mayBe_19 hc _ _ _ _ _ ⟨fun _ => hE _ I2 ?_ hF hf, fun z => absurd z hf.ne.1⟩)
    unfold tkN
    rw [if_neg hk]
theorem px_countB {p : Nat × Nat} {lo hi : Int32} (h : FtM p I) (hQ : Q 0 0 I J R) : AM (d + 4) 216 112 [.ref 97, .int lo, .int hi] I J R Q :=
  w_X12_count (px_mayBeB h ⟨fun c => absurd c h.ne.2.1, fun _ => hQ⟩)
theorem px_count {lo hi : Int32} (h : Mr T e a I J) (hE : ∀ p I2, tkN T e lo hi a = .error p → FrM I J I2 J → FtM p I2 → Q 0 0 I2 J R) (hK : ∀ v b I2 J2, tkN T e lo hi a = .ok (v, b) → lo ≤ v → v ≤ hi → FrM I J I2 J2 → Mr T e b I2 J2 → Q v 0 I2 J2 R) : AM (d + 4) 216 112 [.ref 97, .int lo, .int hi] I J R Q := by
  refine w_X12_count (px_mayBe h (fun p I2 hp hF hf => ⟨fun c => absurd c hf.ne.2.1, fun _ => hE p I2 hp hF hf⟩) (fun v b hp hv l1 l2 hb => ⟨fun _ => ?_, fun c => absurd h.le.1 c⟩))
  rw [hv]
  refine px_mad h (fun I2 J2 hF h2 => hK v b I2 J2 hp l1 l2 hF ?_)
  rw [hb]; exact h2
theorem px_bwB {p : Nat × Nat} {x lo hi : Int32} (h : FtM p I) (hQ : Q 0 0 I J R) : AM (d + 5) 217 112 [.ref 97, .int x, .int lo, .int hi] I J R Q :=
  w_X12_behindWord (px_mustB h (px_countB h hQ))
/-- a word, then a number -/
theorem px_bw {i : Int32} {x lo hi : Int32} (hx : x = 1 ∧ tI (tok T e a) = i ∨ x = 0 ∧ ¬ tI (tok T e a) = i) (h : Mr T e a I J) (hE : ∀ p I2 J2, (rb (tkW T e i a) fun _ b => tkN T e lo hi b) = .error p → FrM I J I2 J2 → FtM p I2 → Q 0 0 I2 J2 R) (hK : ∀ v b I2 J2, (rb (tkW T e i a) fun _ b => tkN T e lo hi b) = .ok (v, b) → lo ≤ v → v ≤ hi → FrM I J I2 J2 → Mr T e b I2 J2 → Q v 0 I2 J2 R) : AM (d + 5) 217 112 [.ref 97, .int x, .int lo, .int hi] I J R Q := by
  refine w_X12_behindWord ?_
  rcases hx with ⟨rfl, hti⟩ | ⟨rfl, hti⟩
  · have e1 : (rb (tkW T e i a) fun _ b => tkN T e lo hi b) = tkN T e lo hi (tB (tok T e a)) := by
      unfold tkW
      rw [if_pos hti]; rfl
    rw [e1] at hE hK
    exact px_mustY h (fun I2 J2 hF h2 => px_count h2 (fun p I3 hp hF3 hf => hE p I3 J2 hp (hF.tr hF3) hf) (fun v b I3 J3 hp l1 l2 hF3 h3 => hK v b I3 J3 hp l1 l2 (hF.tr hF3) h3))
  · have e1 : (rb (tkW T e i a) fun _ b => tkN T e lo hi b) = .error (mis T e a) := by
      unfold tkW
      rw [if_neg hti]; rfl
    rw [e1] at hE
    exact px_mustN h (fun I2 hF hf => px_countB hf (hE _ I2 J rfl hF hf))
theorem px_perB {p : Nat × Nat} {x : Int32} (h : FtM p I) (hQ : Q 0 0 I J R) : AM (d + 3) 218 112 [.ref 97, .int x] I J R Q :=
  w_X12_perhaps ⟨fun _ => ⟨Or.inl rfl, hQ⟩, fun c => absurd h.ne.2.2 c⟩
theorem px_perN (h : Mr T e a I J) (hQ : Q 0 0 I J R) : AM (d + 3) 218 112 [.ref 97, .int 0] I J R Q :=
  w_X12_perhaps ⟨fun c => absurd c h.le.2, fun _ => ⟨fun c => absurd rfl c, fun _ => ⟨Or.inl rfl, hQ⟩⟩⟩
theorem px_perY (h : Mr T e a I J) (hQ : ∀ I2 J2, FrM I J I2 J2 → Mr T e (tB (tok T e a)) I2 J2 → Q 1 0 I2 J2 R) : AM (d + 3) 218 112 [.ref 97, .int 1] I J R Q :=
  w_X12_perhaps ⟨fun c => absurd c h.le.2, fun _ => ⟨fun _ => px_mad h (fun I2 J2 hF h2 => ⟨Or.inr rfl, hQ I2 J2 hF h2⟩), fun c => absurd c (by decide)⟩⟩
/-- a set's bit, both ways -/
theorem inS_of {s v : Int32} (hs : 0 ≤ s.toInt) (h1 : (1 : Int32) ≤ v) (h2 : v ≤ 30) : ((s >>> ((v - 1) &&& 31)) &&& 1 = 1) ↔ inS s v = true := by
  rw [le_i] at h1 h2
  have e1 : (1 : Int32).toInt = 1 := rfl
  have e30 : (30 : Int32).toInt = 30 := rfl
  have hd : (v - 1).toInt = v.toInt - 1 := ti_sub rfl e1 (by omega)
  unfold inS
  rw [Bool.not_eq_true', decide_eq_false_iff_not, isOf_iff hs (by omega), isIn_iff hs (by omega)]
  exact (Bool.not_eq_false _).symm.to_iff
theorem px_isOf {s v : Int32} (hs : 0 ≤ s.toInt) (h1 : (1 : Int32) ≤ v) (h2 : v ≤ 30) (hY : inS s v = true → Q 1 0 I J R) (hN : inS s v = false → Q 0 0 I J R) : AM (d + 1) 189 112 [.int s, .int (v - 1)] I J R Q := by
  refine w_X12_isOf ⟨fun c => ⟨Or.inl rfl, hN (bf_of (fun z => c ((inS_of hs h1 h2).mpr z)))⟩, fun c => ⟨Or.inr rfl, hY ((inS_of hs h1 h2).mp c)⟩⟩
theorem px_mslB {p : Nat × Nat} (h : FtM p I) (hQ : Q 0 0 I J R) : AM (d + 5) 219 112 [.ref 97] I J R Q :=
  am_X12_readSlices (fun P hc => sg_X12_readSlices_0 hc _ _ _ (sg_X12_readSlices_2 hc _ _ _ _ ⟨fun _ => hQ, fun c => absurd c h.ne.1⟩))
end MT
