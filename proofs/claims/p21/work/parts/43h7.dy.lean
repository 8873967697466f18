/-! ===== the reference reads days: what a step's word asks for ===== -/
theorem isSt_c {i : Int32} (h : isSt i = true) : i = 9 ∨ i = 10 ∨ i = 11 ∨ i = 12 ∨ i = 13 ∨ i = 14 ∨ i = 15 ∨ i = 19 ∨ i = 21 := by
  by_cases h1 : i = 15
  · exact Or.inr (Or.inr (Or.inr (Or.inr (Or.inr (Or.inr (Or.inl h1))))))
  by_cases h2 : i = 19
  · exact Or.inr (Or.inr (Or.inr (Or.inr (Or.inr (Or.inr (Or.inr (Or.inl h2)))))))
  by_cases h3 : i = 21
  · exact Or.inr (Or.inr (Or.inr (Or.inr (Or.inr (Or.inr (Or.inr (Or.inr h3)))))))
  by_cases h4 : i < 9 ∨ 14 < i
  · rw [isSt_no h1 h2 h3 h4] at h; exact absurd h (by decide)
  · rw [Int32.lt_iff_toInt_lt, Int32.lt_iff_toInt_lt, show (9 : Int32).toInt = 9 from rfl, show (14 : Int32).toInt = 14 from rfl] at h4
    rcases (show i.toInt = 9 ∨ i.toInt = 10 ∨ i.toInt = 11 ∨ i.toInt = 12 ∨ i.toInt = 13 ∨ i.toInt = 14 by omega) with z | z | z | z | z | z
    · exact Or.inl (Int32.toInt_inj.mp z)
    · exact Or.inr (Or.inl (Int32.toInt_inj.mp z))
    · exact Or.inr (Or.inr (Or.inl (Int32.toInt_inj.mp z)))
    · exact Or.inr (Or.inr (Or.inr (Or.inl (Int32.toInt_inj.mp z))))
    · exact Or.inr (Or.inr (Or.inr (Or.inr (Or.inl (Int32.toInt_inj.mp z)))))
    · exact Or.inr (Or.inr (Or.inr (Or.inr (Or.inr (Or.inl (Int32.toInt_inj.mp z))))))
section RDC
variable {T : Nat → Int32} {e a d m w : Nat} {N : Nat → Int64} {I : Im} {J : Jm} {R : Rm} {Q : Qt}
theorem px_r90 {i : Int32} (hi : i = 11 ∨ i = 12) (hw : 1350 ≤ w ∧ w + 8 ≤ 1620) (hm : MnR N m I J) (h : Mr T e a I J) {P : Kt} (hc : Cl (AM (d + 6)) true false 0 (fun _ => 0) 0 112 kX12_readRest (fun _ => Q) P) (hE : ∀ q I2 J2, dyA T e N m i a = .error q → FrK w I J I2 J2 → FtM q I2 → Q 0 0 I2 J2 R) (hK : ∀ c b I2 J2, dyA T e N m i a = .ok (c, b) → FrK w I J I2 J2 → Mr T e b I2 J2 → RcO c (I2 102) w → Q 0 0 I2 J2 R) : P 90 112 [(0, .ref 97), (1, .int (nI w))] [] I J R := by
  have eA : dyA T e N m i a = rb (tkH T e N m a) fun x b => rb (tkN T e 1 30 b) fun y b => .ok ((i, x, y, 0), b) := by
    rcases hi with rfl | rfl <;> rfl
  have k1 : Int32.toNatClampNeg (nI w + 1) = w + 1 := by rw [show (1 : Int32) = nI 1 from rfl, wk_k (by omega), tn_nI (by omega)]
  have v1 : vp_in (nI w + 1) 1620 := by rw [show (1 : Int32) = nI 1 from rfl, wk_k (by omega)]; exact vp_of (a := ((w + 1 : Nat) : Int)) (nI_toInt (by omega)) (by omega) (by omega)
  refine sg_X12_readRest_90 hc _ _ _ _ ?_
  simp only [k1]
  refine px_told hm h (fun q I2 J2 hq hF hf => ⟨v1, px_cnB (k := 2) (by omega) (hf.w_ (Or.inl (by decide))) (fun _ I3 J3 => Q 0 0 I3 J3 R) (hE q _ J2 (by rw [eA]; exact rb_e hq) ((hF.k8.r8 (by omega)).r8 (by omega)) ((hf.w_ (Or.inl (by decide))).w_ (Or.inl (by decide))))⟩) (fun x b I2 J2 hx hF h2 => ⟨v1, px_cnW (k := 2) (by omega) (by omega) (h2.w_ (Or.inl (by decide)) (by decide)) (fun _ I3 J3 => Q 0 0 I3 J3 R) (fun q I3 J3 hq hF3 hf => hE q _ J3 (by rw [eA, rb_k hx]; exact rb_e hq) (((hF.k8.r8 (by omega)).tr hF3.k8).r8 (by omega)) (hf.w_ (Or.inl (by decide)))) (fun y b3 I3 J3 hy _ _ hF3 h3 => hK _ b3 _ J3 (by rw [eA, rb_k hx, rb_k hy]) (((hF.k8.r8 (by omega)).tr hF3.k8).r8 (by omega)) (h3.w_ (Or.inl (by decide)) (by decide)) (RcO.two (Or.inr hi) ?_ rd_eq))⟩)
  rw [rd_k (by omega), hF3.i (by intro q; exact absurd q.1 (by decide)), rd_eq]
theorem px_rest {i : Int32} (hi : isSt i = true) (hw : 1350 ≤ w ∧ w + 8 ≤ 1620) (hk : I 102 w = stW i) (hm : MnR N m I J) (h : Mr T e a I J) (hE : ∀ q I2 J2, dyA T e N m i a = .error q → FrK w I J I2 J2 → FtM q I2 → Q 0 0 I2 J2 R) (hK : ∀ c b I2 J2, dyA T e N m i a = .ok (c, b) → FrK w I J I2 J2 → Mr T e b I2 J2 → RcO c (I2 102) w → Q 0 0 I2 J2 R) : AM (d + 7) 235 112 [.ref 97, .int (nI w)] I J R Q := by
  have v0 : vp_in (nI w) 1620 := vp_of (a := (w : Int)) (nI_toInt (by omega)) (by omega) (by omega)
  refine am_X12_readRest (fun P hc => sg_X12_readRest_0 hc _ _ _ _ ?_)
  rw [tn_nI (by omega)]
  rcases isSt_c hi with rfl | rfl | rfl | rfl | rfl | rfl | rfl | rfl | rfl
  · rw [show I 102 w = 0 from hk]
    exact ⟨v0, fun c => absurd rfl c, fun _ => px_rcut hw.2 h hc hE hK⟩
  · rw [show I 102 w = 1 from hk]
    have eA : dyA T e N m 10 a = rb (tkN T e 1 30 a) fun x b => rb (tkN T e 2 30 b) fun y b => .ok ((10, x, y, 0), b) := rfl
    refine ⟨v0, fun _ => ⟨fun c => absurd rfl c, fun _ => px_cnW (k := 1) (by omega) (by omega) h (fun _ I3 J3 => AM (d + 6) 216 112 [.ref 97, .int 2, .int 30] I3 J3 R (fun x _ I2 J2 _ => vp_in (nI w + nI 2) 1620 ∧ Q 0 0 (uI I2 102 (Int32.toNatClampNeg (nI w + nI 2)) x) J2 R)) (fun q I2 J2 hq hF hf => px_cnB (k := 2) (by omega) (hf.w_ (Or.inl (by decide))) (fun _ I3 J3 => Q 0 0 I3 J3 R) (hE q _ J2 (by rw [eA]; exact rb_e hq) ((hF.k8.r8 (by omega)).r8 (by omega)) ((hf.w_ (Or.inl (by decide))).w_ (Or.inl (by decide))))) (fun x b I2 J2 hx _ _ hF h2 => px_cnW (k := 2) (by omega) (by omega) (h2.w_ (Or.inl (by decide)) (by decide)) (fun _ I3 J3 => Q 0 0 I3 J3 R) (fun q I3 J3 hq hF3 hf => hE q _ J3 (by rw [eA, rb_k hx]; exact rb_e hq) (((hF.k8.r8 (by omega)).tr hF3.k8).r8 (by omega)) (hf.w_ (Or.inl (by decide)))) (fun y b3 I3 J3 hy _ _ hF3 h3 => hK _ b3 _ J3 (by rw [eA, rb_k hx, rb_k hy]) (((hF.k8.r8 (by omega)).tr hF3.k8).r8 (by omega)) (h3.w_ (Or.inl (by decide)) (by decide)) (RcO.two (Or.inl rfl) ?_ rd_eq)))⟩, fun c => absurd c (by decide)⟩
    rw [rd_k (by omega), hF3.i (by intro q; exact absurd q.1 (by decide)), rd_eq]
  · rw [show I 102 w = 2 from hk]
    exact ⟨v0, fun _ => ⟨fun _ => ⟨fun _ => px_r90 (Or.inl rfl) hw hm h hc hE hK, fun c => absurd rfl c⟩, fun c => absurd c (by decide)⟩, fun c => absurd c (by decide)⟩
  · rw [show I 102 w = 3 from hk]
    exact ⟨v0, fun _ => ⟨fun _ => ⟨fun c => absurd c (by decide), fun _ => ⟨fun c => absurd rfl c, fun _ => px_r90 (Or.inr rfl) hw hm h hc hE hK⟩⟩, fun c => absurd c (by decide)⟩, fun c => absurd c (by decide)⟩
  · rw [show I 102 w = 4 from hk]
    have eA : dyA T e N m 13 a = rb (tkN T e 1 9 a) fun x b => .ok ((13, x, 0, 0), b) := rfl
    exact ⟨v0, fun _ => ⟨fun _ => ⟨fun c => absurd c (by decide), fun _ => ⟨fun _ => ⟨fun c => absurd rfl c, fun _ => px_cnW (k := 1) (by omega) (by omega) h (fun _ I3 J3 => Q 0 0 I3 J3 R) (fun q I2 J2 hq hF hf => hE q _ J2 (by rw [eA]; exact rb_e hq) (hF.k8.r8 (by omega)) (hf.w_ (Or.inl (by decide)))) (fun x b I2 J2 hx _ _ hF h2 => hK _ b _ J2 (by rw [eA, rb_k hx]) (hF.k8.r8 (by omega)) (h2.w_ (Or.inl (by decide)) (by decide)) (RcO.one (Or.inl rfl) rd_eq))⟩, fun c => absurd c (by decide)⟩⟩, fun c => absurd c (by decide)⟩, fun c => absurd c (by decide)⟩
  · rw [show I 102 w = 5 from hk]
    exact ⟨v0, fun _ => ⟨fun _ => ⟨fun c => absurd c (by decide), fun _ => ⟨fun _ => ⟨fun _ => ⟨fun _ => ⟨fun _ => hK (14, 0, 0, 0) a I J rfl FrW.rf h (RcO.none (Or.inl rfl)), fun c => absurd c (by decide)⟩, fun c => absurd c (by decide)⟩, fun c => absurd c (by decide)⟩, fun c => absurd c (by decide)⟩⟩, fun c => absurd c (by decide)⟩, fun c => absurd c (by decide)⟩
  · rw [show I 102 w = 6 from hk]
    exact ⟨v0, fun _ => ⟨fun _ => ⟨fun c => absurd c (by decide), fun _ => ⟨fun _ => ⟨fun _ => ⟨fun _ => ⟨fun c => absurd rfl c, fun _ => px_rtest hw hm h hE hK⟩, fun c => absurd c (by decide)⟩, fun c => absurd c (by decide)⟩, fun c => absurd c (by decide)⟩⟩, fun c => absurd c (by decide)⟩, fun c => absurd c (by decide)⟩
  · rw [show I 102 w = 7 from hk]
    have eA : dyA T e N m 19 a = rb (tkN T e 1 99 a) fun x b => .ok ((19, x, 0, 0), b) := rfl
    exact ⟨v0, fun _ => ⟨fun _ => ⟨fun c => absurd c (by decide), fun _ => ⟨fun _ => ⟨fun _ => ⟨fun c => absurd rfl c, fun _ => px_cnW (k := 1) (by omega) (by omega) h (fun _ I3 J3 => Q 0 0 I3 J3 R) (fun q I2 J2 hq hF hf => hE q _ J2 (by rw [eA]; exact rb_e hq) (hF.k8.r8 (by omega)) (hf.w_ (Or.inl (by decide)))) (fun x b I2 J2 hx _ _ hF h2 => hK _ b _ J2 (by rw [eA, rb_k hx]) (hF.k8.r8 (by omega)) (h2.w_ (Or.inl (by decide)) (by decide)) (RcO.one (Or.inr rfl) rd_eq))⟩, fun c => absurd c (by decide)⟩, fun c => absurd c (by decide)⟩⟩, fun c => absurd c (by decide)⟩, fun c => absurd c (by decide)⟩
  · rw [show I 102 w = 8 from hk]
    exact ⟨v0, fun _ => ⟨fun _ => ⟨fun c => absurd c (by decide), fun _ => ⟨fun _ => ⟨fun _ => ⟨fun _ => ⟨fun _ => hK (21, 0, 0, 0) a I J rfl FrW.rf h (RcO.none (Or.inr rfl)), fun c => absurd c (by decide)⟩, fun c => absurd c (by decide)⟩, fun c => absurd c (by decide)⟩, fun c => absurd c (by decide)⟩⟩, fun c => absurd c (by decide)⟩, fun c => absurd c (by decide)⟩
end RDC
