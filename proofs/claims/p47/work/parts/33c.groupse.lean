section PT4x3
theorem fpt_i {n : Nat} {ph : Bool} {ci k kd of : Nat} {st : List Value} {I0 I : Im} {J : Jm} {R : Rm} (hc : Nat.blt ci 100 = true) (hS : SI I0 I) {K K' : List Value → Im → Jm → Rm → Prop} (hK : ∀ r I J R, SI I0 I → K r I J R → K' r I J R) (h : fpt n ph ci k kd of st I J R K) : fpt n ph ci k kd of st I J R K' := by
  have hc2 : ci < 100 := Nat.le_of_ble_eq_true hc
  rcases kd with _ | _ | _ | _ | _ | kd
  · exact sRI_m (fun o x r => cond_g (fun b => hK _ _ _ _ (hS.u (by rw [isO_k b]; omega)))) h
  · exact sRI_m (fun o x r => cond_g (fun b => and_m (hK _ _ _ _ (hS.u (by rw [isO_k b]; omega))))) h
  · exact sRL_m (fun o x r => cond_m (hK _ _ _ _ hS) id) h
  · exact sRR_m (fun o x r => cond_m (and_m (hK _ _ _ _ hS)) id) h
  · exact sRR_m (fun o x r => cond_m (cond_m id (cond_m (hK _ _ _ _ hS) id)) id) h
  · exact h
set_option maxHeartbeats 4000000 in
theorem stI_i {M : Mc} (hM : Mono M) {pl : List Nat} (hMp : Mki pl M) {ph isl : Bool} {L : Nat} {xs : Nat → Int32} {rk nend n : Nat} {I0 I : Im} {J : Jm} {R : Rm} (hS : SI I0 I) {Q Q' : Nat → Qt} (hQ : ∀ n x y R, Q n x y I J R → Q' n x y I J R) {K K' : Kt} (hK : ∀ pc n lv st I J R, SI I0 I → K pc n lv st I J R → K' pc n lv st I J R) {pc : Nat} {ax : List Nat} {ks : List Int32} {lz : Int64} {lv : Lv} {st : List Value} (i : Jvm.ClassFile.Instr) (hk : noiE pl i ax = true) (h : stI M ph isl L xs rk nend Q K pc ax ks lz n lv st I J R i) : stI M ph isl L xs rk nend Q' K' pc ax ks lz n lv st I J R i := by
  have k0 : ∀ {pc n lv st R}, K pc n lv st I J R → K' pc n lv st I J R := fun h => hK _ _ _ _ _ _ _ hS h
  cases i with
  | iconst _ =>
    exact k0 h
  | bipush _ =>
    exact k0 h
  | sipush _ =>
    exact k0 h
  | ldc _ =>
    exact k0 h
  | ldc_w _ =>
    exact k0 h
  | ldc2_w _ =>
    exact k0 h
  | lconst _ =>
    exact k0 h
  | goto _ =>
    exact k0 h
  | iload_n _ =>
    exact lI_m (fun x => k0) h
  | iload _ =>
    exact lI_m (fun x => k0) h
  | lload_n _ =>
    exact lL_m (fun x => k0) h
  | lload _ =>
    exact lL_m (fun x => k0) h
  | aload_n _ =>
    exact lR_m (fun x => k0) h
  | aload _ =>
    exact lR_m (fun x => k0) h
  | istore_n _ =>
    exact sI_m (fun x r => k0) h
  | istore _ =>
    exact sI_m (fun x r => k0) h
  | lstore_n _ =>
    exact sL_m (fun x r => k0) h
  | lstore _ =>
    exact sL_m (fun x r => k0) h
  | astore_n _ =>
    exact sR_m (fun x r => k0) h
  | astore _ =>
    exact sR_m (fun x r => k0) h
  | iinc _ _ =>
    exact lI_m (fun x => k0) h
  | iadd =>
    exact sII_m (fun x y r => k0) h
  | isub =>
    exact sII_m (fun x y r => k0) h
  | imul =>
    exact sII_m (fun x y r => k0) h
  | iand =>
    exact sII_m (fun x y r => k0) h
  | ior =>
    exact sII_m (fun x y r => k0) h
  | ixor =>
    exact sII_m (fun x y r => k0) h
  | ishl =>
    exact sII_m (fun x y r => k0) h
  | ishr =>
    exact sII_m (fun x y r => k0) h
  | iushr =>
    exact sII_m (fun x y r => k0) h
  | idiv =>
    exact sII_m (fun x y r => and_m k0) h
  | irem =>
    exact sII_m (fun x y r => and_m k0) h
  | ladd =>
    exact sLL_m (fun x y r => k0) h
  | lsub =>
    exact sLL_m (fun x y r => k0) h
  | lmul =>
    exact sLL_m (fun x y r => k0) h
  | land =>
    exact sLL_m (fun x y r => k0) h
  | lor =>
    exact sLL_m (fun x y r => k0) h
  | lcmp =>
    exact sLL_m (fun x y r => k0) h
  | ldiv =>
    exact sLL_m (fun x y r => and_m k0) h
  | lrem =>
    exact sLL_m (fun x y r => and_m k0) h
  | lneg =>
    exact sL_m (fun x r => k0) h
  | l2i =>
    exact sL_m (fun x r => k0) h
  | pop2 =>
    exact sL_m (fun x r => k0) h
  | lshl =>
    exact sLI_m (fun x y r => k0) h
  | i2l =>
    exact sI_m (fun x r => k0) h
  | i2b =>
    exact sI_m (fun x r => k0) h
  | i2s =>
    exact sI_m (fun x r => k0) h
  | dup =>
    unfold stI at h ⊢
    dsimp only at h ⊢
    split at h
    · exact k0 h
    · exact k0 h
    · exact h.elim
  | pop =>
    unfold stI at h ⊢
    dsimp only at h ⊢
    split at h
    · exact k0 h
    · exact k0 h
    · exact h.elim
  | dup2 =>
    unfold stI at h ⊢
    dsimp only at h ⊢
    split at h
    · exact k0 h
    · exact h.elim
  | ifCond _ _ =>
    exact sI_m (fun x r => icz_m k0 k0) h
  | if_icmp _ _ =>
    exact sII_m (fun x y r => icc_m k0 k0) h
  | tableswitch _ _ _ _ =>
    exact sI_m (fun x r => swT_m (fun t => k0) k0 _ _ _) h
  | lookupswitch _ _ =>
    exact sI_m (fun x r => swT_m (fun t => k0) k0 _ _ _) h
  | getfield _ =>
    unfold stI at h ⊢
    dsimp only at h ⊢
    split at h
    · exact fgt_m (fun r => k0) h
    · exact h.elim
  | putfield _ =>
    unfold stI at h ⊢
    dsimp only at h ⊢
    split at h
    · exact fpt_i hk hS (fun r I J R q => hK _ _ _ _ _ _ _ q) h
    · exact h.elim
  | iaload =>
    exact sRI_m (fun a x r => cond_m (and_m k0) (cond_m (and_m k0) id)) h
  | baload =>
    exact sRI_m (fun a x r => cond_m (and_m k0) id) h
  | laload =>
    exact sRI_m (fun a x r => cond_m (and_m k0) id) h
  | aaload =>
    unfold stI at h ⊢
    dsimp only at h ⊢
    split at h
    · exact sRI_m (fun a x r => cond_m (and_m (and_m k0)) id) h
    · exact h.elim
  | iastore =>
    cases hk
  | bastore =>
    exact sRII_m (fun a i x r => cond_g (fun b => and_m (hK _ _ _ _ _ _ _ (hS.u (by rw [isA_k b]; omega))))) h
  | lastore =>
    exact sRIL_m (fun a i x r => cond_m (and_m (hK _ _ _ _ _ _ _ hS)) id) h
  | aastore =>
    unfold stI at h ⊢
    dsimp only at h ⊢
    split at h
    · exact sRIR_m (fun a i x r => cond_m (and_m k0) id) h
    · exact h.elim
  | arraylength =>
    exact sR_m (fun a r => cond_m k0 (cond_m k0 (cond_m k0 id))) h
  | new _ =>
    cases hk
  | newarray _ =>
    cases hk
  | anewarray _ =>
    cases hk
  | invokevirtual _ =>
    unfold stI at h ⊢
    dsimp only at h ⊢
    split at h
    · exact cond_m (cal_i hM hMp hS hK hk) id h
    · exact h.elim
  | invokespecial _ =>
    unfold stI at h ⊢
    dsimp only at h ⊢
    split at h
    · exact cond_m (cal_i hM hMp hS hK hk) id h
    · exact sR_m (fun a r => cond_m k0 id) h
    · exact h.elim
  | invokestatic _ =>
    unfold stI at h ⊢
    dsimp only at h ⊢
    split at h
    · exact cond_m (cal_i hM hMp hS hK hk) id h
    · try dsimp only at h ⊢
      split at h
      · exact Bool.noConfusion (show false = true from hk)
      · exact sCpy_m (fun a sp a1 dp n r => cond_m (and_m (hK _ _ _ _ _ _ _ hS)) id) h
      · exact sII_m (fun x y r => cond_m k0 id) h
      · exact sII_m (fun x y r => cond_m k0 id) h
      · exact sL_m (fun x r => cond_m k0 id) h
      · exact h.elim
    · exact h.elim
  | return_ =>
    refine cond_m (fun h => ?_) id h
    try dsimp only at h ⊢
    split at h
    · exact hQ _ _ _ _ h
    · exact h.elim
  | lreturn =>
    refine cond_m (fun h => ?_) id h
    try dsimp only at h ⊢
    split at h
    · exact hQ _ _ _ _ h
    · exact h.elim
  | ireturn =>
    refine cond_m (fun h => ?_) (cond_m (fun h => ?_) id) h
    · try dsimp only at h ⊢
      split at h
      · exact hQ _ _ _ _ h
      · exact h.elim
    · try dsimp only at h ⊢
      split at h
      · exact ⟨h.1, hQ _ _ _ _ h.2⟩
      · exact h.elim
  | _ => exact h.elim
theorem AW_i {M : Mc} (hM : Mono M) {pl : List Nat} (hMp : Mki pl M) {ph isl : Bool} {L : Nat} {xs : Nat → Int32} {rk nend : Nat} {code : List En} (hk : ∀ e ∈ code, noiE pl e.2.1 e.2.2.2.1 = true) {Q : Nat → Qt} {pc n : Nat} {lv : Lv} {st : List Value} {I : Im} {J : Jm} {R : Rm} (h : AW M ph isl L xs rk nend code Q pc n lv st I J R) : AW M ph isl L xs rk nend code (fun n' x y I' J' R' => SI I I' ∧ Q n' x y I' J' R') pc n lv st I J R := by
  intro P hP
  refine h (fun pc n' lv st I' J' R' => SI I I' → P pc n' lv st I' J' R') ⟨fun e he n' lv st I' J' R' hs h1 => ?_, fun pc n' ks lv st I' J' R' q h1 => hP.2 _ _ ks _ _ _ _ _ (q h1)⟩ SI.rf
  exact hP.1 e he _ lv st _ _ _ (stI_i hM hMp h1 (fun n x y R q => ⟨h1, q⟩) (fun pc n lv st I J R z q => q z) e.2.1 (hk e he) hs)
noncomputable def NiT (pl : List Nat) : Prop := ∀ mi, pl.elem mi = true → Nat.beq mi mReader = false ∧ (mQ mi).1.all (fun e => noiE pl e.2.1 e.2.2.2.1) = true
theorem NiT.of {pl : List Nat} (h : pl.all (fun mi => !Nat.beq mi mReader && (mQ mi).1.all (fun e => noiE pl e.2.1 e.2.2.2.1)) = true) : NiT pl := by
  intro mi hm
  have h1 := List.all_eq_true.mp h mi (List.elem_iff.mp hm)
  simp only [Bool.and_eq_true, Bool.not_eq_true'] at h1
  exact h1
theorem AM_i {pl : List Nat} (hp : NiT pl) : ∀ d, Mki pl (AM d) := by
  intro d
  induction d with
  | zero => intro mi n as I J R Q hd h; exact h.elim
  | succ d ih =>
    intro mi n as I J R Q hd h
    obtain ⟨c1, c2⟩ := hp mi hd
    unfold AM at h ⊢
    rw [c1] at h ⊢
    exact ⟨h.1, AW_m (AM_m d) (fun n x y I' J' R' q => ⟨q.2.1, q.2.2.1, q.1, q.2.2.2⟩) (AW_i (AM_m d) ih (List.all_eq_true.mp c2) h.2)⟩
end PT4x3
section PT4x4
/-! ===== Integer.bitCount of a number that is not below 0 ===== -/
theorem nI_and (a b : Nat) : nI a &&& nI b = nI (a &&& b) := by
  apply Int32.toBitVec_inj.1
  show BitVec.ofNat 32 a &&& BitVec.ofNat 32 b = BitVec.ofNat 32 (a &&& b)
  apply BitVec.eq_of_getLsbD_eq
  intro i hi
  simp [hi]
theorem an_b (a m : Nat) : a &&& m = (a % 256 &&& m % 256) + 256 * (a / 256 &&& m / 256) := by
  have h1 : (a &&& m) % 2 ^ 8 = (a % 2 ^ 8) &&& (m % 2 ^ 8) := Nat.and_mod_two_pow
  have h2 : (a &&& m) / 2 ^ 8 = (a / 2 ^ 8) &&& (m / 2 ^ 8) := Nat.and_div_two_pow
  rw [show (2 : Nat) ^ 8 = 256 from rfl] at h1 h2
  rw [← h1, ← h2]
  omega
theorem an_2 {b m : Nat} (A M : Nat) (hb : b < 256) (hm : m < 256) : (b + 256 * A) &&& (m + 256 * M) = (b &&& m) + 256 * (A &&& M) := by
  rw [an_b, show (b + 256 * A) % 256 = b by omega, show (m + 256 * M) % 256 = m by omega, show (b + 256 * A) / 256 = A by omega, show (m + 256 * M) / 256 = M by omega]
/-- four bytes -/
noncomputable def n4 (b0 b1 b2 b3 : Nat) : Nat := b0 + 256 * (b1 + 256 * (b2 + 256 * b3))
theorem an_4 {b0 b1 b2 b3 m : Nat} (h0 : b0 < 256) (h1 : b1 < 256) (h2 : b2 < 256) (hm : m < 256) : n4 b0 b1 b2 b3 &&& n4 m m m m = n4 (b0 &&& m) (b1 &&& m) (b2 &&& m) (b3 &&& m) := by
  unfold n4
  rw [an_2 _ _ h0 hm, an_2 _ _ h1 hm, an_2 _ _ h2 hm]
/-- bits of a byte, the steps of the count on it -/
noncomputable def bp (b : Nat) : Nat := b % 2 + b / 2 % 2 + b / 4 % 2 + b / 8 % 2 + b / 16 % 2 + b / 32 % 2 + b / 64 % 2 + b / 128 % 2
noncomputable def by1 (b : Nat) : Nat := b - (b / 2 &&& 85)
noncomputable def bz1 (b : Nat) : Nat := (by1 b &&& 51) + (by1 b / 4 &&& 51)
set_option maxRecDepth 100000 in
theorem bl1 : ∀ b, b < 256 → (b / 2 &&& 85) ≤ b ∧ ∀ c, c < 2 → (b / 2 + 128 * c) &&& 85 = b / 2 &&& 85 := by decide +kernel
set_option maxRecDepth 100000 in
theorem bl2 : ∀ b, b < 256 → by1 b < 256 ∧ ∀ c, c < 4 → (by1 b / 4 + 64 * c) &&& 51 = by1 b / 4 &&& 51 := by decide +kernel
set_option maxRecDepth 100000 in
theorem bl3 : ∀ b, b < 256 → bz1 b < 128 ∧ bz1 b % 16 < 5 ∧ bz1 b / 16 < 5 ∧ bp b ≤ 8 ∧ ∀ c, c < 5 → (bz1 b + (bz1 b / 16 + 16 * c)) &&& 15 = bp b := by decide +kernel
theorem sA {b0 b1 b2 b3 : Nat} (h0 : b0 < 256) (h1 : b1 < 256) (h2 : b2 < 256) (h3 : b3 < 256) : (n4 b0 b1 b2 b3 / 2 &&& 1431655765) ≤ n4 b0 b1 b2 b3 ∧ n4 b0 b1 b2 b3 - (n4 b0 b1 b2 b3 / 2 &&& 1431655765) = n4 (by1 b0) (by1 b1) (by1 b2) (by1 b3) := by
  have e : n4 b0 b1 b2 b3 / 2 = n4 (b0 / 2 + 128 * (b1 % 2)) (b1 / 2 + 128 * (b2 % 2)) (b2 / 2 + 128 * (b3 % 2)) (b3 / 2 + 128 * 0) := by unfold n4; omega
  have k0 := bl1 b0 h0
  have k1 := bl1 b1 h1
  have k2 := bl1 b2 h2
  have k3 := bl1 b3 h3
  rw [e, show (1431655765 : Nat) = n4 85 85 85 85 from rfl, an_4 (by omega) (by omega) (by omega) (by decide), k0.2 _ (by omega), k1.2 _ (by omega), k2.2 _ (by omega), k3.2 _ (by decide)]
  have q0 := k0.1
  have q1 := k1.1
  have q2 := k2.1
  have q3 := k3.1
  clear k0 k1 k2 k3 e
  unfold n4 by1
  omega
theorem sB {b0 b1 b2 b3 : Nat} (h0 : b0 < 256) (h1 : b1 < 256) (h2 : b2 < 256) (h3 : b3 < 256) : (n4 (by1 b0) (by1 b1) (by1 b2) (by1 b3) &&& 858993459) + (n4 (by1 b0) (by1 b1) (by1 b2) (by1 b3) / 4 &&& 858993459) = n4 (bz1 b0) (bz1 b1) (bz1 b2) (bz1 b3) := by
  have k0 := bl2 b0 h0
  have k1 := bl2 b1 h1
  have k2 := bl2 b2 h2
  have k3 := bl2 b3 h3
  have e : n4 (by1 b0) (by1 b1) (by1 b2) (by1 b3) / 4 = n4 (by1 b0 / 4 + 64 * (by1 b1 % 4)) (by1 b1 / 4 + 64 * (by1 b2 % 4)) (by1 b2 / 4 + 64 * (by1 b3 % 4)) (by1 b3 / 4 + 64 * 0) := by
    have q0 := k0.1
    have q1 := k1.1
    have q2 := k2.1
    have q3 := k3.1
    clear k0 k1 k2 k3
    unfold n4
    omega
  rw [e, show (858993459 : Nat) = n4 51 51 51 51 from rfl, an_4 k0.1 k1.1 k2.1 (by decide)]
  have z0 : by1 b0 / 4 + 64 * (by1 b1 % 4) < 256 := by have := k0.1; omega
  have z1 : by1 b1 / 4 + 64 * (by1 b2 % 4) < 256 := by have := k1.1; omega
  have z2 : by1 b2 / 4 + 64 * (by1 b3 % 4) < 256 := by have := k2.1; omega
  rw [an_4 z0 z1 z2 (by decide), k0.2 _ (by omega), k1.2 _ (by omega), k2.2 _ (by omega), k3.2 _ (by decide)]
  clear k0 k1 k2 k3 e z0 z1 z2
  unfold n4 bz1
  omega
theorem sC {b0 b1 b2 b3 : Nat} (h0 : b0 < 256) (h1 : b1 < 256) (h2 : b2 < 256) (h3 : b3 < 256) : (n4 (bz1 b0) (bz1 b1) (bz1 b2) (bz1 b3) + n4 (bz1 b0) (bz1 b1) (bz1 b2) (bz1 b3) / 16) &&& 252645135 = n4 (bp b0) (bp b1) (bp b2) (bp b3) := by
  have k0 := bl3 b0 h0
  have k1 := bl3 b1 h1
  have k2 := bl3 b2 h2
  have k3 := bl3 b3 h3
  have e : n4 (bz1 b0) (bz1 b1) (bz1 b2) (bz1 b3) + n4 (bz1 b0) (bz1 b1) (bz1 b2) (bz1 b3) / 16 = n4 (bz1 b0 + (bz1 b0 / 16 + 16 * (bz1 b1 % 16))) (bz1 b1 + (bz1 b1 / 16 + 16 * (bz1 b2 % 16))) (bz1 b2 + (bz1 b2 / 16 + 16 * (bz1 b3 % 16))) (bz1 b3 + (bz1 b3 / 16 + 16 * 0)) := by
    have q0 := k0.1
    have q1 := k1.1
    have q2 := k2.1
    have q3 := k3.1
    clear k0 k1 k2 k3
    unfold n4
    omega
  have z0 : bz1 b0 + (bz1 b0 / 16 + 16 * (bz1 b1 % 16)) < 256 := by have := k0.1; have := k0.2.2.1; have := k1.2.1; omega
  have z1 : bz1 b1 + (bz1 b1 / 16 + 16 * (bz1 b2 % 16)) < 256 := by have := k1.1; have := k1.2.2.1; have := k2.2.1; omega
  have z2 : bz1 b2 + (bz1 b2 / 16 + 16 * (bz1 b3 % 16)) < 256 := by have := k2.1; have := k2.2.2.1; have := k3.2.1; omega
  rw [e, show (252645135 : Nat) = n4 15 15 15 15 from rfl, an_4 z0 z1 z2 (by decide), k0.2.2.2.2 _ k1.2.1, k1.2.2.2.2 _ k2.2.1, k2.2.2.2.2 _ k3.2.1, k3.2.2.2.2 _ (by decide)]
theorem sD {p0 p1 p2 p3 : Nat} (h0 : p0 ≤ 8) (h1 : p1 ≤ 8) (h2 : p2 ≤ 8) (h3 : p3 ≤ 8) : (n4 p0 p1 p2 p3 + n4 p0 p1 p2 p3 / 256 + (n4 p0 p1 p2 p3 + n4 p0 p1 p2 p3 / 256) / 65536) % 64 = p0 + p1 + p2 + p3 := by
  have e1 : n4 p0 p1 p2 p3 / 256 = p1 + 256 * (p2 + 256 * p3) := by unfold n4; omega
  have e2 : (n4 p0 p1 p2 p3 + (p1 + 256 * (p2 + 256 * p3))) / 65536 = p2 + p3 + 256 * p3 := by
    have e3 : n4 p0 p1 p2 p3 + (p1 + 256 * (p2 + 256 * p3)) = ((p0 + p1) + 256 * (p1 + p2)) + 65536 * (p2 + p3 + 256 * p3) := by unfold n4; omega
    rw [e3]
    have e4 : (p0 + p1) + 256 * (p1 + p2) < 65536 := by omega
    omega
  rw [e1, e2]
  unfold n4
  omega
/-- the JDK's steps -/
noncomputable def bcA (v : Int32) : Int32 := v - ((Int32.toUInt32 v >>> (Int32.toUInt32 1 &&& Int32.toUInt32 31)).toInt32 &&& 1431655765)
noncomputable def bcB (v : Int32) : Int32 := (v &&& 858993459) + ((Int32.toUInt32 v >>> (Int32.toUInt32 2 &&& Int32.toUInt32 31)).toInt32 &&& 858993459)
noncomputable def bcC (v : Int32) : Int32 := (v + (Int32.toUInt32 v >>> (Int32.toUInt32 4 &&& Int32.toUInt32 31)).toInt32) &&& 252645135
noncomputable def bcD (v : Int32) : Int32 := v + (Int32.toUInt32 v >>> (Int32.toUInt32 8 &&& Int32.toUInt32 31)).toInt32
noncomputable def bcE (v : Int32) : Int32 := v + (Int32.toUInt32 v >>> (Int32.toUInt32 16 &&& Int32.toUInt32 31)).toInt32
theorem bc_nI {b0 b1 b2 b3 : Nat} (h0 : b0 < 256) (h1 : b1 < 256) (h2 : b2 < 256) (h3 : b3 < 256) : bcE (bcD (bcC (bcB (bcA (nI (n4 b0 b1 b2 b3)))))) &&& 63 = nI (bp b0 + bp b1 + bp b2 + bp b3) := by
  have lt : ∀ {a b c d : Nat}, a < 256 → b < 256 → c < 256 → d < 256 → n4 a b c d < 2 ^ 32 := fun ha hb hc hd => by unfold n4; omega
  have eA : bcA (nI (n4 b0 b1 b2 b3)) = nI (n4 (by1 b0) (by1 b1) (by1 b2) (by1 b3)) := by
    unfold bcA
    rw [pk_ushrN (lt h0 h1 h2 h3) 1 1 (by decide), show (1431655765 : Int32) = nI 1431655765 from rfl, nI_and, show (2 : Nat) ^ 1 = 2 from rfl, pk_sub (sA h0 h1 h2 h3).1, (sA h0 h1 h2 h3).2]
  have y0 := (bl2 b0 h0).1
  have y1 := (bl2 b1 h1).1
  have y2 := (bl2 b2 h2).1
  have y3 := (bl2 b3 h3).1
  have eB : bcB (nI (n4 (by1 b0) (by1 b1) (by1 b2) (by1 b3))) = nI (n4 (bz1 b0) (bz1 b1) (bz1 b2) (bz1 b3)) := by
    unfold bcB
    rw [pk_ushrN (lt y0 y1 y2 y3) 2 2 (by decide), show (858993459 : Int32) = nI 858993459 from rfl, nI_and, nI_and, nI_add, show (2 : Nat) ^ 2 = 4 from rfl, sB h0 h1 h2 h3]
  have z0 := bl3 b0 h0
  have z1 := bl3 b1 h1
  have z2 := bl3 b2 h2
  have z3 := bl3 b3 h3
  have eC : bcC (nI (n4 (bz1 b0) (bz1 b1) (bz1 b2) (bz1 b3))) = nI (n4 (bp b0) (bp b1) (bp b2) (bp b3)) := by
    unfold bcC
    rw [pk_ushrN (lt (by have := z0.1; omega) (by have := z1.1; omega) (by have := z2.1; omega) (by have := z3.1; omega)) 4 4 (by decide), show (252645135 : Int32) = nI 252645135 from rfl, nI_add, nI_and, show (2 : Nat) ^ 4 = 16 from rfl, sC h0 h1 h2 h3]
  have p0 := z0.2.2.2.1
  have p1 := z1.2.2.2.1
  have p2 := z2.2.2.2.1
  have p3 := z3.2.2.2.1
  have l3 : n4 (bp b0) (bp b1) (bp b2) (bp b3) < 2 ^ 32 := lt (by omega) (by omega) (by omega) (by omega)
  have l4 : n4 (bp b0) (bp b1) (bp b2) (bp b3) + n4 (bp b0) (bp b1) (bp b2) (bp b3) / 256 < 2 ^ 32 := by unfold n4; omega
  have l5 : n4 (bp b0) (bp b1) (bp b2) (bp b3) + n4 (bp b0) (bp b1) (bp b2) (bp b3) / 256 + (n4 (bp b0) (bp b1) (bp b2) (bp b3) + n4 (bp b0) (bp b1) (bp b2) (bp b3) / 256) / 65536 < 2 ^ 32 := by unfold n4; omega
  rw [eA, eB, eC]
  unfold bcD bcE
  rw [pk_ushrN l3 8 8 (by decide), nI_add, show (2 : Nat) ^ 8 = 256 from rfl, pk_ushrN l4 16 16 (by decide), nI_add, show (2 : Nat) ^ 16 = 65536 from rfl, pk_andN l5 6 (by decide), show (2 : Nat) ^ 6 = 64 from rfl, sD p0 p1 p2 p3]
/-- the bits below k -/
noncomputable def pnN (n : Nat) : Nat → Nat
  | 0 => 0
  | k + 1 => pnN n k + n / 2 ^ k % 2
theorem pnN_8 (b A : Nat) (hb : b < 256) : pnN (b + 256 * A) 8 = bp b := by
  show 0 + (b + 256 * A) / 2 ^ 0 % 2 + (b + 256 * A) / 2 ^ 1 % 2 + (b + 256 * A) / 2 ^ 2 % 2 + (b + 256 * A) / 2 ^ 3 % 2 + (b + 256 * A) / 2 ^ 4 % 2 + (b + 256 * A) / 2 ^ 5 % 2 + (b + 256 * A) / 2 ^ 6 % 2 + (b + 256 * A) / 2 ^ 7 % 2 = bp b
  unfold bp
  omega
theorem pnN_s (b A : Nat) (hb : b < 256) : ∀ k, pnN (b + 256 * A) (8 + k) = bp b + pnN A k := by
  intro k
  induction k with
  | zero => exact pnN_8 b A hb
  | succ k ih =>
    show pnN (b + 256 * A) (8 + k) + (b + 256 * A) / 2 ^ (8 + k) % 2 = bp b + (pnN A k + A / 2 ^ k % 2)
    have e : (b + 256 * A) / 2 ^ (8 + k) = A / 2 ^ k := by
      rw [Nat.pow_add, ← Nat.div_div_eq_div_mul, show (b + 256 * A) / 2 ^ 8 = A by omega]
    rw [ih, e]
    omega
end PT4x4
