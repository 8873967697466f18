set_option maxHeartbeats 2000000 in
noncomputable def KRt (v1 : Int32) (I K : Im) : Prop := K 97 27 = I 97 27 ∧ Fr (pW v1.toInt) I K ∧ PMp I K ∧ K 102 (Int32.toNatClampNeg (v1 + 5)) = I 102 (Int32.toNatClampNeg (v1 + 5)) ∧ K 102 (Int32.toNatClampNeg (v1 + 1)) = I 102 (Int32.toNatClampNeg (v1 + 1))
theorem KRt.refl5 (v1 : Int32) (I : Im) : KRt v1 I I := ⟨rfl, Fr.refl _ _, PMp.refl I, rfl, rfl⟩
theorem KRt.call5 {v1 : Int32} {I K M : Im} (h : KRt v1 I K) (h1 : M 97 27 = K 97 27) (h2 : Fr pT K M) (h3 : PMp K M) : KRt v1 I M := ⟨h1.trans h.1, Fr.tr h.2.1 h2 (fun _ _ => trivial), PMp.tr h.2.2.1 h3, (h2.1 _ trivial).trans h.2.2.2.1, (h2.1 _ trivial).trans h.2.2.2.2⟩
theorem KRt.put5 {v1 i v : Int32} {I K : Im} {z : Int} (h : KRt v1 I K) (hv1 : 1350 ≤ v1.toInt ∧ v1.toInt ≤ 1611 ∧ (v1.toInt - 1350) % 9 = 0) (hi : i.toInt = v1.toInt + z) (hz : z = 6 ∨ z = 7) : KRt v1 I (uI K 102 (Int32.toNatClampNeg i) v) := by
  have e1 : ((v1 + 1) : Int32).toInt = (v1.toInt) + (1) := ti_add rfl rfl (by omega)
  have e5 : ((v1 + 5) : Int32).toInt = (v1.toInt) + (5) := ti_add rfl rfl (by omega)
  have t1 := tn_of e1 (by omega)
  have t5 := tn_of e5 (by omega)
  have t6 := tn_of hi (by omega)
  exact ⟨Eq.trans (rd_ne (show ¬ (97 : Nat) = 102 by decide)) h.1, Fr.w h.2.1 hi (by omega) (fun j hj hp => by unfold pW at hp; omega), PMp.o h.2.2.1 (show ¬ (97 : Nat) = 102 by decide), Eq.trans (rd_k (fun q => by omega)) h.2.2.2.1, Eq.trans (rd_k (fun q => by omega)) h.2.2.2.2⟩
theorem rt_leaf5 {d : Nat} {Q : Qt} {v1 a : Int32} {I K : Im} {J : Jm} {R : Rm} (hB0 : Bd K) (hR0 : RI R) (hv1 : 1350 ≤ v1.toInt ∧ v1.toInt ≤ 1611 ∧ (v1.toInt - 1350) % 9 = 0) (hK : KRt v1 I K) (hQ : ∀ (I2 : Im) (J2 : Jm), Bd I2 → KRt v1 I I2 → Q 0 0 I2 J2 R) : (AM (d + 5) 214 112 [.ref 97, .int a] K J R (fun x5 y5 I5 J5 R5 => (AM (d + 5) 216 112 [.ref 97, .int 0, .int 99] I5 J5 R (fun x6 y6 I6 J6 R6 => (vp_in (v1 + 6) 1620 ∧ Q 0 0 (uI I6 102 (Int32.toNatClampNeg (v1 + 6)) x6) J6 R))))) := by
  refine sp_X12_must hB0 hR0 (fun x1 y1 I1 J1 hB1 p1 => ?_)
  have k1 := KRt.call5 hK p1.1 p1.2.1 (PMp.mk p1.2.2.1 p1.2.2.2.1)
  clear p1
  refine sp_X12_count hB1 hR0 (fun x2 y2 I2 J2 hB2 p2 => ?_)
  have k2 := KRt.call5 k1 p2.1 p2.2.1 (PMp.mk p2.2.2.1 p2.2.2.2.1)
  have w2 := Or.imp (fun z => z.2) (fun z => And.intro z.1 z.2.1) p2.2.2.2.2
  clear p2
  have q0 : (0 : Int32).toInt = 0 := rfl
  have q9 : (99 : Int32).toInt = 99 := rfl
  have e6 : ((v1 + 6) : Int32).toInt = (v1.toInt) + (6) := ti_add rfl rfl (by omega)
  refine ⟨vp_of (a := (v1.toInt + 6)) e6 (by omega) (by omega), ?_⟩
  exact hQ _ _ (Bd.cnew hB2 (show ((v1 + 6) : Int32).toInt = (v1.toInt + 6) from e6) (show (x2 : Int32).toInt = x2.toInt from rfl) (by omega) (by omega) (by omega)) (KRt.put5 k2 hv1 e6 (Or.inl rfl))
theorem rt_signs5 {d : Nat} {Q : Qt} {v1 : Int32} {I K : Im} {J : Jm} {R : Rm} (hB0 : Bd K) (hR0 : RI R) (hv1 : 1350 ≤ v1.toInt ∧ v1.toInt ≤ 1611 ∧ (v1.toInt - 1350) % 9 = 0) (hK : KRt v1 I K) (hQ : ∀ (I2 : Im) (J2 : Jm), Bd I2 → KRt v1 I I2 → Q 0 0 I2 J2 R) : (AM (d + 5) 196 112 [.ref 97, .int 60] K J R (fun x4 y4 I4 J4 R4 => (x4 = 0 ∨ x4 = 1) → ((¬ x4 = (0 : Int32) → (AM (d + 5) 214 112 [.ref 97, .int 1] I4 J4 R (fun x5 y5 I5 J5 R5 => (AM (d + 5) 216 112 [.ref 97, .int 0, .int 99] I5 J5 R (fun x6 y6 I6 J6 R6 => (vp_in (v1 + 6) 1620 ∧ Q 0 0 (uI I6 102 (Int32.toNatClampNeg (v1 + 6)) x6) J6 R)))))) ∧ (x4 = (0 : Int32) → (AM (d + 5) 196 112 [.ref 97, .int 62] I4 J4 R (fun x7 y7 I7 J7 R7 => (x7 = 0 ∨ x7 = 1) → ((¬ x7 = (0 : Int32) → (AM (d + 5) 214 112 [.ref 97, .int 1] I7 J7 R (fun x8 y8 I8 J8 R8 => (AM (d + 5) 216 112 [.ref 97, .int 0, .int 99] I8 J8 R (fun x9 y9 I9 J9 R9 => (vp_in (v1 + 6) 1620 ∧ Q 0 0 (uI I9 102 (Int32.toNatClampNeg (v1 + 6)) x9) J9 R)))))) ∧ (x7 = (0 : Int32) → (AM (d + 5) 196 112 [.ref 97, .int 61] I7 J7 R (fun x10 y10 I10 J10 R10 => (x10 = 0 ∨ x10 = 1) → ((x10 = (0 : Int32) → (AM (d + 5) 214 112 [.ref 97, .int 0] I10 J10 R (fun x11 y11 I11 J11 R11 => (AM (d + 5) 216 112 [.ref 97, .int 0, .int 99] I11 J11 R (fun x12 y12 I12 J12 R12 => (vp_in (v1 + 6) 1620 ∧ Q 0 0 (uI I12 102 (Int32.toNatClampNeg (v1 + 6)) x12) J12 R)))))) ∧ (¬ x10 = (0 : Int32) → (AM (d + 5) 214 112 [.ref 97, .int 1] I10 J10 R (fun x13 y13 I13 J13 R13 => (AM (d + 5) 216 112 [.ref 97, .int 0, .int 99] I13 J13 R (fun x14 y14 I14 J14 R14 => (vp_in (v1 + 6) 1620 ∧ Q 0 0 (uI I14 102 (Int32.toNatClampNeg (v1 + 6)) x14) J14 R))))))))))))))))) := by
  refine sp_X12_isSign hB0 hR0 (fun x1 y1 I1 J1 hB1 p1 => ?_)
  have k1 := KRt.call5 hK p1.2.1 p1.2.2.2.2.1 (PMp.keep p1.1 p1.2.2.1 p1.2.2.2.1)
  clear p1
  intro o1
  refine ⟨fun _ => rt_leaf5 (Q := Q) hB1 hR0 hv1 k1 hQ, fun _ => ?_⟩
  refine sp_X12_isSign hB1 hR0 (fun x2 y2 I2 J2 hB2 p2 => ?_)
  have k2 := KRt.call5 k1 p2.2.1 p2.2.2.2.2.1 (PMp.keep p2.1 p2.2.2.1 p2.2.2.2.1)
  clear p2
  intro o2
  refine ⟨fun _ => rt_leaf5 (Q := Q) hB2 hR0 hv1 k2 hQ, fun _ => ?_⟩
  refine sp_X12_isSign hB2 hR0 (fun x3 y3 I3 J3 hB3 p3 => ?_)
  have k3 := KRt.call5 k2 p3.2.1 p3.2.2.2.2.1 (PMp.keep p3.1 p3.2.2.1 p3.2.2.2.1)
  clear p3
  intro o3
  exact ⟨fun _ => rt_leaf5 (Q := Q) hB3 hR0 hv1 k3 hQ, fun _ => rt_leaf5 (Q := Q) hB3 hR0 hv1 k3 hQ⟩
theorem rt_up5 {d : Nat} {Q : Qt} {v1 x1 : Int32} {K : Im} {J : Jm} {R : Rm} (hB0 : Bd K) (hR0 : RI R) (hv1 : 1350 ≤ v1.toInt ∧ v1.toInt ≤ 1611 ∧ (v1.toInt - 1350) % 9 = 0) (hQ : ∀ (I2 : Im) (J2 : Jm), Bd I2 → KRt v1 K I2 → Q 0 0 I2 J2 R) : (((0 : Int32) < (K 97 12) → Q 0 0 K J R) ∧ (¬ (0 : Int32) < (K 97 12) → ((¬ x1 = (0 : Int32) → ((¬ (K 97 14) = 3 → (vp_in (v1 + 7) 1620 ∧ (AM (d + 5) 196 112 [.ref 97, .int 60] (uI K 102 (Int32.toNatClampNeg (v1 + 7)) 0) J R (fun x4 y4 I4 J4 R4 => (x4 = 0 ∨ x4 = 1) → ((¬ x4 = (0 : Int32) → (AM (d + 5) 214 112 [.ref 97, .int 1] I4 J4 R (fun x5 y5 I5 J5 R5 => (AM (d + 5) 216 112 [.ref 97, .int 0, .int 99] I5 J5 R (fun x6 y6 I6 J6 R6 => (vp_in (v1 + 6) 1620 ∧ Q 0 0 (uI I6 102 (Int32.toNatClampNeg (v1 + 6)) x6) J6 R)))))) ∧ (x4 = (0 : Int32) → (AM (d + 5) 196 112 [.ref 97, .int 62] I4 J4 R (fun x7 y7 I7 J7 R7 => (x7 = 0 ∨ x7 = 1) → ((¬ x7 = (0 : Int32) → (AM (d + 5) 214 112 [.ref 97, .int 1] I7 J7 R (fun x8 y8 I8 J8 R8 => (AM (d + 5) 216 112 [.ref 97, .int 0, .int 99] I8 J8 R (fun x9 y9 I9 J9 R9 => (vp_in (v1 + 6) 1620 ∧ Q 0 0 (uI I9 102 (Int32.toNatClampNeg (v1 + 6)) x9) J9 R)))))) ∧ (x7 = (0 : Int32) → (AM (d + 5) 196 112 [.ref 97, .int 61] I7 J7 R (fun x10 y10 I10 J10 R10 => (x10 = 0 ∨ x10 = 1) → ((x10 = (0 : Int32) → (AM (d + 5) 214 112 [.ref 97, .int 0] I10 J10 R (fun x11 y11 I11 J11 R11 => (AM (d + 5) 216 112 [.ref 97, .int 0, .int 99] I11 J11 R (fun x12 y12 I12 J12 R12 => (vp_in (v1 + 6) 1620 ∧ Q 0 0 (uI I12 102 (Int32.toNatClampNeg (v1 + 6)) x12) J12 R)))))) ∧ (¬ x10 = (0 : Int32) → (AM (d + 5) 214 112 [.ref 97, .int 1] I10 J10 R (fun x13 y13 I13 J13 R13 => (AM (d + 5) 216 112 [.ref 97, .int 0, .int 99] I13 J13 R (fun x14 y14 I14 J14 R14 => (vp_in (v1 + 6) 1620 ∧ Q 0 0 (uI I14 102 (Int32.toNatClampNeg (v1 + 6)) x14) J14 R))))))))))))))))))) ∧ ((K 97 14) = 3 → (vp_in (v1 + 7) 1620 ∧ (AM (d + 5) 196 112 [.ref 97, .int 60] (uI K 102 (Int32.toNatClampNeg (v1 + 7)) (K 97 17)) J R (fun x4 y4 I4 J4 R4 => (x4 = 0 ∨ x4 = 1) → ((¬ x4 = (0 : Int32) → (AM (d + 5) 214 112 [.ref 97, .int 1] I4 J4 R (fun x5 y5 I5 J5 R5 => (AM (d + 5) 216 112 [.ref 97, .int 0, .int 99] I5 J5 R (fun x6 y6 I6 J6 R6 => (vp_in (v1 + 6) 1620 ∧ Q 0 0 (uI I6 102 (Int32.toNatClampNeg (v1 + 6)) x6) J6 R)))))) ∧ (x4 = (0 : Int32) → (AM (d + 5) 196 112 [.ref 97, .int 62] I4 J4 R (fun x7 y7 I7 J7 R7 => (x7 = 0 ∨ x7 = 1) → ((¬ x7 = (0 : Int32) → (AM (d + 5) 214 112 [.ref 97, .int 1] I7 J7 R (fun x8 y8 I8 J8 R8 => (AM (d + 5) 216 112 [.ref 97, .int 0, .int 99] I8 J8 R (fun x9 y9 I9 J9 R9 => (vp_in (v1 + 6) 1620 ∧ Q 0 0 (uI I9 102 (Int32.toNatClampNeg (v1 + 6)) x9) J9 R)))))) ∧ (x7 = (0 : Int32) → (AM (d + 5) 196 112 [.ref 97, .int 61] I7 J7 R (fun x10 y10 I10 J10 R10 => (x10 = 0 ∨ x10 = 1) → ((x10 = (0 : Int32) → (AM (d + 5) 214 112 [.ref 97, .int 0] I10 J10 R (fun x11 y11 I11 J11 R11 => (AM (d + 5) 216 112 [.ref 97, .int 0, .int 99] I11 J11 R (fun x12 y12 I12 J12 R12 => (vp_in (v1 + 6) 1620 ∧ Q 0 0 (uI I12 102 (Int32.toNatClampNeg (v1 + 6)) x12) J12 R)))))) ∧ (¬ x10 = (0 : Int32) → (AM (d + 5) 214 112 [.ref 97, .int 1] I10 J10 R (fun x13 y13 I13 J13 R13 => (AM (d + 5) 216 112 [.ref 97, .int 0, .int 99] I13 J13 R (fun x14 y14 I14 J14 R14 => (vp_in (v1 + 6) 1620 ∧ Q 0 0 (uI I14 102 (Int32.toNatClampNeg (v1 + 6)) x14) J14 R))))))))))))))))))))) ∧ (x1 = (0 : Int32) → Q 0 0 K J R)))) := by
  have e7 : ((v1 + 7) : Int32).toInt = (v1.toInt) + (7) := ti_add rfl rfl (by omega)
  have hp : vp_in (v1 + 7) 1620 := vp_of (a := (v1.toInt + 7)) e7 (by omega) (by omega)
  have z0 := hQ K J hB0 (KRt.refl5 v1 K)
  have hw : ∀ v : Int32, Bd (uI K 102 (Int32.toNatClampNeg (v1 + 7)) v) := fun v => Bd.cnew hB0 (show ((v1 + 7) : Int32).toInt = (v1.toInt + 7) from e7) (show (v : Int32).toInt = v.toInt from rfl) (by omega) (by omega) (by omega)
  have kw : ∀ v : Int32, KRt v1 K (uI K 102 (Int32.toNatClampNeg (v1 + 7)) v) := fun v => KRt.put5 (KRt.refl5 v1 K) hv1 e7 (Or.inr rfl)
  exact ⟨fun _ => z0, fun _ => ⟨fun _ => ⟨fun _ => ⟨hp, rt_signs5 (Q := Q) (hw _) hR0 hv1 (kw _) hQ⟩, fun _ => ⟨hp, rt_signs5 (Q := Q) (hw _) hR0 hv1 (kw _) hQ⟩⟩, fun _ => z0⟩⟩
theorem rt_mid5 {d : Nat} {Q : Qt} {v1 x1 : Int32} {I M : Im} {J : Jm} {R : Rm} (hB0 : Bd M) (hR0 : RI R) (hv1 : 1350 ≤ v1.toInt ∧ v1.toInt ≤ 1611 ∧ (v1.toInt - 1350) % 9 = 0) (hx : -1 ≤ x1.toInt ∧ x1.toInt ≤ 2) (g1 : M 97 27 = I 97 27) (g2 : Fr pT I M) (g3 : PMp I M) (hQ : ∀ (I2 : Im) (J2 : Jm), Bd I2 → (I2 97 27 = I 97 27 ∧ Fr (pW v1.toInt) I I2 ∧ PMp I I2 ∧ ((I2 97 12).toInt = 0 → ((I2 102 (v1 + 5).toNatClampNeg).toInt = 1 → 1 ≤ (I2 102 (v1 + 1).toNatClampNeg).toInt ∧ (I2 102 (v1 + 1).toNatClampNeg).toInt ≤ 30) ∧ (¬ (I2 102 (v1 + 5).toNatClampNeg).toInt = 1 → 0 ≤ (I2 102 (v1 + 1).toNatClampNeg).toInt ∧ (I2 102 (v1 + 1).toNatClampNeg).toInt < (I 102 0).toInt))) → Q 0 0 I2 J2 R) : (vp_in (v1 + 5) 1620 ∧ ((¬ x1 = 1 → (AM (d + 5) 227 112 [.ref 97, .int 0] (uI M 102 (Int32.toNatClampNeg (v1 + 5)) x1) J R (fun x3 y3 I3 J3 R3 => (vp_in (v1 + 1) 1620 ∧ (((0 : Int32) < ((uI I3 102 (Int32.toNatClampNeg (v1 + 1)) x3) 97 12) → Q 0 0 (uI I3 102 (Int32.toNatClampNeg (v1 + 1)) x3) J3 R) ∧ (¬ (0 : Int32) < ((uI I3 102 (Int32.toNatClampNeg (v1 + 1)) x3) 97 12) → ((¬ x1 = (0 : Int32) → ((¬ ((uI I3 102 (Int32.toNatClampNeg (v1 + 1)) x3) 97 14) = 3 → (vp_in (v1 + 7) 1620 ∧ (AM (d + 5) 196 112 [.ref 97, .int 60] (uI (uI I3 102 (Int32.toNatClampNeg (v1 + 1)) x3) 102 (Int32.toNatClampNeg (v1 + 7)) 0) J3 R (fun x4 y4 I4 J4 R4 => (x4 = 0 ∨ x4 = 1) → ((¬ x4 = (0 : Int32) → (AM (d + 5) 214 112 [.ref 97, .int 1] I4 J4 R (fun x5 y5 I5 J5 R5 => (AM (d + 5) 216 112 [.ref 97, .int 0, .int 99] I5 J5 R (fun x6 y6 I6 J6 R6 => (vp_in (v1 + 6) 1620 ∧ Q 0 0 (uI I6 102 (Int32.toNatClampNeg (v1 + 6)) x6) J6 R)))))) ∧ (x4 = (0 : Int32) → (AM (d + 5) 196 112 [.ref 97, .int 62] I4 J4 R (fun x7 y7 I7 J7 R7 => (x7 = 0 ∨ x7 = 1) → ((¬ x7 = (0 : Int32) → (AM (d + 5) 214 112 [.ref 97, .int 1] I7 J7 R (fun x8 y8 I8 J8 R8 => (AM (d + 5) 216 112 [.ref 97, .int 0, .int 99] I8 J8 R (fun x9 y9 I9 J9 R9 => (vp_in (v1 + 6) 1620 ∧ Q 0 0 (uI I9 102 (Int32.toNatClampNeg (v1 + 6)) x9) J9 R)))))) ∧ (x7 = (0 : Int32) → (AM (d + 5) 196 112 [.ref 97, .int 61] I7 J7 R (fun x10 y10 I10 J10 R10 => (x10 = 0 ∨ x10 = 1) → ((x10 = (0 : Int32) → (AM (d + 5) 214 112 [.ref 97, .int 0] I10 J10 R (fun x11 y11 I11 J11 R11 => (AM (d + 5) 216 112 [.ref 97, .int 0, .int 99] I11 J11 R (fun x12 y12 I12 J12 R12 => (vp_in (v1 + 6) 1620 ∧ Q 0 0 (uI I12 102 (Int32.toNatClampNeg (v1 + 6)) x12) J12 R)))))) ∧ (¬ x10 = (0 : Int32) → (AM (d + 5) 214 112 [.ref 97, .int 1] I10 J10 R (fun x13 y13 I13 J13 R13 => (AM (d + 5) 216 112 [.ref 97, .int 0, .int 99] I13 J13 R (fun x14 y14 I14 J14 R14 => (vp_in (v1 + 6) 1620 ∧ Q 0 0 (uI I14 102 (Int32.toNatClampNeg (v1 + 6)) x14) J14 R))))))))))))))))))) ∧ (((uI I3 102 (Int32.toNatClampNeg (v1 + 1)) x3) 97 14) = 3 → (vp_in (v1 + 7) 1620 ∧ (AM (d + 5) 196 112 [.ref 97, .int 60] (uI (uI I3 102 (Int32.toNatClampNeg (v1 + 1)) x3) 102 (Int32.toNatClampNeg (v1 + 7)) ((uI I3 102 (Int32.toNatClampNeg (v1 + 1)) x3) 97 17)) J3 R (fun x4 y4 I4 J4 R4 => (x4 = 0 ∨ x4 = 1) → ((¬ x4 = (0 : Int32) → (AM (d + 5) 214 112 [.ref 97, .int 1] I4 J4 R (fun x5 y5 I5 J5 R5 => (AM (d + 5) 216 112 [.ref 97, .int 0, .int 99] I5 J5 R (fun x6 y6 I6 J6 R6 => (vp_in (v1 + 6) 1620 ∧ Q 0 0 (uI I6 102 (Int32.toNatClampNeg (v1 + 6)) x6) J6 R)))))) ∧ (x4 = (0 : Int32) → (AM (d + 5) 196 112 [.ref 97, .int 62] I4 J4 R (fun x7 y7 I7 J7 R7 => (x7 = 0 ∨ x7 = 1) → ((¬ x7 = (0 : Int32) → (AM (d + 5) 214 112 [.ref 97, .int 1] I7 J7 R (fun x8 y8 I8 J8 R8 => (AM (d + 5) 216 112 [.ref 97, .int 0, .int 99] I8 J8 R (fun x9 y9 I9 J9 R9 => (vp_in (v1 + 6) 1620 ∧ Q 0 0 (uI I9 102 (Int32.toNatClampNeg (v1 + 6)) x9) J9 R)))))) ∧ (x7 = (0 : Int32) → (AM (d + 5) 196 112 [.ref 97, .int 61] I7 J7 R (fun x10 y10 I10 J10 R10 => (x10 = 0 ∨ x10 = 1) → ((x10 = (0 : Int32) → (AM (d + 5) 214 112 [.ref 97, .int 0] I10 J10 R (fun x11 y11 I11 J11 R11 => (AM (d + 5) 216 112 [.ref 97, .int 0, .int 99] I11 J11 R (fun x12 y12 I12 J12 R12 => (vp_in (v1 + 6) 1620 ∧ Q 0 0 (uI I12 102 (Int32.toNatClampNeg (v1 + 6)) x12) J12 R)))))) ∧ (¬ x10 = (0 : Int32) → (AM (d + 5) 214 112 [.ref 97, .int 1] I10 J10 R (fun x13 y13 I13 J13 R13 => (AM (d + 5) 216 112 [.ref 97, .int 0, .int 99] I13 J13 R (fun x14 y14 I14 J14 R14 => (vp_in (v1 + 6) 1620 ∧ Q 0 0 (uI I14 102 (Int32.toNatClampNeg (v1 + 6)) x14) J14 R))))))))))))))))))))) ∧ (x1 = (0 : Int32) → Q 0 0 (uI I3 102 (Int32.toNatClampNeg (v1 + 1)) x3) J3 R)))))))) ∧ (x1 = 1 → (AM (d + 5) 216 112 [.ref 97, .int 1, .int 30] (uI M 102 (Int32.toNatClampNeg (v1 + 5)) x1) J R (fun x3 y3 I3 J3 R3 => (vp_in (v1 + 1) 1620 ∧ (((0 : Int32) < ((uI I3 102 (Int32.toNatClampNeg (v1 + 1)) x3) 97 12) → Q 0 0 (uI I3 102 (Int32.toNatClampNeg (v1 + 1)) x3) J3 R) ∧ (¬ (0 : Int32) < ((uI I3 102 (Int32.toNatClampNeg (v1 + 1)) x3) 97 12) → ((¬ x1 = (0 : Int32) → ((¬ ((uI I3 102 (Int32.toNatClampNeg (v1 + 1)) x3) 97 14) = 3 → (vp_in (v1 + 7) 1620 ∧ (AM (d + 5) 196 112 [.ref 97, .int 60] (uI (uI I3 102 (Int32.toNatClampNeg (v1 + 1)) x3) 102 (Int32.toNatClampNeg (v1 + 7)) 0) J3 R (fun x4 y4 I4 J4 R4 => (x4 = 0 ∨ x4 = 1) → ((¬ x4 = (0 : Int32) → (AM (d + 5) 214 112 [.ref 97, .int 1] I4 J4 R (fun x5 y5 I5 J5 R5 => (AM (d + 5) 216 112 [.ref 97, .int 0, .int 99] I5 J5 R (fun x6 y6 I6 J6 R6 => (vp_in (v1 + 6) 1620 ∧ Q 0 0 (uI I6 102 (Int32.toNatClampNeg (v1 + 6)) x6) J6 R)))))) ∧ (x4 = (0 : Int32) → (AM (d + 5) 196 112 [.ref 97, .int 62] I4 J4 R (fun x7 y7 I7 J7 R7 => (x7 = 0 ∨ x7 = 1) → ((¬ x7 = (0 : Int32) → (AM (d + 5) 214 112 [.ref 97, .int 1] I7 J7 R (fun x8 y8 I8 J8 R8 => (AM (d + 5) 216 112 [.ref 97, .int 0, .int 99] I8 J8 R (fun x9 y9 I9 J9 R9 => (vp_in (v1 + 6) 1620 ∧ Q 0 0 (uI I9 102 (Int32.toNatClampNeg (v1 + 6)) x9) J9 R)))))) ∧ (x7 = (0 : Int32) → (AM (d + 5) 196 112 [.ref 97, .int 61] I7 J7 R (fun x10 y10 I10 J10 R10 => (x10 = 0 ∨ x10 = 1) → ((x10 = (0 : Int32) → (AM (d + 5) 214 112 [.ref 97, .int 0] I10 J10 R (fun x11 y11 I11 J11 R11 => (AM (d + 5) 216 112 [.ref 97, .int 0, .int 99] I11 J11 R (fun x12 y12 I12 J12 R12 => (vp_in (v1 + 6) 1620 ∧ Q 0 0 (uI I12 102 (Int32.toNatClampNeg (v1 + 6)) x12) J12 R)))))) ∧ (¬ x10 = (0 : Int32) → (AM (d + 5) 214 112 [.ref 97, .int 1] I10 J10 R (fun x13 y13 I13 J13 R13 => (AM (d + 5) 216 112 [.ref 97, .int 0, .int 99] I13 J13 R (fun x14 y14 I14 J14 R14 => (vp_in (v1 + 6) 1620 ∧ Q 0 0 (uI I14 102 (Int32.toNatClampNeg (v1 + 6)) x14) J14 R))))))))))))))))))) ∧ (((uI I3 102 (Int32.toNatClampNeg (v1 + 1)) x3) 97 14) = 3 → (vp_in (v1 + 7) 1620 ∧ (AM (d + 5) 196 112 [.ref 97, .int 60] (uI (uI I3 102 (Int32.toNatClampNeg (v1 + 1)) x3) 102 (Int32.toNatClampNeg (v1 + 7)) ((uI I3 102 (Int32.toNatClampNeg (v1 + 1)) x3) 97 17)) J3 R (fun x4 y4 I4 J4 R4 => (x4 = 0 ∨ x4 = 1) → ((¬ x4 = (0 : Int32) → (AM (d + 5) 214 112 [.ref 97, .int 1] I4 J4 R (fun x5 y5 I5 J5 R5 => (AM (d + 5) 216 112 [.ref 97, .int 0, .int 99] I5 J5 R (fun x6 y6 I6 J6 R6 => (vp_in (v1 + 6) 1620 ∧ Q 0 0 (uI I6 102 (Int32.toNatClampNeg (v1 + 6)) x6) J6 R)))))) ∧ (x4 = (0 : Int32) → (AM (d + 5) 196 112 [.ref 97, .int 62] I4 J4 R (fun x7 y7 I7 J7 R7 => (x7 = 0 ∨ x7 = 1) → ((¬ x7 = (0 : Int32) → (AM (d + 5) 214 112 [.ref 97, .int 1] I7 J7 R (fun x8 y8 I8 J8 R8 => (AM (d + 5) 216 112 [.ref 97, .int 0, .int 99] I8 J8 R (fun x9 y9 I9 J9 R9 => (vp_in (v1 + 6) 1620 ∧ Q 0 0 (uI I9 102 (Int32.toNatClampNeg (v1 + 6)) x9) J9 R)))))) ∧ (x7 = (0 : Int32) → (AM (d + 5) 196 112 [.ref 97, .int 61] I7 J7 R (fun x10 y10 I10 J10 R10 => (x10 = 0 ∨ x10 = 1) → ((x10 = (0 : Int32) → (AM (d + 5) 214 112 [.ref 97, .int 0] I10 J10 R (fun x11 y11 I11 J11 R11 => (AM (d + 5) 216 112 [.ref 97, .int 0, .int 99] I11 J11 R (fun x12 y12 I12 J12 R12 => (vp_in (v1 + 6) 1620 ∧ Q 0 0 (uI I12 102 (Int32.toNatClampNeg (v1 + 6)) x12) J12 R)))))) ∧ (¬ x10 = (0 : Int32) → (AM (d + 5) 214 112 [.ref 97, .int 1] I10 J10 R (fun x13 y13 I13 J13 R13 => (AM (d + 5) 216 112 [.ref 97, .int 0, .int 99] I13 J13 R (fun x14 y14 I14 J14 R14 => (vp_in (v1 + 6) 1620 ∧ Q 0 0 (uI I14 102 (Int32.toNatClampNeg (v1 + 6)) x14) J14 R))))))))))))))))))))) ∧ (x1 = (0 : Int32) → Q 0 0 (uI I3 102 (Int32.toNatClampNeg (v1 + 1)) x3) J3 R)))))))))) := by
  have e5 : ((v1 + 5) : Int32).toInt = (v1.toInt) + (5) := ti_add rfl rfl (by omega)
  have e1 : ((v1 + 1) : Int32).toInt = (v1.toInt) + (1) := ti_add rfl rfl (by omega)
  have t5 := tn_of e5 (by omega)
  have t1 := tn_of e1 (by omega)
  have hp1 : vp_in (v1 + 1) 1620 := vp_of (a := (v1.toInt + 1)) e1 (by omega) (by omega)
  have hB5 : Bd (uI M 102 (Int32.toNatClampNeg (v1 + 5)) x1) := Bd.cnew hB0 (show ((v1 + 5) : Int32).toInt = (v1.toInt + 5) from e5) (show (x1 : Int32).toInt = x1.toInt from rfl) (by omega) (by omega) (by omega)
  have f5 : Fr (pW v1.toInt) I (uI M 102 (Int32.toNatClampNeg (v1 + 5)) x1) := Fr.w (Fr.tr (Fr.refl _ _) g2 (fun _ _ => trivial)) (show ((v1 + 5) : Int32).toInt = (v1.toInt + 5) from e5) (by omega) (fun j hj hp => by unfold pW at hp; omega)
  have m5 : PMp I (uI M 102 (Int32.toNatClampNeg (v1 + 5)) x1) := PMp.o g3 (show ¬ (97 : Nat) = 102 by decide)
  have z0 : (uI M 102 (Int32.toNatClampNeg (v1 + 5)) x1) 102 0 = I 102 0 := Eq.trans (rd_k (fun q => by omega)) (g2.1 0 trivial)
  have q0 : (0 : Int32).toInt = 0 := rfl
  have q1 : (1 : Int32).toInt = 1 := rfl
  have q3 : (30 : Int32).toInt = 30 := rfl
  refine ⟨vp_of (a := (v1.toInt + 5)) e5 (by omega) (by omega), fun c1 => ?_, fun c1 => ?_⟩
  · have d1 : ¬ ((x1.toInt) : Int) = (1) := ci_ne rfl rfl c1
    refine sp_X12_readTold hB5 hR0 (by omega) (fun x3 y3 I3 J3 hB3 p3 => ?_)
    have hh := Hid.i p3
    have w3 := p3.2.2.1.2.2
    clear p3
    have hBK : Bd (uI I3 102 (Int32.toNatClampNeg (v1 + 1)) x3) := Bd.cnew hB3 (show ((v1 + 1) : Int32).toInt = (v1.toInt + 1) from e1) (show (x3 : Int32).toInt = x3.toInt from rfl) (by omega) (by omega) (by omega)
    refine ⟨hp1, rt_up5 (Q := Q) hBK hR0 hv1 (fun I4 J4 hB4 k4 => hQ I4 J4 hB4 ⟨Eq.trans k4.1 (Eq.trans (rd_ne (show ¬ (97 : Nat) = 102 by decide)) (Eq.trans (Hid.o hh).1 (Eq.trans (rd_ne (show ¬ (97 : Nat) = 102 by decide)) g1))), Fr.tr (Fr.w (Fr.tr f5 (Hid.o hh).2.1 (fun _ _ => trivial)) (show ((v1 + 1) : Int32).toInt = (v1.toInt + 1) from e1) (by omega) (fun j hj hp => by unfold pW at hp; omega)) k4.2.1 (fun _ h => h), PMp.tr (PMp.o (PMp.tr m5 (PMp.mk (Hid.o hh).2.2.1.1 (Hid.o hh).2.2.1.2.1)) (show ¬ (97 : Nat) = 102 by decide)) k4.2.2.1, fun hz => ?_⟩)⟩
    have a5 : I4 102 (Int32.toNatClampNeg (v1 + 5)) = x1 := Eq.trans k4.2.2.2.1 (Eq.trans (rd_k (fun q => by omega)) (Eq.trans ((Hid.o hh).2.1.1 _ trivial) rd_eq))
    have a1 : I4 102 (Int32.toNatClampNeg (v1 + 1)) = x3 := Eq.trans k4.2.2.2.2 rd_eq
    have b1 : (I3 97 12).toInt = 0 := PMp.bad (PMp.o (PMp.refl I3) (show ¬ (97 : Nat) = 102 by decide)) (PMp.bad k4.2.2.1 hz)
    rw [a5, a1]
    have o := (Hid.o hh).2.2.2 b1 rfl
    rw [z0] at o
    exact ⟨fun h => absurd h d1, fun _ => ⟨w3.1, o⟩⟩
  · have d1 : ((x1.toInt) : Int) = (1) := ci_eq rfl rfl c1
    refine sp_X12_count hB5 hR0 (fun x3 y3 I3 J3 hB3 p3 => ?_)
    have hh := Hid.i p3
    have w3 := Or.imp (fun z => z.2) (fun z => And.intro z.1 z.2.1) p3.2.2.2.2
    clear p3
    have hBK : Bd (uI I3 102 (Int32.toNatClampNeg (v1 + 1)) x3) := Bd.cnew hB3 (show ((v1 + 1) : Int32).toInt = (v1.toInt + 1) from e1) (show (x3 : Int32).toInt = x3.toInt from rfl) (by omega) (by omega) (by omega)
    refine ⟨hp1, rt_up5 (Q := Q) hBK hR0 hv1 (fun I4 J4 hB4 k4 => hQ I4 J4 hB4 ⟨Eq.trans k4.1 (Eq.trans (rd_ne (show ¬ (97 : Nat) = 102 by decide)) (Eq.trans (Hid.o hh).1 (Eq.trans (rd_ne (show ¬ (97 : Nat) = 102 by decide)) g1))), Fr.tr (Fr.w (Fr.tr f5 (Hid.o hh).2.1 (fun _ _ => trivial)) (show ((v1 + 1) : Int32).toInt = (v1.toInt + 1) from e1) (by omega) (fun j hj hp => by unfold pW at hp; omega)) k4.2.1 (fun _ h => h), PMp.tr (PMp.o (PMp.tr m5 (PMp.mk (Hid.o hh).2.2.1 (Hid.o hh).2.2.2.1)) (show ¬ (97 : Nat) = 102 by decide)) k4.2.2.1, fun hz => ?_⟩)⟩
    have a5 : I4 102 (Int32.toNatClampNeg (v1 + 5)) = x1 := Eq.trans k4.2.2.2.1 (Eq.trans (rd_k (fun q => by omega)) (Eq.trans ((Hid.o hh).2.1.1 _ trivial) rd_eq))
    have a1 : I4 102 (Int32.toNatClampNeg (v1 + 1)) = x3 := Eq.trans k4.2.2.2.2 rd_eq
    have b1 : (I3 97 12).toInt = 0 := PMp.bad (PMp.o (PMp.refl I3) (show ¬ (97 : Nat) = 102 by decide)) (PMp.bad k4.2.2.1 hz)
    rw [a5, a1]
    have o := Or.resolve_left (Hid.o hh).2.2.2.2 (fun z => by omega)
    exact ⟨fun _ => ⟨by omega, by omega⟩, fun h => absurd d1 h⟩
theorem sp_X12_readTest {d : Nat} {Q : Qt} {v1 : Int32} {I : Im} {J : Jm} {R : Rm} (hB0 : Bd I) (hR0 : RI R) (hv1 : 1350 ≤ v1.toInt ∧ v1.toInt ≤ 1611 ∧ (v1.toInt - 1350) % 9 = 0) (hQ : ∀ (x : Int32) (y : Int64) (I2 : Im) (J2 : Jm), Bd I2 → (I2 97 27 = I 97 27 ∧ Fr (pW v1.toInt) I I2 ∧ PMp I I2 ∧ ((I2 97 12).toInt = 0 → ((I2 102 (v1 + 5).toNatClampNeg).toInt = 1 → 1 ≤ (I2 102 (v1 + 1).toNatClampNeg).toInt ∧ (I2 102 (v1 + 1).toNatClampNeg).toInt ≤ 30) ∧ (¬ (I2 102 (v1 + 5).toNatClampNeg).toInt = 1 → 0 ≤ (I2 102 (v1 + 1).toNatClampNeg).toInt ∧ (I2 102 (v1 + 1).toNatClampNeg).toInt < (I 102 0).toInt))) → Q x y I2 J2 R) : AM (d + 6) 234 112 [.ref 97, .int v1] I J R Q := by
  refine w_X12_readTest ?_
  refine sp_X12_testWord hB0 hR0 (fun x1 y1 I1 J1 hB1 p1 => ?_)
  have g1 := p1.2.1
  have g2 := p1.2.2.2.2.1
  have g3 : PMp I I1 := PMp.keep p1.1 p1.2.2.1 p1.2.2.2.1
  have hx := p1.2.2.2.2.2
  clear p1
  exact ⟨fun _ => sp_X12_must hB1 hR0 (fun x2 y2 I2 J2 hB2 p2 => rt_mid5 (Q := Q) hB2 hR0 hv1 hx (p2.1.trans g1) (Fr.tr g2 p2.2.1 (fun _ h => h)) (PMp.tr g3 (PMp.mk p2.2.2.1 p2.2.2.2.1)) (fun I3 J3 => hQ 0 0 I3 J3)), fun _ => sp_X12_must hB1 hR0 (fun x2 y2 I2 J2 hB2 p2 => rt_mid5 (Q := Q) hB2 hR0 hv1 hx (p2.1.trans g1) (Fr.tr g2 p2.2.1 (fun _ h => h)) (PMp.tr g3 (PMp.mk p2.2.2.1 p2.2.2.2.1)) (fun I3 J3 => hQ 0 0 I3 J3))⟩
set_option maxHeartbeats 2000000 in
theorem sp_X12_readRest {d : Nat} {Q : Qt} {v1 : Int32} {I : Im} {J : Jm} {R : Rm} (hB0 : Bd I) (hR0 : RI R) (hv1 : 1350 ≤ v1.toInt ∧ v1.toInt ≤ 1611 ∧ (v1.toInt - 1350) % 9 = 0) (hQ : ∀ (x : Int32) (y : Int64) (I2 : Im) (J2 : Jm), Bd I2 → (I2 97 27 = I 97 27 ∧ Fr (pW v1.toInt) I I2 ∧ PMp I I2 ∧ (((I2 97 12).toInt = 0 → RF (I2 102) v1 (I 102 0).toInt))) → Q x y I2 J2 R) : AM (d + 7) 235 112 [.ref 97, .int v1] I J R Q := by
  have i_v1 := i32 v1
  refine am_X12_readRest (fun P hc => ?_)
  have L : ∀ n : Nat, (∀ (v3 : Int32) (M : Im) (JM : Jm), Bd M → (M 97 27 = I 97 27) → Fr (pW v1.toInt) I M → PMp I M → ((1 : Int) = 0) → 1 < (n : Int) → P 13 112 [(0, .ref 97), (1, .int v1), (3, .int v3)] [] M JM R) ∧ (∀ (M : Im) (JM : Jm), Bd M → (M 97 27 = I 97 27) → Fr (pW v1.toInt) I M → PMp I M → (((M 102 v1.toNatClampNeg).toInt = 2 ∨ (M 102 v1.toNatClampNeg).toInt = 3)) → 1 < (n : Int) → P 90 112 [(0, .ref 97), (1, .int v1)] [] M JM R) := by
    intro n
    induction n with
    | zero =>
      exact ⟨fun v3 M J _ _ _ _ hi hm => absurd hm (by omega), fun  M J _ _ _ _ hi hm => absurd hm (by omega)⟩
    | succ n ih =>
      refine ⟨?_, ?_⟩
      · skip
        intro v3 M JM hB hk_97_27 hf hpm hi hm
        have i_v1 := i32 v1
        have i_v3 := i32 v3
        refine sg_X12_readRest_13 hc _ _ _ _ _ ?_
        refine ⟨fun c1 => ?_, fun c1 => ?_⟩
        · skip
          have d2 : ((4) : Int) ≤ (v3.toInt) := ci_le rfl rfl c1
          have e3 : ((M 102 (Int32.toNatClampNeg v1)) : Int32).toInt = (I 102 (Int32.toNatClampNeg v1)).toInt := Eq.trans (congrArg Int32.toInt (hf.1 _ (Or.inl (by have z := tn_of (x := v1) rfl (by omega); omega)))) rfl
          have fl4 : ((M 102 (Int32.toNatClampNeg v1)) : Int32).toInt = (I 102 (Int32.toNatClampNeg v1)).toInt := e3
          have fl5 : ((M 102 (Int32.toNatClampNeg v1)) : Int32).toInt = (I 102 (Int32.toNatClampNeg v1)).toInt := e3
          have e6 : ((v1 + 1) : Int32).toInt = (v1.toInt) + (1) := ti_add rfl rfl (by omega)
          have fl7 : ((M 102 (Int32.toNatClampNeg (v1 + 1))) : Int32).toInt = (M 102 (Int32.toNatClampNeg (v1 + 1))).toInt := rfl
          have e8 : ((v1 + 2) : Int32).toInt = (v1.toInt) + (2) := ti_add rfl rfl (by omega)
          have fl9 : ((M 102 (Int32.toNatClampNeg (v1 + 2))) : Int32).toInt = (M 102 (Int32.toNatClampNeg (v1 + 2))).toInt := rfl
          have e10 : ((v1 + 3) : Int32).toInt = (v1.toInt) + (3) := ti_add rfl rfl (by omega)
          have fl11 : ((M 102 (Int32.toNatClampNeg (v1 + 3))) : Int32).toInt = (M 102 (Int32.toNatClampNeg (v1 + 3))).toInt := rfl
          have e12 : ((v1 + 5) : Int32).toInt = (v1.toInt) + (5) := ti_add rfl rfl (by omega)
          have fl13 : ((M 102 (Int32.toNatClampNeg (v1 + 5))) : Int32).toInt = (M 102 (Int32.toNatClampNeg (v1 + 5))).toInt := rfl
          have b14 := Bd.o hB io9_112_97_12 bd9_12_12
          have fl15 : ((M 97 12) : Int32).toInt = (M 97 12).toInt := rfl
          exact hQ _ _ _ _ hB ⟨hk_97_27, hf, hpm, (fun hz => by unfold RF; omega)⟩
        · skip
          have d16 : ((v3.toInt) : Int) < (4) := ci_nle rfl rfl c1
          refine sp_X12_count hB hR0 (fun x17 y22 I18 J19 hB20 p21 => ?_)
          have hh23 := Hid.i p21
          clear p21
          have f24 : Fr pT M I18 := (Hid.o hh23).2.1
          have f25 : Fr (pW v1.toInt) I I18 := Fr.tr hf f24 (fun _ _ => trivial)
          have m26 : PMp M I18 := (PMp.mk (Hid.o hh23).2.2.1 (Hid.o hh23).2.2.2.1)
          have wr27 := Or.imp (fun z => z.2) (fun z => And.intro z.1 z.2.1) (Hid.o hh23).2.2.2.2
          have q28 : (1 : Int32).toInt = 1 := rfl
          have q29 : (30 : Int32).toInt = 30 := rfl
          have b30 := Bd.o hB io9_112_97_12 bd9_12_12
          have b31 := Bd.o hB io9_112_97_12 bd9_12_14
          have b32 := Bd.o hB io9_112_97_12 bd9_12_16
          have b33 := Bd.o hB20 io9_112_97_12 bd9_12_12
          have b34 := Bd.o hB20 io9_112_97_12 bd9_12_14
          have b35 := Bd.o hB20 io9_112_97_12 bd9_12_16
          have i36 := i32 x17
          refine ⟨vp_of (a := ((v1 + v3) : Int32).toInt) rfl (by first | (clear p21 b30 b31 b32 b33 b34 b35 i36; omega) | omega) (by first | (clear p21 b30 b31 b32 b33 b34 b35 i36; omega) | omega), ?_⟩
          have hB37 : Bd (uI I18 102 (Int32.toNatClampNeg (v1 + v3)) x17) := Bd.cnew hB20 (show ((v1 + v3) : Int32).toInt = ((v1 + v3) : Int32).toInt from rfl) (show (x17 : Int32).toInt = x17.toInt from rfl) (by omega) (by omega) (by omega) 
          have f38 : Fr (pW v1.toInt) I (uI I18 102 (Int32.toNatClampNeg (v1 + v3)) x17) := Fr.w f25 (show ((v1 + v3) : Int32).toInt = ((v1 + v3) : Int32).toInt from rfl) (by omega) (fun j hj hp => by unfold pW at hp; omega)
          have cb39 : ((uI I18 102 (Int32.toNatClampNeg (v1 + v3)) x17) 97 12).toInt = 0 → (M 97 12).toInt = 0 := ((PMp.o (PMp.tr (PMp.refl M) m26) (show ¬ (97 : Nat) = 102 by decide))).2
          exact ih.1 _ _ _ hB37 (Eq.trans (Eq.trans (rd_ne (by first | decide | omega)) (Hid.o hh23).1) hk_97_27) f38 (PMp.o (PMp.tr hpm m26) (show ¬ (97 : Nat) = 102 by decide)) (by first | (clear d16 p21 b30 b31 b32 b33 b34 b35 i36; omega) | omega) (by first | (clear d16 p21 b30 b31 b32 b33 b34 b35 i36; omega) | omega)
      · skip
        intro  M JM hB hk_97_27 hf hpm hi hm
        have i_v1 := i32 v1
        refine sg_X12_readRest_90 hc _ _ _ _ ?_
        refine sp_X12_readTold hB hR0 (by have z : (0 : Int32).toInt = 0 := rfl; omega) (fun x40 y45 I41 J42 hB43 p44 => ?_)
        have hh46 := Hid.i p44
        clear p44
        have f47 : Fr pT M I41 := (Hid.o hh46).2.1
        have f48 : Fr (pW v1.toInt) I I41 := Fr.tr hf f47 (fun _ _ => trivial)
        have m49 : PMp M I41 := (PMp.mk (Hid.o hh46).2.2.1.1 (Hid.o hh46).2.2.1.2.1)
        have wr50 := (Hid.o hh46).2.2.1.2.2
        have q51 : (0 : Int32).toInt = 0 := rfl
        have b52 := (Bd.c hB0 (j := 0) (z := 0) rfl).1 (by decide)
        have e53 : ((M 102 0) : Int32).toInt = (I 102 0).toInt := Eq.trans (congrArg Int32.toInt (hf.1 0 (by unfold pW; omega))) rfl
        have b54 := Bd.o hB io9_112_97_12 bd9_12_12
        have b55 := Bd.o hB io9_112_97_12 bd9_12_14
        have b56 := Bd.o hB io9_112_97_12 bd9_12_16
        have b57 := Bd.o hB43 io9_112_97_12 bd9_12_12
        have b58 := Bd.o hB43 io9_112_97_12 bd9_12_14
        have b59 := Bd.o hB43 io9_112_97_12 bd9_12_16
        have i60 := i32 x40
        have e61 : ((v1 + 1) : Int32).toInt = (v1.toInt) + (1) := ti_add rfl rfl (by first | (clear p44 e53 b54 b55 b56 b57 b58 b59 i60; omega) | omega)
        refine ⟨vp_of (a := (v1.toInt + 1)) e61 (by first | (clear p44 e53 b54 b55 b56 b57 b58 b59 i60; omega) | omega) (by first | (clear p44 e53 b54 b55 b56 b57 b58 b59 i60; omega) | omega), ?_⟩
        have hB62 : Bd (uI I41 102 (Int32.toNatClampNeg (v1 + 1)) x40) := Bd.cnew hB43 (show ((v1 + 1) : Int32).toInt = (v1.toInt + 1) from e61) (show (x40 : Int32).toInt = x40.toInt from rfl) (by first | (clear e53 b54 b55 b56; omega) | omega) (by first | (clear e53 b54 b55 b56; omega) | omega) (by first | (clear e53 b54 b55 b56; omega) | omega) 
        have f63 : Fr (pW v1.toInt) I (uI I41 102 (Int32.toNatClampNeg (v1 + 1)) x40) := Fr.w f48 (show ((v1 + 1) : Int32).toInt = (v1.toInt + 1) from e61) (by omega) (fun j hj hp => by unfold pW at hp; omega)
        refine sp_X12_count hB62 hR0 (fun x64 y69 I65 J66 hB67 p68 => ?_)
        have hh70 := Hid.i p68
        clear p68
        have f71 : Fr pT (uI I41 102 (Int32.toNatClampNeg (v1 + 1)) x40) I65 := (Hid.o hh70).2.1
        have f72 : Fr (pW v1.toInt) I I65 := Fr.tr f63 f71 (fun _ _ => trivial)
        have m73 : PMp (uI I41 102 (Int32.toNatClampNeg (v1 + 1)) x40) I65 := (PMp.mk (Hid.o hh70).2.2.1 (Hid.o hh70).2.2.2.1)
        have wr74 := Or.imp (fun z => z.2) (fun z => And.intro z.1 z.2.1) (Hid.o hh70).2.2.2.2
        have q75 : (1 : Int32).toInt = 1 := rfl
        have q76 : (30 : Int32).toInt = 30 := rfl
        have e77 : (((uI I41 102 (Int32.toNatClampNeg (v1 + 1)) x40) 97 12) : Int32).toInt = (I41 97 12).toInt := Eq.trans (congrArg Int32.toInt (rd_ne (by first | decide | omega))) rfl
        have e78 : (((uI I41 102 (Int32.toNatClampNeg (v1 + 1)) x40) 97 14) : Int32).toInt = (I41 97 14).toInt := Eq.trans (congrArg Int32.toInt (rd_ne (by first | decide | omega))) rfl
        have e79 : (((uI I41 102 (Int32.toNatClampNeg (v1 + 1)) x40) 97 16) : Int32).toInt = (I41 97 16).toInt := Eq.trans (congrArg Int32.toInt (rd_ne (by first | decide | omega))) rfl
        have b80 := Bd.o hB67 io9_112_97_12 bd9_12_12
        have b81 := Bd.o hB67 io9_112_97_12 bd9_12_14
        have b82 := Bd.o hB67 io9_112_97_12 bd9_12_16
        have i83 := i32 x64
        have e84 : ((v1 + 2) : Int32).toInt = (v1.toInt) + (2) := ti_add rfl rfl (by first | (clear p44 e53 b54 b55 b56 b57 b58 b59 i60 p68 b80 b81 b82 i83; omega) | omega)
        refine ⟨vp_of (a := (v1.toInt + 2)) e84 (by first | (clear p44 e53 b54 b55 b56 b57 b58 b59 i60 p68 b80 b81 b82 i83; omega) | omega) (by first | (clear p44 e53 b54 b55 b56 b57 b58 b59 i60 p68 b80 b81 b82 i83; omega) | omega), ?_⟩
        have hB85 : Bd (uI I65 102 (Int32.toNatClampNeg (v1 + 2)) x64) := Bd.cnew hB67 (show ((v1 + 2) : Int32).toInt = (v1.toInt + 2) from e84) (show (x64 : Int32).toInt = x64.toInt from rfl) (by first | (clear p44 e53 b54 b55 b56 b57 b58 b59 i60; omega) | omega) (by first | (clear p44 e53 b54 b55 b56 b57 b58 b59 i60; omega) | omega) (by first | (clear p44 e53 b54 b55 b56 b57 b58 b59 i60; omega) | omega) 
        have f86 : Fr (pW v1.toInt) I (uI I65 102 (Int32.toNatClampNeg (v1 + 2)) x64) := Fr.w f72 (show ((v1 + 2) : Int32).toInt = (v1.toInt + 2) from e84) (by first | (clear p44 b54 b55 b56 b57 b58 b59 i60; omega) | omega) (fun j hj hp => by unfold pW at hp; omega)
        have td87 : ((M 102 0)).toInt = (I 102 0).toInt := e53
        have e88 : ((M 102 (Int32.toNatClampNeg v1)) : Int32).toInt = (I 102 (Int32.toNatClampNeg v1)).toInt := Eq.trans (congrArg Int32.toInt (hf.1 _ (Or.inl (by have z := tn_of (x := v1) rfl (by first | (clear p44 b57 b58 b59 i60 p68 b80 b81 b82 i83; omega) | omega); omega)))) rfl
        have fl89 : ((M 102 (Int32.toNatClampNeg v1)) : Int32).toInt = (I 102 (Int32.toNatClampNeg v1)).toInt := e88
        have e90 : (((uI I65 102 (Int32.toNatClampNeg (v1 + 2)) x64) 102 (Int32.toNatClampNeg v1)) : Int32).toInt = (I 102 (Int32.toNatClampNeg v1)).toInt := Eq.trans (congrArg Int32.toInt (Eq.trans (Eq.trans (Eq.trans (Eq.trans (rd_k (fun z => by have z1 := tn_of (show (v1 : Int32).toInt = v1.toInt from rfl) (by first | (clear p44 b54 b55 b56 b57 b58 b59 i60; omega) | omega); have z2 := tn_of (show ((v1 + 2) : Int32).toInt = (v1.toInt + 2) from e84) (by first | (clear p44 b54 b55 b56 b57 b58 b59 i60; omega) | omega); omega)) (f71.1 (Int32.toNatClampNeg v1) trivial)) (rd_k (fun z => by have z1 := tn_of (show (v1 : Int32).toInt = v1.toInt from rfl) (by first | (clear p44 b54 b55 b56 b57 b58 b59 i60; omega) | omega); have z2 := tn_of (show ((v1 + 1) : Int32).toInt = (v1.toInt + 1) from e61) (by first | (clear p44 b54 b55 b56 b57 b58 b59 i60; omega) | omega); omega))) (f47.1 (Int32.toNatClampNeg v1) trivial)) (hf.1 _ (Or.inl (by have z := tn_of (x := v1) rfl (by first | (clear p44 b54 b55 b56 b57 b58 b59 i60; omega) | omega); omega))))) rfl
        have fl91 : (((uI I65 102 (Int32.toNatClampNeg (v1 + 2)) x64) 102 (Int32.toNatClampNeg v1)) : Int32).toInt = (I 102 (Int32.toNatClampNeg v1)).toInt := e90
        have e92 : (((uI I65 102 (Int32.toNatClampNeg (v1 + 2)) x64) 102 (Int32.toNatClampNeg (v1 + 1))) : Int32).toInt = x40.toInt := Eq.trans (congrArg Int32.toInt (Eq.trans (Eq.trans (rd_k (fun z => by have z1 := tn_of (show ((v1 + 1) : Int32).toInt = (v1.toInt + 1) from e61) (by first | (clear e53 b54 b55 b56 b57 b58 b59; omega) | omega); have z2 := tn_of (show ((v1 + 2) : Int32).toInt = (v1.toInt + 2) from e84) (by first | (clear e53 b54 b55 b56 b57 b58 b59; omega) | omega); omega)) (f71.1 (Int32.toNatClampNeg (v1 + 1)) trivial)) rd_eq)) rfl
        have fl93 : (((uI I65 102 (Int32.toNatClampNeg (v1 + 2)) x64) 102 (Int32.toNatClampNeg (v1 + 1))) : Int32).toInt = x40.toInt := e92
        have e94 : (((uI I65 102 (Int32.toNatClampNeg (v1 + 2)) x64) 102 (Int32.toNatClampNeg (v1 + 2))) : Int32).toInt = x64.toInt := Eq.trans (congrArg Int32.toInt rd_eq) rfl
        have fl95 : (((uI I65 102 (Int32.toNatClampNeg (v1 + 2)) x64) 102 (Int32.toNatClampNeg (v1 + 2))) : Int32).toInt = x64.toInt := e94
        have e96 : ((v1 + 3) : Int32).toInt = (v1.toInt) + (3) := ti_add rfl rfl (by first | (clear p44 e53 b54 b55 b56 b57 b58 b59 i60 p68 b80 b81 b82 i83; omega) | omega)
        have e97 : (((uI I65 102 (Int32.toNatClampNeg (v1 + 2)) x64) 102 (Int32.toNatClampNeg (v1 + 3))) : Int32).toInt = (M 102 (Int32.toNatClampNeg (v1 + 3))).toInt := Eq.trans (congrArg Int32.toInt (Eq.trans (Eq.trans (Eq.trans (rd_k (fun z => by have z1 := tn_of (show ((v1 + 3) : Int32).toInt = (v1.toInt + 3) from e96) (by first | (clear p44 b57 b58 b59 i60; omega) | omega); have z2 := tn_of (show ((v1 + 2) : Int32).toInt = (v1.toInt + 2) from e84) (by first | (clear p44 b57 b58 b59 i60; omega) | omega); omega)) (f71.1 (Int32.toNatClampNeg (v1 + 3)) trivial)) (rd_k (fun z => by have z1 := tn_of (show ((v1 + 3) : Int32).toInt = (v1.toInt + 3) from e96) (by first | (clear p44 b57 b58 b59 i60; omega) | omega); have z2 := tn_of (show ((v1 + 1) : Int32).toInt = (v1.toInt + 1) from e61) (by first | (clear p44 b57 b58 b59 i60; omega) | omega); omega))) (f47.1 (Int32.toNatClampNeg (v1 + 3)) trivial))) rfl
        have fl98 : (((uI I65 102 (Int32.toNatClampNeg (v1 + 2)) x64) 102 (Int32.toNatClampNeg (v1 + 3))) : Int32).toInt = (M 102 (Int32.toNatClampNeg (v1 + 3))).toInt := e97
        have e99 : ((v1 + 5) : Int32).toInt = (v1.toInt) + (5) := ti_add rfl rfl (by first | (clear p44 e53 b54 b55 b56 b57 b58 b59 i60 p68 b80 b81 b82 i83; omega) | omega)
        have e100 : (((uI I65 102 (Int32.toNatClampNeg (v1 + 2)) x64) 102 (Int32.toNatClampNeg (v1 + 5))) : Int32).toInt = (M 102 (Int32.toNatClampNeg (v1 + 5))).toInt := Eq.trans (congrArg Int32.toInt (Eq.trans (Eq.trans (Eq.trans (rd_k (fun z => by have z1 := tn_of (show ((v1 + 5) : Int32).toInt = (v1.toInt + 5) from e99) (by first | (clear p44 b57 b58 b59 i60; omega) | omega); have z2 := tn_of (show ((v1 + 2) : Int32).toInt = (v1.toInt + 2) from e84) (by first | (clear p44 b57 b58 b59 i60; omega) | omega); omega)) (f71.1 (Int32.toNatClampNeg (v1 + 5)) trivial)) (rd_k (fun z => by have z1 := tn_of (show ((v1 + 5) : Int32).toInt = (v1.toInt + 5) from e99) (by first | (clear p44 b57 b58 b59 i60; omega) | omega); have z2 := tn_of (show ((v1 + 1) : Int32).toInt = (v1.toInt + 1) from e61) (by first | (clear p44 b57 b58 b59 i60; omega) | omega); omega))) (f47.1 (Int32.toNatClampNeg (v1 + 5)) trivial))) rfl
        have fl101 : (((uI I65 102 (Int32.toNatClampNeg (v1 + 2)) x64) 102 (Int32.toNatClampNeg (v1 + 5))) : Int32).toInt = (M 102 (Int32.toNatClampNeg (v1 + 5))).toInt := e100
        have e102 : (((uI I65 102 (Int32.toNatClampNeg (v1 + 2)) x64) 97 12) : Int32).toInt = (I65 97 12).toInt := Eq.trans (congrArg Int32.toInt (rd_ne (by first | decide | omega))) rfl
        have fl103 : (((uI I65 102 (Int32.toNatClampNeg (v1 + 2)) x64) 97 12) : Int32).toInt = (I65 97 12).toInt := e102
        exact hQ _ _ _ _ hB85 ⟨(Eq.trans (Eq.trans (Eq.trans (Eq.trans (rd_ne (by first | decide | omega)) (Hid.o hh70).1) (rd_ne (by first | decide | omega))) (Hid.o hh46).1) hk_97_27), f86, (PMp.o (PMp.tr (PMp.o (PMp.tr hpm m49) (show ¬ (97 : Nat) = 102 by decide)) m73) (show ¬ (97 : Nat) = 102 by decide)), (fun hz => by have op0 := (Hid.o hh46).2.2.2 (PMp.bad (PMp.o (PMp.tr (PMp.o (PMp.refl I41) (show ¬ (97 : Nat) = 102 by decide)) m73) (show ¬ (97 : Nat) = 102 by decide)) hz) rfl; have op1 := Or.resolve_left (Hid.o hh70).2.2.2.2 (fun z => by have b := PMp.bad (PMp.o (PMp.refl I65) (show ¬ (97 : Nat) = 102 by decide)) hz; omega); unfold RF; omega)⟩
  refine sg_X12_readRest_0 hc _ _ _ _ ?_
  refine ⟨vp_of (a := v1.toInt) rfl (by omega) (by omega), ?_⟩
  refine ⟨fun c104 => ?_, fun c104 => ?_⟩
  · skip
    have d105 : ¬ (((I 102 (Int32.toNatClampNeg v1)).toInt) : Int) = (0) := ci_ne rfl rfl c104
    refine ⟨fun c106 => ?_, fun c106 => ?_⟩
    · skip
      have d107 : ¬ (((I 102 (Int32.toNatClampNeg v1)).toInt) : Int) = (1) := ci_ne rfl rfl c106
      refine ⟨fun c108 => ?_, fun c108 => ?_⟩
      · skip
        have d109 : (((I 102 (Int32.toNatClampNeg v1)).toInt) : Int) = (2) := ci_eq rfl rfl c108
        have cb110 : (I 97 12).toInt = 0 → (I 97 12).toInt = 0 := ((PMp.refl I)).2
        exact (L 1000000).2 _ _ hB0 rfl (Fr.refl _ _) (PMp.refl I) (by omega) (by omega)
      · skip
        have d111 : ¬ (((I 102 (Int32.toNatClampNeg v1)).toInt) : Int) = (2) := ci_ne rfl rfl c108
        refine ⟨fun c112 => ?_, fun c112 => ?_⟩
        · skip
          have d113 : ¬ (((I 102 (Int32.toNatClampNeg v1)).toInt) : Int) = (3) := ci_ne rfl rfl c112
          refine ⟨fun c114 => ?_, fun c114 => ?_⟩
          · skip
            have d115 : ¬ (((I 102 (Int32.toNatClampNeg v1)).toInt) : Int) = (4) := ci_ne rfl rfl c114
            refine ⟨fun c116 => ?_, fun c116 => ?_⟩
            · skip
              have d117 : ¬ (((I 102 (Int32.toNatClampNeg v1)).toInt) : Int) = (7) := ci_ne rfl rfl c116
              refine ⟨fun c118 => ?_, fun c118 => ?_⟩
              · skip
                have d119 : ¬ (((I 102 (Int32.toNatClampNeg v1)).toInt) : Int) = (6) := ci_ne rfl rfl c118
                have fl120 : ((I 102 (Int32.toNatClampNeg v1)) : Int32).toInt = (I 102 (Int32.toNatClampNeg v1)).toInt := rfl
                have e121 : ((v1 + 1) : Int32).toInt = (v1.toInt) + (1) := ti_add rfl rfl (by omega)
                have fl122 : ((I 102 (Int32.toNatClampNeg (v1 + 1))) : Int32).toInt = (I 102 (Int32.toNatClampNeg (v1 + 1))).toInt := rfl
                have e123 : ((v1 + 2) : Int32).toInt = (v1.toInt) + (2) := ti_add rfl rfl (by omega)
                have fl124 : ((I 102 (Int32.toNatClampNeg (v1 + 2))) : Int32).toInt = (I 102 (Int32.toNatClampNeg (v1 + 2))).toInt := rfl
                have e125 : ((v1 + 3) : Int32).toInt = (v1.toInt) + (3) := ti_add rfl rfl (by omega)
                have fl126 : ((I 102 (Int32.toNatClampNeg (v1 + 3))) : Int32).toInt = (I 102 (Int32.toNatClampNeg (v1 + 3))).toInt := rfl
                have e127 : ((v1 + 5) : Int32).toInt = (v1.toInt) + (5) := ti_add rfl rfl (by omega)
                have fl128 : ((I 102 (Int32.toNatClampNeg (v1 + 5))) : Int32).toInt = (I 102 (Int32.toNatClampNeg (v1 + 5))).toInt := rfl
                have b129 := Bd.o hB0 io9_112_97_12 bd9_12_12
                have fl130 : ((I 97 12) : Int32).toInt = (I 97 12).toInt := rfl
                exact hQ _ _ _ _ hB0 ⟨rfl, (Fr.refl _ _), (PMp.refl I), (fun hz => by unfold RF; omega)⟩
              · skip
                have d131 : (((I 102 (Int32.toNatClampNeg v1)).toInt) : Int) = (6) := ci_eq rfl rfl c118
                refine sp_X12_readTest hB0 hR0 (by have z1 : (v1 : Int32).toInt = v1.toInt := rfl; omega) (fun x132 y137 I133 J134 hB135 p136 => ?_)
                have hh138 := Hid.i p136
                clear p136
                have f139 : Fr (pW v1.toInt) I I133 := (Hid.o hh138).2.1
                have f140 : Fr (pW v1.toInt) I I133 := Fr.tr (Fr.refl _ _) f139 (fun _ z => z)
                have m141 : PMp I I133 := (Hid.o hh138).2.2.1
                have b142 := (Bd.c hB0 (j := 0) (z := 0) rfl).1 (by decide)
                have b143 := Bd.o hB135 io9_112_97_12 bd9_12_12
                have e144 : ((I133 102 (Int32.toNatClampNeg v1)) : Int32).toInt = (I 102 (Int32.toNatClampNeg v1)).toInt := Eq.trans (congrArg Int32.toInt (f139.1 _ (Or.inl (by have z := tn_of (x := v1) rfl (by omega); omega)))) rfl
                have fl145 : ((I133 102 (Int32.toNatClampNeg v1)) : Int32).toInt = (I 102 (Int32.toNatClampNeg v1)).toInt := e144
                have e146 : ((v1 + 1) : Int32).toInt = (v1.toInt) + (1) := ti_add rfl rfl (by omega)
                have fl147 : ((I133 102 (Int32.toNatClampNeg (v1 + 1))) : Int32).toInt = (I133 102 (Int32.toNatClampNeg (v1 + 1))).toInt := rfl
                have e148 : ((v1 + 2) : Int32).toInt = (v1.toInt) + (2) := ti_add rfl rfl (by omega)
                have fl149 : ((I133 102 (Int32.toNatClampNeg (v1 + 2))) : Int32).toInt = (I133 102 (Int32.toNatClampNeg (v1 + 2))).toInt := rfl
                have e150 : ((v1 + 3) : Int32).toInt = (v1.toInt) + (3) := ti_add rfl rfl (by omega)
                have fl151 : ((I133 102 (Int32.toNatClampNeg (v1 + 3))) : Int32).toInt = (I133 102 (Int32.toNatClampNeg (v1 + 3))).toInt := rfl
                have e152 : ((v1 + 5) : Int32).toInt = (v1.toInt) + (5) := ti_add rfl rfl (by omega)
                have fl153 : ((I133 102 (Int32.toNatClampNeg (v1 + 5))) : Int32).toInt = (I133 102 (Int32.toNatClampNeg (v1 + 5))).toInt := rfl
                have fl154 : ((I133 97 12) : Int32).toInt = (I133 97 12).toInt := rfl
                exact hQ _ _ _ _ hB135 ⟨(Hid.o hh138).1, f140, (PMp.tr (PMp.refl I) m141), (fun hz => by have op0 := (Hid.o hh138).2.2.2 (PMp.bad (PMp.refl I133) hz); unfold RF; omega)⟩
            · skip
              have d155 : (((I 102 (Int32.toNatClampNeg v1)).toInt) : Int) = (7) := ci_eq rfl rfl c116
              refine sp_X12_count hB0 hR0 (fun x156 y161 I157 J158 hB159 p160 => ?_)
              have hh162 := Hid.i p160
              clear p160
              have f163 : Fr pT I I157 := (Hid.o hh162).2.1
              have f164 : Fr (pW v1.toInt) I I157 := Fr.tr (Fr.refl _ _) f163 (fun _ _ => trivial)
              have m165 : PMp I I157 := (PMp.mk (Hid.o hh162).2.2.1 (Hid.o hh162).2.2.2.1)
              have wr166 := Or.imp (fun z => z.2) (fun z => And.intro z.1 z.2.1) (Hid.o hh162).2.2.2.2
              have q167 : (1 : Int32).toInt = 1 := rfl
              have q168 : (99 : Int32).toInt = 99 := rfl
              have b169 := Bd.o hB0 io9_112_97_12 bd9_12_12
              have b170 := Bd.o hB0 io9_112_97_12 bd9_12_14
              have b171 := Bd.o hB0 io9_112_97_12 bd9_12_16
              have b172 := Bd.o hB159 io9_112_97_12 bd9_12_12
              have b173 := Bd.o hB159 io9_112_97_12 bd9_12_14
              have b174 := Bd.o hB159 io9_112_97_12 bd9_12_16
              have i175 := i32 x156
              have e176 : ((v1 + 1) : Int32).toInt = (v1.toInt) + (1) := ti_add rfl rfl (by first | (clear p160 b169 b170 b171 b172 b173 b174 i175; omega) | omega)
              refine ⟨vp_of (a := (v1.toInt + 1)) e176 (by first | (clear p160 b169 b170 b171 b172 b173 b174 i175; omega) | omega) (by first | (clear p160 b169 b170 b171 b172 b173 b174 i175; omega) | omega), ?_⟩
              have hB177 : Bd (uI I157 102 (Int32.toNatClampNeg (v1 + 1)) x156) := Bd.cnew hB159 (show ((v1 + 1) : Int32).toInt = (v1.toInt + 1) from e176) (show (x156 : Int32).toInt = x156.toInt from rfl) (by omega) (by omega) (by omega) 
              have f178 : Fr (pW v1.toInt) I (uI I157 102 (Int32.toNatClampNeg (v1 + 1)) x156) := Fr.w f164 (show ((v1 + 1) : Int32).toInt = (v1.toInt + 1) from e176) (by omega) (fun j hj hp => by unfold pW at hp; omega)
              have e179 : (((uI I157 102 (Int32.toNatClampNeg (v1 + 1)) x156) 102 (Int32.toNatClampNeg v1)) : Int32).toInt = (I 102 (Int32.toNatClampNeg v1)).toInt := Eq.trans (congrArg Int32.toInt (Eq.trans (rd_k (fun z => by have z1 := tn_of (show (v1 : Int32).toInt = v1.toInt from rfl) (by omega); have z2 := tn_of (show ((v1 + 1) : Int32).toInt = (v1.toInt + 1) from e176) (by omega); omega)) (f163.1 (Int32.toNatClampNeg v1) trivial))) rfl
              have fl180 : (((uI I157 102 (Int32.toNatClampNeg (v1 + 1)) x156) 102 (Int32.toNatClampNeg v1)) : Int32).toInt = (I 102 (Int32.toNatClampNeg v1)).toInt := e179
              have e181 : (((uI I157 102 (Int32.toNatClampNeg (v1 + 1)) x156) 102 (Int32.toNatClampNeg (v1 + 1))) : Int32).toInt = x156.toInt := Eq.trans (congrArg Int32.toInt rd_eq) rfl
              have fl182 : (((uI I157 102 (Int32.toNatClampNeg (v1 + 1)) x156) 102 (Int32.toNatClampNeg (v1 + 1))) : Int32).toInt = x156.toInt := e181
              have e183 : ((v1 + 2) : Int32).toInt = (v1.toInt) + (2) := ti_add rfl rfl (by first | (clear p160 b169 b170 b171 b172 b173 b174 i175; omega) | omega)
              have e184 : (((uI I157 102 (Int32.toNatClampNeg (v1 + 1)) x156) 102 (Int32.toNatClampNeg (v1 + 2))) : Int32).toInt = (I 102 (Int32.toNatClampNeg (v1 + 2))).toInt := Eq.trans (congrArg Int32.toInt (Eq.trans (rd_k (fun z => by have z1 := tn_of (show ((v1 + 2) : Int32).toInt = (v1.toInt + 2) from e183) (by omega); have z2 := tn_of (show ((v1 + 1) : Int32).toInt = (v1.toInt + 1) from e176) (by omega); omega)) (f163.1 (Int32.toNatClampNeg (v1 + 2)) trivial))) rfl
              have fl185 : (((uI I157 102 (Int32.toNatClampNeg (v1 + 1)) x156) 102 (Int32.toNatClampNeg (v1 + 2))) : Int32).toInt = (I 102 (Int32.toNatClampNeg (v1 + 2))).toInt := e184
              have e186 : ((v1 + 3) : Int32).toInt = (v1.toInt) + (3) := ti_add rfl rfl (by first | (clear p160 b169 b170 b171 b172 b173 b174 i175; omega) | omega)
              have e187 : (((uI I157 102 (Int32.toNatClampNeg (v1 + 1)) x156) 102 (Int32.toNatClampNeg (v1 + 3))) : Int32).toInt = (I 102 (Int32.toNatClampNeg (v1 + 3))).toInt := Eq.trans (congrArg Int32.toInt (Eq.trans (rd_k (fun z => by have z1 := tn_of (show ((v1 + 3) : Int32).toInt = (v1.toInt + 3) from e186) (by omega); have z2 := tn_of (show ((v1 + 1) : Int32).toInt = (v1.toInt + 1) from e176) (by omega); omega)) (f163.1 (Int32.toNatClampNeg (v1 + 3)) trivial))) rfl
              have fl188 : (((uI I157 102 (Int32.toNatClampNeg (v1 + 1)) x156) 102 (Int32.toNatClampNeg (v1 + 3))) : Int32).toInt = (I 102 (Int32.toNatClampNeg (v1 + 3))).toInt := e187
              have e189 : ((v1 + 5) : Int32).toInt = (v1.toInt) + (5) := ti_add rfl rfl (by first | (clear p160 b169 b170 b171 b172 b173 b174 i175; omega) | omega)
              have e190 : (((uI I157 102 (Int32.toNatClampNeg (v1 + 1)) x156) 102 (Int32.toNatClampNeg (v1 + 5))) : Int32).toInt = (I 102 (Int32.toNatClampNeg (v1 + 5))).toInt := Eq.trans (congrArg Int32.toInt (Eq.trans (rd_k (fun z => by have z1 := tn_of (show ((v1 + 5) : Int32).toInt = (v1.toInt + 5) from e189) (by omega); have z2 := tn_of (show ((v1 + 1) : Int32).toInt = (v1.toInt + 1) from e176) (by omega); omega)) (f163.1 (Int32.toNatClampNeg (v1 + 5)) trivial))) rfl
              have fl191 : (((uI I157 102 (Int32.toNatClampNeg (v1 + 1)) x156) 102 (Int32.toNatClampNeg (v1 + 5))) : Int32).toInt = (I 102 (Int32.toNatClampNeg (v1 + 5))).toInt := e190
              have e192 : (((uI I157 102 (Int32.toNatClampNeg (v1 + 1)) x156) 97 12) : Int32).toInt = (I157 97 12).toInt := Eq.trans (congrArg Int32.toInt (rd_ne (by first | decide | omega))) rfl
              have fl193 : (((uI I157 102 (Int32.toNatClampNeg (v1 + 1)) x156) 97 12) : Int32).toInt = (I157 97 12).toInt := e192
              exact hQ _ _ _ _ hB177 ⟨(Eq.trans (rd_ne (by first | decide | omega)) (Hid.o hh162).1), f178, (PMp.o (PMp.tr (PMp.refl I) m165) (show ¬ (97 : Nat) = 102 by decide)), (fun hz => by have op0 := Or.resolve_left (Hid.o hh162).2.2.2.2 (fun z => by have b := PMp.bad (PMp.o (PMp.refl I157) (show ¬ (97 : Nat) = 102 by decide)) hz; omega); unfold RF; omega)⟩
          · skip
            have d194 : (((I 102 (Int32.toNatClampNeg v1)).toInt) : Int) = (4) := ci_eq rfl rfl c114
            refine sp_X12_count hB0 hR0 (fun x195 y200 I196 J197 hB198 p199 => ?_)
            have hh201 := Hid.i p199
            clear p199
            have f202 : Fr pT I I196 := (Hid.o hh201).2.1
            have f203 : Fr (pW v1.toInt) I I196 := Fr.tr (Fr.refl _ _) f202 (fun _ _ => trivial)
            have m204 : PMp I I196 := (PMp.mk (Hid.o hh201).2.2.1 (Hid.o hh201).2.2.2.1)
            have wr205 := Or.imp (fun z => z.2) (fun z => And.intro z.1 z.2.1) (Hid.o hh201).2.2.2.2
            have q206 : (1 : Int32).toInt = 1 := rfl
            have q207 : (9 : Int32).toInt = 9 := rfl
            have b208 := Bd.o hB0 io9_112_97_12 bd9_12_12
            have b209 := Bd.o hB0 io9_112_97_12 bd9_12_14
            have b210 := Bd.o hB0 io9_112_97_12 bd9_12_16
            have b211 := Bd.o hB198 io9_112_97_12 bd9_12_12
            have b212 := Bd.o hB198 io9_112_97_12 bd9_12_14
            have b213 := Bd.o hB198 io9_112_97_12 bd9_12_16
            have i214 := i32 x195
            have e215 : ((v1 + 1) : Int32).toInt = (v1.toInt) + (1) := ti_add rfl rfl (by first | (clear p199 b208 b209 b210 b211 b212 b213 i214; omega) | omega)
            refine ⟨vp_of (a := (v1.toInt + 1)) e215 (by first | (clear p199 b208 b209 b210 b211 b212 b213 i214; omega) | omega) (by first | (clear p199 b208 b209 b210 b211 b212 b213 i214; omega) | omega), ?_⟩
            have hB216 : Bd (uI I196 102 (Int32.toNatClampNeg (v1 + 1)) x195) := Bd.cnew hB198 (show ((v1 + 1) : Int32).toInt = (v1.toInt + 1) from e215) (show (x195 : Int32).toInt = x195.toInt from rfl) (by omega) (by omega) (by omega) 
            have f217 : Fr (pW v1.toInt) I (uI I196 102 (Int32.toNatClampNeg (v1 + 1)) x195) := Fr.w f203 (show ((v1 + 1) : Int32).toInt = (v1.toInt + 1) from e215) (by omega) (fun j hj hp => by unfold pW at hp; omega)
            have e218 : (((uI I196 102 (Int32.toNatClampNeg (v1 + 1)) x195) 102 (Int32.toNatClampNeg v1)) : Int32).toInt = (I 102 (Int32.toNatClampNeg v1)).toInt := Eq.trans (congrArg Int32.toInt (Eq.trans (rd_k (fun z => by have z1 := tn_of (show (v1 : Int32).toInt = v1.toInt from rfl) (by omega); have z2 := tn_of (show ((v1 + 1) : Int32).toInt = (v1.toInt + 1) from e215) (by omega); omega)) (f202.1 (Int32.toNatClampNeg v1) trivial))) rfl
            have fl219 : (((uI I196 102 (Int32.toNatClampNeg (v1 + 1)) x195) 102 (Int32.toNatClampNeg v1)) : Int32).toInt = (I 102 (Int32.toNatClampNeg v1)).toInt := e218
            have e220 : (((uI I196 102 (Int32.toNatClampNeg (v1 + 1)) x195) 102 (Int32.toNatClampNeg (v1 + 1))) : Int32).toInt = x195.toInt := Eq.trans (congrArg Int32.toInt rd_eq) rfl
            have fl221 : (((uI I196 102 (Int32.toNatClampNeg (v1 + 1)) x195) 102 (Int32.toNatClampNeg (v1 + 1))) : Int32).toInt = x195.toInt := e220
            have e222 : ((v1 + 2) : Int32).toInt = (v1.toInt) + (2) := ti_add rfl rfl (by first | (clear p199 b208 b209 b210 b211 b212 b213 i214; omega) | omega)
            have e223 : (((uI I196 102 (Int32.toNatClampNeg (v1 + 1)) x195) 102 (Int32.toNatClampNeg (v1 + 2))) : Int32).toInt = (I 102 (Int32.toNatClampNeg (v1 + 2))).toInt := Eq.trans (congrArg Int32.toInt (Eq.trans (rd_k (fun z => by have z1 := tn_of (show ((v1 + 2) : Int32).toInt = (v1.toInt + 2) from e222) (by omega); have z2 := tn_of (show ((v1 + 1) : Int32).toInt = (v1.toInt + 1) from e215) (by omega); omega)) (f202.1 (Int32.toNatClampNeg (v1 + 2)) trivial))) rfl
            have fl224 : (((uI I196 102 (Int32.toNatClampNeg (v1 + 1)) x195) 102 (Int32.toNatClampNeg (v1 + 2))) : Int32).toInt = (I 102 (Int32.toNatClampNeg (v1 + 2))).toInt := e223
            have e225 : ((v1 + 3) : Int32).toInt = (v1.toInt) + (3) := ti_add rfl rfl (by first | (clear p199 b208 b209 b210 b211 b212 b213 i214; omega) | omega)
            have e226 : (((uI I196 102 (Int32.toNatClampNeg (v1 + 1)) x195) 102 (Int32.toNatClampNeg (v1 + 3))) : Int32).toInt = (I 102 (Int32.toNatClampNeg (v1 + 3))).toInt := Eq.trans (congrArg Int32.toInt (Eq.trans (rd_k (fun z => by have z1 := tn_of (show ((v1 + 3) : Int32).toInt = (v1.toInt + 3) from e225) (by omega); have z2 := tn_of (show ((v1 + 1) : Int32).toInt = (v1.toInt + 1) from e215) (by omega); omega)) (f202.1 (Int32.toNatClampNeg (v1 + 3)) trivial))) rfl
            have fl227 : (((uI I196 102 (Int32.toNatClampNeg (v1 + 1)) x195) 102 (Int32.toNatClampNeg (v1 + 3))) : Int32).toInt = (I 102 (Int32.toNatClampNeg (v1 + 3))).toInt := e226
            have e228 : ((v1 + 5) : Int32).toInt = (v1.toInt) + (5) := ti_add rfl rfl (by first | (clear p199 b208 b209 b210 b211 b212 b213 i214; omega) | omega)
            have e229 : (((uI I196 102 (Int32.toNatClampNeg (v1 + 1)) x195) 102 (Int32.toNatClampNeg (v1 + 5))) : Int32).toInt = (I 102 (Int32.toNatClampNeg (v1 + 5))).toInt := Eq.trans (congrArg Int32.toInt (Eq.trans (rd_k (fun z => by have z1 := tn_of (show ((v1 + 5) : Int32).toInt = (v1.toInt + 5) from e228) (by omega); have z2 := tn_of (show ((v1 + 1) : Int32).toInt = (v1.toInt + 1) from e215) (by omega); omega)) (f202.1 (Int32.toNatClampNeg (v1 + 5)) trivial))) rfl
            have fl230 : (((uI I196 102 (Int32.toNatClampNeg (v1 + 1)) x195) 102 (Int32.toNatClampNeg (v1 + 5))) : Int32).toInt = (I 102 (Int32.toNatClampNeg (v1 + 5))).toInt := e229
            have e231 : (((uI I196 102 (Int32.toNatClampNeg (v1 + 1)) x195) 97 12) : Int32).toInt = (I196 97 12).toInt := Eq.trans (congrArg Int32.toInt (rd_ne (by first | decide | omega))) rfl
            have fl232 : (((uI I196 102 (Int32.toNatClampNeg (v1 + 1)) x195) 97 12) : Int32).toInt = (I196 97 12).toInt := e231
            exact hQ _ _ _ _ hB216 ⟨(Eq.trans (rd_ne (by first | decide | omega)) (Hid.o hh201).1), f217, (PMp.o (PMp.tr (PMp.refl I) m204) (show ¬ (97 : Nat) = 102 by decide)), (fun hz => by have op0 := Or.resolve_left (Hid.o hh201).2.2.2.2 (fun z => by have b := PMp.bad (PMp.o (PMp.refl I196) (show ¬ (97 : Nat) = 102 by decide)) hz; omega); unfold RF; omega)⟩
        · skip
          have d233 : (((I 102 (Int32.toNatClampNeg v1)).toInt) : Int) = (3) := ci_eq rfl rfl c112
          have cb234 : (I 97 12).toInt = 0 → (I 97 12).toInt = 0 := ((PMp.refl I)).2
          exact (L 1000000).2 _ _ hB0 rfl (Fr.refl _ _) (PMp.refl I) (by omega) (by omega)
    · skip
      have d235 : (((I 102 (Int32.toNatClampNeg v1)).toInt) : Int) = (1) := ci_eq rfl rfl c106
      refine sp_X12_count hB0 hR0 (fun x236 y241 I237 J238 hB239 p240 => ?_)
      have hh242 := Hid.i p240
      clear p240
      have f243 : Fr pT I I237 := (Hid.o hh242).2.1
      have f244 : Fr (pW v1.toInt) I I237 := Fr.tr (Fr.refl _ _) f243 (fun _ _ => trivial)
      have m245 : PMp I I237 := (PMp.mk (Hid.o hh242).2.2.1 (Hid.o hh242).2.2.2.1)
      have wr246 := Or.imp (fun z => z.2) (fun z => And.intro z.1 z.2.1) (Hid.o hh242).2.2.2.2
      have q247 : (1 : Int32).toInt = 1 := rfl
      have q248 : (30 : Int32).toInt = 30 := rfl
      have b249 := Bd.o hB0 io9_112_97_12 bd9_12_12
      have b250 := Bd.o hB0 io9_112_97_12 bd9_12_14
      have b251 := Bd.o hB0 io9_112_97_12 bd9_12_16
      have b252 := Bd.o hB239 io9_112_97_12 bd9_12_12
      have b253 := Bd.o hB239 io9_112_97_12 bd9_12_14
      have b254 := Bd.o hB239 io9_112_97_12 bd9_12_16
      have i255 := i32 x236
      have e256 : ((v1 + 1) : Int32).toInt = (v1.toInt) + (1) := ti_add rfl rfl (by first | (clear p240 b249 b250 b251 b252 b253 b254 i255; omega) | omega)
      refine ⟨vp_of (a := (v1.toInt + 1)) e256 (by first | (clear p240 b249 b250 b251 b252 b253 b254 i255; omega) | omega) (by first | (clear p240 b249 b250 b251 b252 b253 b254 i255; omega) | omega), ?_⟩
      have hB257 : Bd (uI I237 102 (Int32.toNatClampNeg (v1 + 1)) x236) := Bd.cnew hB239 (show ((v1 + 1) : Int32).toInt = (v1.toInt + 1) from e256) (show (x236 : Int32).toInt = x236.toInt from rfl) (by omega) (by omega) (by omega) 
      have f258 : Fr (pW v1.toInt) I (uI I237 102 (Int32.toNatClampNeg (v1 + 1)) x236) := Fr.w f244 (show ((v1 + 1) : Int32).toInt = (v1.toInt + 1) from e256) (by omega) (fun j hj hp => by unfold pW at hp; omega)
      refine sp_X12_count hB257 hR0 (fun x259 y264 I260 J261 hB262 p263 => ?_)
      have hh265 := Hid.i p263
      clear p263
      have f266 : Fr pT (uI I237 102 (Int32.toNatClampNeg (v1 + 1)) x236) I260 := (Hid.o hh265).2.1
      have f267 : Fr (pW v1.toInt) I I260 := Fr.tr f258 f266 (fun _ _ => trivial)
      have m268 : PMp (uI I237 102 (Int32.toNatClampNeg (v1 + 1)) x236) I260 := (PMp.mk (Hid.o hh265).2.2.1 (Hid.o hh265).2.2.2.1)
      have wr269 := Or.imp (fun z => z.2) (fun z => And.intro z.1 z.2.1) (Hid.o hh265).2.2.2.2
      have q270 : (2 : Int32).toInt = 2 := rfl
      have q271 : (30 : Int32).toInt = 30 := rfl
      have e272 : (((uI I237 102 (Int32.toNatClampNeg (v1 + 1)) x236) 97 12) : Int32).toInt = (I237 97 12).toInt := Eq.trans (congrArg Int32.toInt (rd_ne (by first | decide | omega))) rfl
      have e273 : (((uI I237 102 (Int32.toNatClampNeg (v1 + 1)) x236) 97 14) : Int32).toInt = (I237 97 14).toInt := Eq.trans (congrArg Int32.toInt (rd_ne (by first | decide | omega))) rfl
      have e274 : (((uI I237 102 (Int32.toNatClampNeg (v1 + 1)) x236) 97 16) : Int32).toInt = (I237 97 16).toInt := Eq.trans (congrArg Int32.toInt (rd_ne (by first | decide | omega))) rfl
      have b275 := Bd.o hB262 io9_112_97_12 bd9_12_12
      have b276 := Bd.o hB262 io9_112_97_12 bd9_12_14
      have b277 := Bd.o hB262 io9_112_97_12 bd9_12_16
      have i278 := i32 x259
      have e279 : ((v1 + 2) : Int32).toInt = (v1.toInt) + (2) := ti_add rfl rfl (by first | (clear p240 b249 b250 b251 b252 b253 b254 i255 p263 b275 b276 b277 i278; omega) | omega)
      refine ⟨vp_of (a := (v1.toInt + 2)) e279 (by first | (clear p240 b249 b250 b251 b252 b253 b254 i255 p263 b275 b276 b277 i278; omega) | omega) (by first | (clear p240 b249 b250 b251 b252 b253 b254 i255 p263 b275 b276 b277 i278; omega) | omega), ?_⟩
      have hB280 : Bd (uI I260 102 (Int32.toNatClampNeg (v1 + 2)) x259) := Bd.cnew hB262 (show ((v1 + 2) : Int32).toInt = (v1.toInt + 2) from e279) (show (x259 : Int32).toInt = x259.toInt from rfl) (by first | (clear p240 b249 b250 b251 b252 b253 b254 i255; omega) | omega) (by first | (clear p240 b249 b250 b251 b252 b253 b254 i255; omega) | omega) (by first | (clear p240 b249 b250 b251 b252 b253 b254 i255; omega) | omega) 
      have f281 : Fr (pW v1.toInt) I (uI I260 102 (Int32.toNatClampNeg (v1 + 2)) x259) := Fr.w f267 (show ((v1 + 2) : Int32).toInt = (v1.toInt + 2) from e279) (by first | (clear p240 b252 b253 b254 i255; omega) | omega) (fun j hj hp => by unfold pW at hp; omega)
      have e282 : (((uI I260 102 (Int32.toNatClampNeg (v1 + 2)) x259) 102 (Int32.toNatClampNeg v1)) : Int32).toInt = (I 102 (Int32.toNatClampNeg v1)).toInt := Eq.trans (congrArg Int32.toInt (Eq.trans (Eq.trans (Eq.trans (rd_k (fun z => by have z1 := tn_of (show (v1 : Int32).toInt = v1.toInt from rfl) (by first | (clear p240 b252 b253 b254 i255; omega) | omega); have z2 := tn_of (show ((v1 + 2) : Int32).toInt = (v1.toInt + 2) from e279) (by first | (clear p240 b252 b253 b254 i255; omega) | omega); omega)) (f266.1 (Int32.toNatClampNeg v1) trivial)) (rd_k (fun z => by have z1 := tn_of (show (v1 : Int32).toInt = v1.toInt from rfl) (by first | (clear p240 b252 b253 b254 i255; omega) | omega); have z2 := tn_of (show ((v1 + 1) : Int32).toInt = (v1.toInt + 1) from e256) (by first | (clear p240 b252 b253 b254 i255; omega) | omega); omega))) (f243.1 (Int32.toNatClampNeg v1) trivial))) rfl
      have fl283 : (((uI I260 102 (Int32.toNatClampNeg (v1 + 2)) x259) 102 (Int32.toNatClampNeg v1)) : Int32).toInt = (I 102 (Int32.toNatClampNeg v1)).toInt := e282
      have e284 : (((uI I260 102 (Int32.toNatClampNeg (v1 + 2)) x259) 102 (Int32.toNatClampNeg (v1 + 1))) : Int32).toInt = x236.toInt := Eq.trans (congrArg Int32.toInt (Eq.trans (Eq.trans (rd_k (fun z => by have z1 := tn_of (show ((v1 + 1) : Int32).toInt = (v1.toInt + 1) from e256) (by first | (clear b249 b250 b251 b252 b253 b254; omega) | omega); have z2 := tn_of (show ((v1 + 2) : Int32).toInt = (v1.toInt + 2) from e279) (by first | (clear b249 b250 b251 b252 b253 b254; omega) | omega); omega)) (f266.1 (Int32.toNatClampNeg (v1 + 1)) trivial)) rd_eq)) rfl
      have fl285 : (((uI I260 102 (Int32.toNatClampNeg (v1 + 2)) x259) 102 (Int32.toNatClampNeg (v1 + 1))) : Int32).toInt = x236.toInt := e284
      have e286 : (((uI I260 102 (Int32.toNatClampNeg (v1 + 2)) x259) 102 (Int32.toNatClampNeg (v1 + 2))) : Int32).toInt = x259.toInt := Eq.trans (congrArg Int32.toInt rd_eq) rfl
      have fl287 : (((uI I260 102 (Int32.toNatClampNeg (v1 + 2)) x259) 102 (Int32.toNatClampNeg (v1 + 2))) : Int32).toInt = x259.toInt := e286
      have e288 : ((v1 + 3) : Int32).toInt = (v1.toInt) + (3) := ti_add rfl rfl (by first | (clear p240 b249 b250 b251 b252 b253 b254 i255 p263 b275 b276 b277 i278; omega) | omega)
      have e289 : (((uI I260 102 (Int32.toNatClampNeg (v1 + 2)) x259) 102 (Int32.toNatClampNeg (v1 + 3))) : Int32).toInt = (I 102 (Int32.toNatClampNeg (v1 + 3))).toInt := Eq.trans (congrArg Int32.toInt (Eq.trans (Eq.trans (Eq.trans (rd_k (fun z => by have z1 := tn_of (show ((v1 + 3) : Int32).toInt = (v1.toInt + 3) from e288) (by first | (clear p240 b252 b253 b254 i255; omega) | omega); have z2 := tn_of (show ((v1 + 2) : Int32).toInt = (v1.toInt + 2) from e279) (by first | (clear p240 b252 b253 b254 i255; omega) | omega); omega)) (f266.1 (Int32.toNatClampNeg (v1 + 3)) trivial)) (rd_k (fun z => by have z1 := tn_of (show ((v1 + 3) : Int32).toInt = (v1.toInt + 3) from e288) (by first | (clear p240 b252 b253 b254 i255; omega) | omega); have z2 := tn_of (show ((v1 + 1) : Int32).toInt = (v1.toInt + 1) from e256) (by first | (clear p240 b252 b253 b254 i255; omega) | omega); omega))) (f243.1 (Int32.toNatClampNeg (v1 + 3)) trivial))) rfl
      have fl290 : (((uI I260 102 (Int32.toNatClampNeg (v1 + 2)) x259) 102 (Int32.toNatClampNeg (v1 + 3))) : Int32).toInt = (I 102 (Int32.toNatClampNeg (v1 + 3))).toInt := e289
      have e291 : ((v1 + 5) : Int32).toInt = (v1.toInt) + (5) := ti_add rfl rfl (by first | (clear p240 b249 b250 b251 b252 b253 b254 i255 p263 b275 b276 b277 i278; omega) | omega)
      have e292 : (((uI I260 102 (Int32.toNatClampNeg (v1 + 2)) x259) 102 (Int32.toNatClampNeg (v1 + 5))) : Int32).toInt = (I 102 (Int32.toNatClampNeg (v1 + 5))).toInt := Eq.trans (congrArg Int32.toInt (Eq.trans (Eq.trans (Eq.trans (rd_k (fun z => by have z1 := tn_of (show ((v1 + 5) : Int32).toInt = (v1.toInt + 5) from e291) (by first | (clear p240 b252 b253 b254 i255; omega) | omega); have z2 := tn_of (show ((v1 + 2) : Int32).toInt = (v1.toInt + 2) from e279) (by first | (clear p240 b252 b253 b254 i255; omega) | omega); omega)) (f266.1 (Int32.toNatClampNeg (v1 + 5)) trivial)) (rd_k (fun z => by have z1 := tn_of (show ((v1 + 5) : Int32).toInt = (v1.toInt + 5) from e291) (by first | (clear p240 b252 b253 b254 i255; omega) | omega); have z2 := tn_of (show ((v1 + 1) : Int32).toInt = (v1.toInt + 1) from e256) (by first | (clear p240 b252 b253 b254 i255; omega) | omega); omega))) (f243.1 (Int32.toNatClampNeg (v1 + 5)) trivial))) rfl
      have fl293 : (((uI I260 102 (Int32.toNatClampNeg (v1 + 2)) x259) 102 (Int32.toNatClampNeg (v1 + 5))) : Int32).toInt = (I 102 (Int32.toNatClampNeg (v1 + 5))).toInt := e292
      have e294 : (((uI I260 102 (Int32.toNatClampNeg (v1 + 2)) x259) 97 12) : Int32).toInt = (I260 97 12).toInt := Eq.trans (congrArg Int32.toInt (rd_ne (by first | decide | omega))) rfl
      have fl295 : (((uI I260 102 (Int32.toNatClampNeg (v1 + 2)) x259) 97 12) : Int32).toInt = (I260 97 12).toInt := e294
      exact hQ _ _ _ _ hB280 ⟨(Eq.trans (Eq.trans (Eq.trans (rd_ne (by first | decide | omega)) (Hid.o hh265).1) (rd_ne (by first | decide | omega))) (Hid.o hh242).1), f281, (PMp.o (PMp.tr (PMp.o (PMp.tr (PMp.refl I) m245) (show ¬ (97 : Nat) = 102 by decide)) m268) (show ¬ (97 : Nat) = 102 by decide)), (fun hz => by have op0 := Or.resolve_left (Hid.o hh242).2.2.2.2 (fun z => by have b := PMp.bad (PMp.o (PMp.tr (PMp.o (PMp.refl I237) (show ¬ (97 : Nat) = 102 by decide)) m268) (show ¬ (97 : Nat) = 102 by decide)) hz; omega); have op1 := Or.resolve_left (Hid.o hh265).2.2.2.2 (fun z => by have b := PMp.bad (PMp.o (PMp.refl I260) (show ¬ (97 : Nat) = 102 by decide)) hz; omega); unfold RF; omega)⟩
  · skip
    have d296 : (((I 102 (Int32.toNatClampNeg v1)).toInt) : Int) = (0) := ci_eq rfl rfl c104
    have cb297 : (I 97 12).toInt = 0 → (I 97 12).toInt = 0 := ((PMp.refl I)).2
    refine sg_X12_readRest_13 hc _ _ _ _ _ ?_
    refine ⟨fun c298 => ?_, fun c298 => ?_⟩
    · exact absurd c298 (by decide)
    · skip
      refine sp_X12_count hB0 hR0 (fun x299 y304 I300 J301 hB302 p303 => ?_)
      have hh305 := Hid.i p303
      clear p303
      have f306 : Fr pT I I300 := (Hid.o hh305).2.1
      have f307 : Fr (pW v1.toInt) I I300 := Fr.tr (Fr.refl _ _) f306 (fun _ _ => trivial)
      have m308 : PMp I I300 := (PMp.mk (Hid.o hh305).2.2.1 (Hid.o hh305).2.2.2.1)
      have wr309 := Or.imp (fun z => z.2) (fun z => And.intro z.1 z.2.1) (Hid.o hh305).2.2.2.2
      have q310 : (1 : Int32).toInt = 1 := rfl
      have q311 : (30 : Int32).toInt = 30 := rfl
      have b312 := Bd.o hB0 io9_112_97_12 bd9_12_12
      have b313 := Bd.o hB0 io9_112_97_12 bd9_12_14
      have b314 := Bd.o hB0 io9_112_97_12 bd9_12_16
      have b315 := Bd.o hB302 io9_112_97_12 bd9_12_12
      have b316 := Bd.o hB302 io9_112_97_12 bd9_12_14
      have b317 := Bd.o hB302 io9_112_97_12 bd9_12_16
      have i318 := i32 x299
      have e319 : ((v1 + 1) : Int32).toInt = (v1.toInt) + (1) := ti_add rfl rfl (by first | (clear p303 b312 b313 b314 b315 b316 b317 i318; omega) | omega)
      refine ⟨vp_of (a := (v1.toInt + 1)) e319 (by first | (clear p303 b312 b313 b314 b315 b316 b317 i318; omega) | omega) (by first | (clear p303 b312 b313 b314 b315 b316 b317 i318; omega) | omega), ?_⟩
      have hB320 : Bd (uI I300 102 (Int32.toNatClampNeg (v1 + 1)) x299) := Bd.cnew hB302 (show ((v1 + 1) : Int32).toInt = (v1.toInt + 1) from e319) (show (x299 : Int32).toInt = x299.toInt from rfl) (by omega) (by omega) (by omega) 
      have f321 : Fr (pW v1.toInt) I (uI I300 102 (Int32.toNatClampNeg (v1 + 1)) x299) := Fr.w f307 (show ((v1 + 1) : Int32).toInt = (v1.toInt + 1) from e319) (by omega) (fun j hj hp => by unfold pW at hp; omega)
      have cb322 : ((uI I300 102 (Int32.toNatClampNeg (v1 + 1)) x299) 97 12).toInt = 0 → (I 97 12).toInt = 0 := ((PMp.o (PMp.tr (PMp.refl I) m308) (show ¬ (97 : Nat) = 102 by decide))).2
      refine sg_X12_readRest_13 hc _ _ _ _ _ ?_
      refine ⟨fun c323 => ?_, fun c323 => ?_⟩
      · exact absurd c323 (by decide)
      · skip
        refine sp_X12_count hB320 hR0 (fun x324 y329 I325 J326 hB327 p328 => ?_)
        have hh330 := Hid.i p328
        clear p328
        have f331 : Fr pT (uI I300 102 (Int32.toNatClampNeg (v1 + 1)) x299) I325 := (Hid.o hh330).2.1
        have f332 : Fr (pW v1.toInt) I I325 := Fr.tr f321 f331 (fun _ _ => trivial)
        have m333 : PMp (uI I300 102 (Int32.toNatClampNeg (v1 + 1)) x299) I325 := (PMp.mk (Hid.o hh330).2.2.1 (Hid.o hh330).2.2.2.1)
        have wr334 := Or.imp (fun z => z.2) (fun z => And.intro z.1 z.2.1) (Hid.o hh330).2.2.2.2
        have q335 : (1 : Int32).toInt = 1 := rfl
        have q336 : (30 : Int32).toInt = 30 := rfl
        have e337 : (((uI I300 102 (Int32.toNatClampNeg (v1 + 1)) x299) 97 12) : Int32).toInt = (I300 97 12).toInt := Eq.trans (congrArg Int32.toInt (rd_ne (by first | decide | omega))) rfl
        have e338 : (((uI I300 102 (Int32.toNatClampNeg (v1 + 1)) x299) 97 14) : Int32).toInt = (I300 97 14).toInt := Eq.trans (congrArg Int32.toInt (rd_ne (by first | decide | omega))) rfl
        have e339 : (((uI I300 102 (Int32.toNatClampNeg (v1 + 1)) x299) 97 16) : Int32).toInt = (I300 97 16).toInt := Eq.trans (congrArg Int32.toInt (rd_ne (by first | decide | omega))) rfl
        have b340 := Bd.o hB327 io9_112_97_12 bd9_12_12
        have b341 := Bd.o hB327 io9_112_97_12 bd9_12_14
        have b342 := Bd.o hB327 io9_112_97_12 bd9_12_16
        have i343 := i32 x324
        have e344 : ((1 + 1) : Int32).toInt = (1) + (1) := ti_add rfl rfl (by first | (clear d296 p303 b312 b313 b314 b315 b316 b317 i318 e319 p328 e337 e338 e339 b340 b341 b342 i343; omega) | omega)
        have e345 : ((v1 + (1 + 1)) : Int32).toInt = (v1.toInt) + ((1 + 1)) := ti_add rfl e344 (by first | (clear p303 b312 b313 b314 b315 b316 b317 i318 p328 b340 b341 b342 i343; omega) | omega)
        refine ⟨vp_of (a := (v1.toInt + (1 + 1))) e345 (by first | (clear p303 b312 b313 b314 b315 b316 b317 i318 p328 b340 b341 b342 i343; omega) | omega) (by first | (clear p303 b312 b313 b314 b315 b316 b317 i318 p328 b340 b341 b342 i343; omega) | omega), ?_⟩
        have hB346 : Bd (uI I325 102 (Int32.toNatClampNeg (v1 + (1 + 1))) x324) := Bd.cnew hB327 (show ((v1 + (1 + 1)) : Int32).toInt = (v1.toInt + (1 + 1)) from e345) (show (x324 : Int32).toInt = x324.toInt from rfl) (by first | (clear p303 b312 b313 b314 b315 b316 b317 i318; omega) | omega) (by first | (clear p303 b312 b313 b314 b315 b316 b317 i318; omega) | omega) (by first | (clear p303 b312 b313 b314 b315 b316 b317 i318; omega) | omega) 
        have f347 : Fr (pW v1.toInt) I (uI I325 102 (Int32.toNatClampNeg (v1 + (1 + 1))) x324) := Fr.w f332 (show ((v1 + (1 + 1)) : Int32).toInt = (v1.toInt + (1 + 1)) from e345) (by first | (clear p303 b315 b316 b317 i318; omega) | omega) (fun j hj hp => by unfold pW at hp; omega)
        have cb348 : ((uI I325 102 (Int32.toNatClampNeg (v1 + (1 + 1))) x324) 97 12).toInt = 0 → (I 97 12).toInt = 0 := ((PMp.o (PMp.tr (PMp.o (PMp.tr (PMp.refl I) m308) (show ¬ (97 : Nat) = 102 by decide)) m333) (show ¬ (97 : Nat) = 102 by decide))).2
        refine sg_X12_readRest_13 hc _ _ _ _ _ ?_
        refine ⟨fun c349 => ?_, fun c349 => ?_⟩
        · exact absurd c349 (by decide)
        · skip
          refine sp_X12_count hB346 hR0 (fun x350 y355 I351 J352 hB353 p354 => ?_)
          have hh356 := Hid.i p354
          clear p354
          have f357 : Fr pT (uI I325 102 (Int32.toNatClampNeg (v1 + (1 + 1))) x324) I351 := (Hid.o hh356).2.1
          have f358 : Fr (pW v1.toInt) I I351 := Fr.tr f347 f357 (fun _ _ => trivial)
          have m359 : PMp (uI I325 102 (Int32.toNatClampNeg (v1 + (1 + 1))) x324) I351 := (PMp.mk (Hid.o hh356).2.2.1 (Hid.o hh356).2.2.2.1)
          have wr360 := Or.imp (fun z => z.2) (fun z => And.intro z.1 z.2.1) (Hid.o hh356).2.2.2.2
          have q361 : (1 : Int32).toInt = 1 := rfl
          have q362 : (30 : Int32).toInt = 30 := rfl
          have e363 : (((uI I325 102 (Int32.toNatClampNeg (v1 + (1 + 1))) x324) 97 12) : Int32).toInt = (I325 97 12).toInt := Eq.trans (congrArg Int32.toInt (rd_ne (by first | decide | omega))) rfl
          have e364 : (((uI I325 102 (Int32.toNatClampNeg (v1 + (1 + 1))) x324) 97 14) : Int32).toInt = (I325 97 14).toInt := Eq.trans (congrArg Int32.toInt (rd_ne (by first | decide | omega))) rfl
          have e365 : (((uI I325 102 (Int32.toNatClampNeg (v1 + (1 + 1))) x324) 97 16) : Int32).toInt = (I325 97 16).toInt := Eq.trans (congrArg Int32.toInt (rd_ne (by first | decide | omega))) rfl
          have b366 := Bd.o hB353 io9_112_97_12 bd9_12_12
          have b367 := Bd.o hB353 io9_112_97_12 bd9_12_14
          have b368 := Bd.o hB353 io9_112_97_12 bd9_12_16
          have i369 := i32 x350
          have e370 : (((1 + 1) + 1) : Int32).toInt = ((1 + 1)) + (1) := ti_add e344 rfl (by first | (clear d296 p303 b312 b313 b314 b315 b316 b317 i318 e319 p328 e337 e338 e339 b340 b341 b342 i343 e345 p354 e363 e364 e365 b366 b367 b368 i369; omega) | omega)
          have e371 : ((v1 + ((1 + 1) + 1)) : Int32).toInt = (v1.toInt) + (((1 + 1) + 1)) := ti_add rfl e370 (by first | (clear p303 b312 b313 b314 b315 b316 b317 i318 p328 b340 b341 b342 i343 p354 b366 b367 b368 i369; omega) | omega)
          refine ⟨vp_of (a := (v1.toInt + ((1 + 1) + 1))) e371 (by first | (clear p303 b312 b313 b314 b315 b316 b317 i318 p328 b340 b341 b342 i343 p354 b366 b367 b368 i369; omega) | omega) (by first | (clear p303 b312 b313 b314 b315 b316 b317 i318 p328 b340 b341 b342 i343 p354 b366 b367 b368 i369; omega) | omega), ?_⟩
          have hB372 : Bd (uI I351 102 (Int32.toNatClampNeg (v1 + ((1 + 1) + 1))) x350) := Bd.cnew hB353 (show ((v1 + ((1 + 1) + 1)) : Int32).toInt = (v1.toInt + ((1 + 1) + 1)) from e371) (show (x350 : Int32).toInt = x350.toInt from rfl) (by first | (clear p303 b312 b313 b314 b315 b316 b317 i318 p328 b340 b341 b342 i343; omega) | omega) (by first | (clear p303 b312 b313 b314 b315 b316 b317 i318 p328 b340 b341 b342 i343; omega) | omega) (by first | (clear p303 b312 b313 b314 b315 b316 b317 i318 p328 b340 b341 b342 i343; omega) | omega) 
          have f373 : Fr (pW v1.toInt) I (uI I351 102 (Int32.toNatClampNeg (v1 + ((1 + 1) + 1))) x350) := Fr.w f358 (show ((v1 + ((1 + 1) + 1)) : Int32).toInt = (v1.toInt + ((1 + 1) + 1)) from e371) (by first | (clear p303 b315 b316 b317 i318 p328 b340 b341 b342 i343; omega) | omega) (fun j hj hp => by unfold pW at hp; omega)
          have cb374 : ((uI I351 102 (Int32.toNatClampNeg (v1 + ((1 + 1) + 1))) x350) 97 12).toInt = 0 → (I 97 12).toInt = 0 := ((PMp.o (PMp.tr (PMp.o (PMp.tr (PMp.o (PMp.tr (PMp.refl I) m308) (show ¬ (97 : Nat) = 102 by decide)) m333) (show ¬ (97 : Nat) = 102 by decide)) m359) (show ¬ (97 : Nat) = 102 by decide))).2
          refine sg_X12_readRest_13 hc _ _ _ _ _ ?_
          refine ⟨fun c375 => ?_, fun c375 => ?_⟩
          · skip
            have e376 : (((uI I351 102 (Int32.toNatClampNeg (v1 + ((1 + 1) + 1))) x350) 102 (Int32.toNatClampNeg v1)) : Int32).toInt = (I 102 (Int32.toNatClampNeg v1)).toInt := Eq.trans (congrArg Int32.toInt (Eq.trans (Eq.trans (Eq.trans (Eq.trans (Eq.trans (rd_k (fun z => by have z1 := tn_of (show (v1 : Int32).toInt = v1.toInt from rfl) (by first | (clear p303 b315 b316 b317 i318 p328 b340 b341 b342 i343; omega) | omega); have z2 := tn_of (show ((v1 + ((1 + 1) + 1)) : Int32).toInt = (v1.toInt + ((1 + 1) + 1)) from e371) (by first | (clear p303 b315 b316 b317 i318 p328 b340 b341 b342 i343; omega) | omega); omega)) (f357.1 (Int32.toNatClampNeg v1) trivial)) (rd_k (fun z => by have z1 := tn_of (show (v1 : Int32).toInt = v1.toInt from rfl) (by first | (clear p303 b315 b316 b317 i318 p328 b340 b341 b342 i343; omega) | omega); have z2 := tn_of (show ((v1 + (1 + 1)) : Int32).toInt = (v1.toInt + (1 + 1)) from e345) (by first | (clear p303 b315 b316 b317 i318 p328 b340 b341 b342 i343; omega) | omega); omega))) (f331.1 (Int32.toNatClampNeg v1) trivial)) (rd_k (fun z => by have z1 := tn_of (show (v1 : Int32).toInt = v1.toInt from rfl) (by first | (clear p303 b315 b316 b317 i318 p328 b340 b341 b342 i343; omega) | omega); have z2 := tn_of (show ((v1 + 1) : Int32).toInt = (v1.toInt + 1) from e319) (by first | (clear p303 b315 b316 b317 i318 p328 b340 b341 b342 i343; omega) | omega); omega))) (f306.1 (Int32.toNatClampNeg v1) trivial))) rfl
            have fl377 : (((uI I351 102 (Int32.toNatClampNeg (v1 + ((1 + 1) + 1))) x350) 102 (Int32.toNatClampNeg v1)) : Int32).toInt = (I 102 (Int32.toNatClampNeg v1)).toInt := e376
            have e378 : (((uI I351 102 (Int32.toNatClampNeg (v1 + ((1 + 1) + 1))) x350) 102 (Int32.toNatClampNeg (v1 + 1))) : Int32).toInt = x299.toInt := Eq.trans (congrArg Int32.toInt (Eq.trans (Eq.trans (Eq.trans (Eq.trans (rd_k (fun z => by have z1 := tn_of (show ((v1 + 1) : Int32).toInt = (v1.toInt + 1) from e319) (by first | (clear b312 b313 b314 b315 b316 b317 p328 b340 b341 b342 i343; omega) | omega); have z2 := tn_of (show ((v1 + ((1 + 1) + 1)) : Int32).toInt = (v1.toInt + ((1 + 1) + 1)) from e371) (by first | (clear b312 b313 b314 b315 b316 b317 p328 b340 b341 b342 i343; omega) | omega); omega)) (f357.1 (Int32.toNatClampNeg (v1 + 1)) trivial)) (rd_k (fun z => by have z1 := tn_of (show ((v1 + 1) : Int32).toInt = (v1.toInt + 1) from e319) (by first | (clear b312 b313 b314 b315 b316 b317 p328 b340 b341 b342 i343; omega) | omega); have z2 := tn_of (show ((v1 + (1 + 1)) : Int32).toInt = (v1.toInt + (1 + 1)) from e345) (by first | (clear b312 b313 b314 b315 b316 b317 p328 b340 b341 b342 i343; omega) | omega); omega))) (f331.1 (Int32.toNatClampNeg (v1 + 1)) trivial)) rd_eq)) rfl
            have fl379 : (((uI I351 102 (Int32.toNatClampNeg (v1 + ((1 + 1) + 1))) x350) 102 (Int32.toNatClampNeg (v1 + 1))) : Int32).toInt = x299.toInt := e378
            have e380 : ((v1 + 2) : Int32).toInt = (v1.toInt) + (2) := ti_add rfl rfl (by first | (clear p303 b312 b313 b314 b315 b316 b317 i318 p328 b340 b341 b342 i343 p354 b366 b367 b368 i369; omega) | omega)
            have e381 : (((uI I351 102 (Int32.toNatClampNeg (v1 + ((1 + 1) + 1))) x350) 102 (Int32.toNatClampNeg (v1 + 2))) : Int32).toInt = x324.toInt := Eq.trans (congrArg Int32.toInt (Eq.trans (Eq.trans (rd_k (fun z => by have z1 := tn_of (show ((v1 + 2) : Int32).toInt = (v1.toInt + 2) from e380) (by first | (clear p303 b312 b313 b314 b315 b316 b317 i318 b340 b341 b342; omega) | omega); have z2 := tn_of (show ((v1 + ((1 + 1) + 1)) : Int32).toInt = (v1.toInt + ((1 + 1) + 1)) from e371) (by first | (clear p303 b312 b313 b314 b315 b316 b317 i318 b340 b341 b342; omega) | omega); omega)) (f357.1 (Int32.toNatClampNeg (v1 + 2)) trivial)) (rd_e (show (Int32.toNatClampNeg (v1 + 2)) = (Int32.toNatClampNeg (v1 + (1 + 1))) from rfl)))) rfl
            have fl382 : (((uI I351 102 (Int32.toNatClampNeg (v1 + ((1 + 1) + 1))) x350) 102 (Int32.toNatClampNeg (v1 + 2))) : Int32).toInt = x324.toInt := e381
            have e383 : ((v1 + 3) : Int32).toInt = (v1.toInt) + (3) := ti_add rfl rfl (by first | (clear p303 b312 b313 b314 b315 b316 b317 i318 p328 b340 b341 b342 i343 p354 b366 b367 b368 i369; omega) | omega)
            have e384 : (((uI I351 102 (Int32.toNatClampNeg (v1 + ((1 + 1) + 1))) x350) 102 (Int32.toNatClampNeg (v1 + 3))) : Int32).toInt = x350.toInt := Eq.trans (congrArg Int32.toInt (rd_e (show (Int32.toNatClampNeg (v1 + 3)) = (Int32.toNatClampNeg (v1 + ((1 + 1) + 1))) from rfl))) rfl
            have fl385 : (((uI I351 102 (Int32.toNatClampNeg (v1 + ((1 + 1) + 1))) x350) 102 (Int32.toNatClampNeg (v1 + 3))) : Int32).toInt = x350.toInt := e384
            have e386 : ((v1 + 5) : Int32).toInt = (v1.toInt) + (5) := ti_add rfl rfl (by first | (clear p303 b312 b313 b314 b315 b316 b317 i318 p328 b340 b341 b342 i343 p354 b366 b367 b368 i369; omega) | omega)
            have e387 : (((uI I351 102 (Int32.toNatClampNeg (v1 + ((1 + 1) + 1))) x350) 102 (Int32.toNatClampNeg (v1 + 5))) : Int32).toInt = (I 102 (Int32.toNatClampNeg (v1 + 5))).toInt := Eq.trans (congrArg Int32.toInt (Eq.trans (Eq.trans (Eq.trans (Eq.trans (Eq.trans (rd_k (fun z => by have z1 := tn_of (show ((v1 + 5) : Int32).toInt = (v1.toInt + 5) from e386) (by first | (clear p303 b315 b316 b317 i318 p328 b340 b341 b342 i343; omega) | omega); have z2 := tn_of (show ((v1 + ((1 + 1) + 1)) : Int32).toInt = (v1.toInt + ((1 + 1) + 1)) from e371) (by first | (clear p303 b315 b316 b317 i318 p328 b340 b341 b342 i343; omega) | omega); omega)) (f357.1 (Int32.toNatClampNeg (v1 + 5)) trivial)) (rd_k (fun z => by have z1 := tn_of (show ((v1 + 5) : Int32).toInt = (v1.toInt + 5) from e386) (by first | (clear p303 b315 b316 b317 i318 p328 b340 b341 b342 i343; omega) | omega); have z2 := tn_of (show ((v1 + (1 + 1)) : Int32).toInt = (v1.toInt + (1 + 1)) from e345) (by first | (clear p303 b315 b316 b317 i318 p328 b340 b341 b342 i343; omega) | omega); omega))) (f331.1 (Int32.toNatClampNeg (v1 + 5)) trivial)) (rd_k (fun z => by have z1 := tn_of (show ((v1 + 5) : Int32).toInt = (v1.toInt + 5) from e386) (by first | (clear p303 b315 b316 b317 i318 p328 b340 b341 b342 i343; omega) | omega); have z2 := tn_of (show ((v1 + 1) : Int32).toInt = (v1.toInt + 1) from e319) (by first | (clear p303 b315 b316 b317 i318 p328 b340 b341 b342 i343; omega) | omega); omega))) (f306.1 (Int32.toNatClampNeg (v1 + 5)) trivial))) rfl
            have fl388 : (((uI I351 102 (Int32.toNatClampNeg (v1 + ((1 + 1) + 1))) x350) 102 (Int32.toNatClampNeg (v1 + 5))) : Int32).toInt = (I 102 (Int32.toNatClampNeg (v1 + 5))).toInt := e387
            have e389 : (((uI I351 102 (Int32.toNatClampNeg (v1 + ((1 + 1) + 1))) x350) 97 12) : Int32).toInt = (I351 97 12).toInt := Eq.trans (congrArg Int32.toInt (rd_ne (by first | decide | omega))) rfl
            have fl390 : (((uI I351 102 (Int32.toNatClampNeg (v1 + ((1 + 1) + 1))) x350) 97 12) : Int32).toInt = (I351 97 12).toInt := e389
            exact hQ _ _ _ _ hB372 ⟨(Eq.trans (Eq.trans (Eq.trans (Eq.trans (Eq.trans (rd_ne (by first | decide | omega)) (Hid.o hh356).1) (rd_ne (by first | decide | omega))) (Hid.o hh330).1) (rd_ne (by first | decide | omega))) (Hid.o hh305).1), f373, (PMp.o (PMp.tr (PMp.o (PMp.tr (PMp.o (PMp.tr (PMp.refl I) m308) (show ¬ (97 : Nat) = 102 by decide)) m333) (show ¬ (97 : Nat) = 102 by decide)) m359) (show ¬ (97 : Nat) = 102 by decide)), (fun hz => by have op0 := Or.resolve_left (Hid.o hh305).2.2.2.2 (fun z => by have b := PMp.bad (PMp.o (PMp.tr (PMp.o (PMp.tr (PMp.o (PMp.refl I300) (show ¬ (97 : Nat) = 102 by decide)) m333) (show ¬ (97 : Nat) = 102 by decide)) m359) (show ¬ (97 : Nat) = 102 by decide)) hz; omega); have op1 := Or.resolve_left (Hid.o hh330).2.2.2.2 (fun z => by have b := PMp.bad (PMp.o (PMp.tr (PMp.o (PMp.refl I325) (show ¬ (97 : Nat) = 102 by decide)) m359) (show ¬ (97 : Nat) = 102 by decide)) hz; omega); have op2 := Or.resolve_left (Hid.o hh356).2.2.2.2 (fun z => by have b := PMp.bad (PMp.o (PMp.refl I351) (show ¬ (97 : Nat) = 102 by decide)) hz; omega); unfold RF; omega)⟩
          · exact absurd c375 (by decide)
