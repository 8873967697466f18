section PT0x0
/-! ===== the small machine's tables, and what is asked of an entry ===== -/
noncomputable def ncl : List vw_C := [(RX0, TX0, 9), (RX1, TX1, 3), (RX2, TX2, 8), (RX3, TX3, 2), (RX4, TX4, 9), (RX5, TX5, 3), (RX6, TX6, 14), (RX7, TX7, 8), (RX8, TX8, 3), (RX9, TX9, 4), (RX10, TX10, 3), (RX11, TX11, 20), (RX12, TX12, 49)]
noncomputable def ntl : List (Nat → FieldType) := [tyX0, tyX1, tyX2, tyX3, tyX4, tyX5, tyX6, tyX7, tyX8, tyX9, tyX10, tyX11, tyX12]
noncomputable def clQ (ci : Nat) : vw_C := ncl.getD ci ("", fun _ => ("", "", "", false), 0)
noncomputable def clC (ci : Nat) : String := (clQ ci).1
noncomputable def clT (ci : Nat) : u_T := (clQ ci).2.1
noncomputable def clN (ci : Nat) : Nat := (clQ ci).2.2
noncomputable def clY (ci : Nat) : Nat → FieldType := ntl.getD ci (fun _ => .int)
noncomputable def elC (t : Nat) : String := match t with
  | 0 => RX10
  | 1 => RX0
  | _ => RX2
noncomputable def aty (t : Nat) : FieldType := match t with
  | 0 => .int
  | 1 => .long
  | 2 => .byte
  | _ => .object (elC (t - 3))
/-- a method's row: code, name, bytes, kind of the answer as the class file has it, numbers -/
noncomputable abbrev Mt : Type := List En × MethodName × ByteArray × Option FieldType × List Nat
noncomputable def mQ (mi : Nat) : Mt := mtab.getD mi ([], ⟨"", "", ""⟩, ⟨#[]⟩, none, [])
noncomputable def qL (q : Mt) : Nat := q.2.2.2.2.getD 0 0
noncomputable def qRk (q : Mt) : Nat := q.2.2.2.2.getD 1 0
noncomputable def qAl (q : Mt) : Nat := q.2.2.2.2.getD 2 0
noncomputable def qPh (q : Mt) : Nat := q.2.2.2.2.getD 3 0
noncomputable def qKr (q : Mt) : Nat := q.2.2.2.2.getD 4 0
noncomputable def qIni (q : Mt) : Nat := q.2.2.2.2.getD 6 0
noncomputable def qIns (q : Mt) : Nat := q.2.2.2.2.getD 7 0
noncomputable def qNa (q : Mt) : Nat := q.2.2.2.2.getD 8 0
noncomputable def qW (q : Mt) : Cond := .code q.2.1 q.2.2.1 (qL q) q.2.2.2.1
/-- the words that an entry needs -/
noncomputable def needE (own : String) (e : En) : List Cond := match e.2.1 with
  | .getfield i => match e.2.2.2.1 with
    | [ci, k, _, _] => [.fieldLink own i (clT ci k).1 (clT ci k).2.1 (clT ci k).2.2.1]
    | _ => []
  | .putfield i => match e.2.2.2.1 with
    | [ci, k, _, _] => [.fieldLink own i (clT ci k).1 (clT ci k).2.1 (clT ci k).2.2.1]
    | _ => []
  | .new i => match e.2.2.2.1 with
    | [ci] => [.classLink own i (clC ci), .instantiable (clC ci) (clN ci), .initialized (clC ci)]
    | _ => []
  | .newarray t => [.arrayClass (newarray.typeOf t)]
  | .anewarray i => match e.2.2.2.1 with
    | [t] => [.classLink own i (elC t)]
    | _ => []
  | .ldc i => [.constant own i (kz e.2.2.2.2.1)]
  | .ldc_w i => [.constant own i (kz e.2.2.2.2.1)]
  | .ldc2_w i => [.constantLong own i e.2.2.2.2.2]
  | .invokevirtual i => match e.2.2.2.1 with
    | [_, mi, _, _, _, ci, _, _] => [.methodLink own i (mQ mi).2.1, .instanceMethod (mQ mi).2.1, .selects (clC ci) (mQ mi).2.1 (mQ mi).2.1, .initialized (clC ci)]
    | _ => []
  | .invokestatic i => match e.2.2.2.1 with
    | [kind, mi, _, _, _, _, _, _] => (bif Nat.beq kind 11 then [] else [Cond.methodLink own i (mQ mi).2.1]) ++ [.static (mQ mi).2.1, .initialized (mQ mi).2.1.cls]
    | [kind, _] => match kind with
      | 4 => [.methodLink own i arraycopyName, .native arraycopyName, .static arraycopyName, .initialized "java/lang/System"]
      | 5 => [.methodLink own i arraycopyName, .native arraycopyName, .static arraycopyName, .initialized "java/lang/System"]
      | 6 => [.methodLink own i Lib.Math.max.name, .static Lib.Math.max.name, .initialized "java/lang/Math"]
      | 7 => [.methodLink own i Lib.Math.min.name, .static Lib.Math.min.name, .initialized "java/lang/Math"]
      | 8 => [.methodLink own i Lib.MathLoose.abs_long.x, .static Lib.MathLoose.abs_long.x, .initialized "java/lang/Math"]
      | _ => []
    | _ => []
  | .invokespecial i => match e.2.2.2.1 with
    | [kind, mi, _, _, _, _, _, _] => (bif Nat.beq kind 12 then [] else [Cond.methodLink own i (mQ mi).2.1]) ++ [.instanceMethod (mQ mi).2.1, .initialized (mQ mi).2.1.cls]
    | [3] => [.methodLink own i objectInit, .instanceMethod objectInit]
    | _ => []
  | _ => []
noncomputable def lnE (i : Jvm.ClassFile.Instr) (len : Nat) : Nat := match i with
  | .bipush _ => 2
  | .sipush _ => 3
  | .ldc _ => 2
  | .ldc_w _ => 3
  | .ldc2_w _ => 3
  | .iload _ => 2
  | .lload _ => 2
  | .aload _ => 2
  | .istore _ => 2
  | .lstore _ => 2
  | .astore _ => 2
  | .iinc _ _ => 3
  | .goto _ => 3
  | .ifCond _ _ => 3
  | .if_icmp _ _ => 3
  | .tableswitch _ _ _ _ => len
  | .lookupswitch _ _ => len
  | .getfield _ => 3
  | .putfield _ => 3
  | .new _ => 3
  | .newarray _ => 2
  | .anewarray _ => 3
  | .invokevirtual _ => 3
  | .invokestatic _ => 3
  | .invokespecial _ => 3
  | _ => 1
noncomputable def isRefTy : FieldType → Bool
  | .object _ => true
  | .array _ => true
  | _ => false
noncomputable def okCall (q : Mt) (na rk al ci ph1 kr : Nat) : Bool := Nat.beq rk (qRk q) && (Nat.beq al (qAl q) && (Nat.beq ph1 (qPh q) && (Nat.beq kr (qKr q) && (Nat.beq na (qNa q) && (decide (q.2.1.cls ≠ "java/lang/invoke/MethodHandle" ∧ q.2.1.cls ≠ "java/lang/invoke/VarHandle" ∧ (parseMethodDescriptor q.2.1.desc).map (fun d => d.parameters.length) = some (na - qIns q)) && Nat.ble (qL q) 16)))))
/-- what an entry must keep, of a method of the class own with nL places for locals -/
noncomputable def okR (own : String) (nL ini : Nat) (e : En) : Bool :=
  (Nat.beq e.2.2.1 (lnE e.2.1 e.2.2.1) && (match e.2.1 with
  | .iconst i => decide (Int32.ofInt i = kz e.2.2.2.2.1)
  | .bipush i => decide ((Int8.ofInt i).toInt32 = kz e.2.2.2.2.1)
  | .sipush i => decide ((Int16.ofInt i).toInt32 = kz e.2.2.2.2.1)
  | .lconst k => decide (Int64.ofNat (k : Nat) = e.2.2.2.2.2)
  | .istore_n k => Nat.blt k.val nL
  | .istore k => Nat.blt k nL
  | .astore_n k => Nat.blt k.val nL
  | .astore k => Nat.blt k nL
  | .lstore_n k => Nat.blt (k.val + 1) nL
  | .lstore k => Nat.blt (k + 1) nL
  | .iinc k i => decide (Int32.ofInt i = kz e.2.2.2.2.1) && Nat.blt k nL
  | .goto off => decide ((e.1 : Int) + off = (e.2.2.2.1.getD 0 0 : Nat))
  | .ifCond _ off => decide ((e.1 : Int) + off = (e.2.2.2.1.getD 0 0 : Nat))
  | .if_icmp _ off => decide ((e.1 : Int) + off = (e.2.2.2.1.getD 0 0 : Nat))
  | .tableswitch d lo hi offs => decide ((e.1 : Int) + d = (e.2.2.2.1.getD 0 0 : Nat)) && (decide (-1000 ≤ lo ∧ hi ≤ 1000 ∧ lo ≤ hi + 1 ∧ e.2.2.2.2.1 = (List.range (hi + 1 - lo).toNat).map (fun (j : Nat) => Int32.ofInt (lo + (j : Int)))) && decide (offs.toList.map (fun o => (e.1 : Int) + o) = e.2.2.2.1.tail.map (fun (t : Nat) => (t : Int)) ∧ offs.toList.length = (hi + 1 - lo).toNat))
  | .lookupswitch d ps => decide ((e.1 : Int) + d = (e.2.2.2.1.getD 0 0 : Nat)) && (decide (ps.toList.map (fun q => q.1) = e.2.2.2.2.1.map (fun k => k.toInt)) && (decide (ps.toList.map (fun q => (e.1 : Int) + q.2) = e.2.2.2.1.tail.map (fun (t : Nat) => (t : Int))) && (ps.toList.zip (ps.toList.drop 1)).all (fun (a, next) => a.1 < next.1)))
  | .getfield _ => match e.2.2.2.1 with
    | [ci, k, kd, of] => Nat.blt ci 13 && (Nat.blt k (clN ci) && (Nat.beq kd (fkd ci k) && Nat.beq of (fof ci k)))
    | _ => false
  | .putfield _ => match e.2.2.2.1 with
    | [ci, k, kd, of] => Nat.blt ci 13 && (Nat.blt k (clN ci) && (Nat.beq kd (fkd ci k) && (Nat.beq of (fof ci k) && (match kd with
      | 0 => decide (clY ci k = .int ∧ (clT ci k).2.2.2 = false)
      | 1 => decide (clY ci k = .boolean ∧ (clT ci k).2.2.2 = false)
      | 2 => decide (clY ci k = .long ∧ (clT ci k).2.2.2 = false)
      | 3 => isRefTy (clY ci k) && decide ((clT ci k).2.2.2 = false)
      | _ => isRefTy (clY ci k) && (decide ((clT ci k).2.2.2 = true ∧ (clT ci k).1 = own) && Nat.beq ini 1)))))
    | _ => false
  | .new _ => match e.2.2.2.1 with
    | [ci] => Nat.blt ci 13
    | _ => false
  | .newarray t => match e.2.2.2.1 with
    | [k] => decide (newarray.typeOf t = aty k) && Nat.blt k 3
    | _ => false
  | .anewarray _ => match e.2.2.2.1 with
    | [t] => Nat.blt t 3
    | _ => false
  | .aaload => match e.2.2.2.1 with
    | [t] => Nat.blt t 3
    | _ => false
  | .aastore => match e.2.2.2.1 with
    | [t, ci] => Nat.blt t 3 && (Nat.blt ci 13 && decide (elC t = clC ci))
    | _ => false
  | .invokevirtual _ => match e.2.2.2.1 with
    | [_, mi, na, rk, al, ci, ph1, kr] => okCall (mQ mi) na rk al ci ph1 kr && (Nat.blt mi nMth && (decide ((mQ mi).2.1.cls = clC ci) && (Nat.beq (qIns (mQ mi)) 1 && Nat.blt ci 13)))
    | _ => false
  | .invokestatic _ => match e.2.2.2.1 with
    | [kind, mi, na, rk, al, ci, ph1, kr] => okCall (mQ mi) na rk al ci ph1 kr && (Nat.blt mi nMth && (Nat.beq (qIns (mQ mi)) 0 && (bif Nat.beq kind 11 then nestW.any (fun q => decide (q.1 = own ∧ Jvm.ClassFile.Instr.invokestatic q.2.1 = e.2.1 ∧ q.2.2 = (mQ mi).2.1)) else true)))
    | [_, _] => true
    | _ => false
  | .invokespecial _ => match e.2.2.2.1 with
    | [kind, mi, na, rk, al, ci, ph1, kr] => okCall (mQ mi) na rk al ci ph1 kr && (Nat.blt mi nMth && (Nat.beq (qIns (mQ mi)) 1 && (decide ((mQ mi).2.1.name = "<init>" ∧ (mQ mi).2.2.2.1 = none) && (bif Nat.beq kind 12 then nestW.any (fun q => decide (q.1 = own ∧ Jvm.ClassFile.Instr.invokespecial q.2.1 = e.2.1 ∧ q.2.2 = (mQ mi).2.1)) else true))))
    | [3] => true
    | _ => false
  | _ => true))
noncomputable def okE (own : String) (cc : ByteArray) (nL ini : Nat) (e : En) : Bool := decide (decode cc e.1 = .ok (e.2.1, e.2.2.1)) && okR own nL ini e
/-- the words that every method has -/
noncomputable def wsG : List Cond := lw_tbl.filter goodWord
theorem wsG_in {w : Cond} (h : w ∈ lw_tbl) (g : goodWord w = true) : w ∈ wsG := List.mem_filter.mpr ⟨h, g⟩
theorem wsG_good {w : Cond} (h : w ∈ wsG) : goodWord w = true := (List.mem_filter.mp h).2
theorem wsG_law {w : Cond} (h : w ∈ wsG) : w ∈ lw_tbl := (List.mem_filter.mp h).1
/-- a method's row is right -/
noncomputable def OkM (q : Mt) : Prop := (∀ e ∈ q.1, okE q.2.1.cls q.2.2.1 (qL q) (qIni q) e = true) ∧ (∀ e ∈ q.1, ∀ w ∈ needE q.2.1.cls e, w ∈ wsG) ∧ plainName q.2.1.cls = true ∧ (qIni q = 1 → q.2.1.name = "<init>") ∧ (qRk q = 0 → q.2.2.2.1 = none) ∧ (qRk q = 1 → q.2.2.2.1 = some .int) ∧ (qRk q = 2 → q.2.2.2.1 = some .boolean) ∧ (qRk q = 3 → q.2.2.2.1 = some .long)
/-- the words that are no names, as numbers -/
noncomputable def rsv : List Int64 := [0, 495763, 20594245, 21279923, 13358, 4773, 89, 8243, 12009198, 3764, 20459828, 239301, 656741, 66917, 1497, 762030, 186542, 8892563, 12619123, 409072, 5572, 643568]
/-- the one method with a text in it, by hand: what it leaves -/
noncomputable def hReader (n : Nat) (as : List Value) (I : Im) (J : Jm) (R : Rm) (Q : Qt) : Prop := ∃ o : Nat, as = [.ref o] ∧ isO n o 6 = true ∧ (isA (n + 2) (n + 1) 2 = true ∧ aL (n + 1) = 900 ∧ isA (n + 2) (n + 2) 1 = true ∧ aL (n + 2) = 22 ∧ n + 1 = o + 1) ∧
  ∀ (I' : Im) (J' : Jm) (R' : Rm), (∀ i, i ≠ o → i ≠ n + 1 → i ≠ n + 2 → I' i = I i) → (∀ i, i ≠ o → i ≠ n + 1 → i ≠ n + 2 → J' i = J i) → (∀ i, i ≠ o → i ≠ n + 1 → i ≠ n + 2 → R' i = R i) →
    ((∀ k, I' (n + 1) k = 0) ∧ R' o 0 = n + 1 ∧ R' o 2 = n + 2 ∧ I' o 1 = 0 ∧ I' o 3 = 0 ∧ I' o 4 = 0 ∧ I' o 5 = 0 ∧ I' o 6 = 0 ∧ I' o 7 = 0 ∧ I' o 8 = 0 ∧ I' o 9 = -1 ∧ J' o 10 = 0 ∧ I' o 11 = 0 ∧ I' o 12 = 0 ∧ I' o 13 = -1 ∧ ∀ k, k < 22 → J' (n + 2) k = rsv.getD k 0) → Q 0 0 I' J' R'
/-- calls by depth -/
noncomputable def AM : Nat → Mc
  | 0 => fun _ _ _ _ _ _ _ => False
  | d + 1 => fun mi n as I J R Q => bif Nat.beq mi mReader then (bif Nat.ble 5 d then hReader n as I J R Q else False) else
      ((lg_sl as).length ≤ qL (mQ mi) ∧ AW (AM d) (Nat.beq (qPh (mQ mi)) 1) false 0 (fun _ => 0) (qRk (mQ mi)) (n + qAl (mQ mi)) (mQ mi).1 (fun n' x y I' J' R' => n' = n + qAl (mQ mi) ∧ (qKr (mQ mi) = 1 → R' = R) ∧ Q x y I' J' R') 0 n (lv_args 0 as) [] I J R)
end PT0x0
section PT0x1
/-! ===== decoding along a list of bytes ===== -/
noncomputable def bts (cc : ByteArray) : List Nat := cc.data.toList.map UInt8.toNat
noncomputable abbrev Dr (α : Type) : Type := Jvm.ClassFile.Decoder α
theorem bts_tl {cc : ByteArray} {p x : Nat} {r : List Nat} (h : (bts cc).drop p = x :: r) : (bts cc).drop (p + 1) = r := by
  have e := congrArg (List.drop 1) h
  rw [List.drop_drop] at e
  exact e
theorem bts_at {cc : ByteArray} {p x : Nat} {r : List Nat} (h : (bts cc).drop p = x :: r) : ∃ hp : p < cc.size, cc[p].toNat = x := by
  have e0 : ((bts cc).drop p)[0]? = some x := by rw [h]; rfl
  rw [List.getElem?_drop] at e0
  have e : (bts cc)[p]? = some x := e0
  unfold bts at e
  rw [List.getElem?_map] at e
  cases q : cc.data.toList[p]? with
  | none =>
    rw [q] at e
    cases (show (none : Option Nat) = some x from e)
  | some b =>
    rw [q] at e
    obtain ⟨hp, hb⟩ := List.getElem?_eq_some_iff.mp q
    refine ⟨by simpa using hp, ?_⟩
    have e2 : b.toNat = x := Option.some.inj e
    rw [← e2, ← hb]; rfl
theorem u1_at {cc : ByteArray} {p x : Nat} {r : List Nat} (h : (bts cc).drop p = x :: r) : (Jvm.ClassFile.Reader.u1 : Dr Nat) cc p = .ok (x, p + 1) := by
  obtain ⟨hp, hx⟩ := bts_at h
  have e : (Jvm.ClassFile.Reader.u1 : Dr Nat) cc p = .ok (cc[p].toNat, p + 1) := by
    show (do if h : p < cc.size then do set (p + 1); Pure.pure cc[p].toNat else MonadExcept.throw (Jvm.ClassFile.HasTruncated.truncated p) : Dr Nat) cc p = _
    rw [dif_pos hp]; rfl
  rw [e, hx]
theorem bind_at {α β : Type} {r : Dr α} {f : α → Dr β} {cc : ByteArray} {p s : Nat} {a : α} (h : r cc p = .ok (a, s)) : (r >>= f) cc p = f a cc s := by
  show (do let (a, s) ← r cc p; f a cc s : Except Jvm.ClassFile.DecodeError (β × Nat)) = _
  rw [h]; rfl
theorem map_at {α β : Type} {r : Dr α} {g : α → β} {cc : ByteArray} {p s : Nat} {a : α} (h : r cc p = .ok (a, s)) : (g <$> r) cc p = .ok (g a, s) := by
  show (do let (a, s) ← r cc p; .ok (g a, s) : Except Jvm.ClassFile.DecodeError (β × Nat)) = _
  rw [h]; rfl
theorem u2_at {cc : ByteArray} {p x y : Nat} {r : List Nat} (h : (bts cc).drop p = x :: y :: r) : (Jvm.ClassFile.Reader.u2 : Dr Nat) cc p = .ok (x * 256 + y, p + 2) := by
  delta Jvm.ClassFile.Reader.u2
  refine Eq.trans (bind_at (u1_at h)) ?_
  refine Eq.trans (bind_at (u1_at (bts_tl h))) ?_
  rfl
theorem s1_at {cc : ByteArray} {p x : Nat} {r : List Nat} (h : (bts cc).drop p = x :: r) : (Jvm.ClassFile.Reader.s1 : Dr Int) cc p = .ok (Jvm.ClassFile.Reader.signed 8 x, p + 1) := map_at (u1_at h)
theorem s2_at {cc : ByteArray} {p x y : Nat} {r : List Nat} (h : (bts cc).drop p = x :: y :: r) : (Jvm.ClassFile.Reader.s2 : Dr Int) cc p = .ok (Jvm.ClassFile.Reader.signed 16 (x * 256 + y), p + 2) := map_at (u2_at h)
theorem dec_at {cc : ByteArray} {p n : Nat} {i : Jvm.ClassFile.Instr} (h : Jvm.ClassFile.Decoder.instr p cc p = .ok (i, p + n)) : decode cc p = .ok (i, n) := by
  show (do let (i, s) ← (Jvm.ClassFile.Decoder.instr p cc p : Except Jvm.ClassFile.DecodeError (Jvm.ClassFile.Instr × Nat)); Pure.pure (i, s - p) : Except Jvm.ClassFile.DecodeError (Jvm.ClassFile.Instr × Nat)) = _
  rw [h]
  show Except.ok (i, p + n - p) = _
  rw [Nat.add_sub_cancel_left]
/-- what an opcode alone, with one byte, with two bytes behind it says -/
noncomputable def Sn1 (op : Nat) (i : Jvm.ClassFile.Instr) : Prop := ∀ (cc : ByteArray) (p : Nat) (r : List Nat), (bts cc).drop p = op :: r → Jvm.ClassFile.Decoder.instr p cc p = .ok (i, p + 1)
noncomputable def Sn2 (op : Nat) (i : Nat → Jvm.ClassFile.Instr) : Prop := ∀ (cc : ByteArray) (p x : Nat) (r : List Nat), (bts cc).drop p = op :: x :: r → Jvm.ClassFile.Decoder.instr p cc p = .ok (i x, p + 2)
noncomputable def Sn3 (op : Nat) (i : Nat → Nat → Jvm.ClassFile.Instr) : Prop := ∀ (cc : ByteArray) (p x y : Nat) (r : List Nat), (bts cc).drop p = op :: x :: y :: r → Jvm.ClassFile.Decoder.instr p cc p = .ok (i x y, p + 3)
set_option maxRecDepth 100000 in
theorem sn_42 : Sn1 42 (.aload_n 0) := fun cc p r h => by
  delta Jvm.ClassFile.Decoder.instr
  refine Eq.trans (bind_at (u1_at h)) ?_
  rfl
set_option maxRecDepth 100000 in
theorem sn_43 : Sn1 43 (.aload_n 1) := fun cc p r h => by
  delta Jvm.ClassFile.Decoder.instr
  refine Eq.trans (bind_at (u1_at h)) ?_
  rfl
set_option maxRecDepth 100000 in
theorem sn_44 : Sn1 44 (.aload_n 2) := fun cc p r h => by
  delta Jvm.ClassFile.Decoder.instr
  refine Eq.trans (bind_at (u1_at h)) ?_
  rfl
set_option maxRecDepth 100000 in
theorem sn_45 : Sn1 45 (.aload_n 3) := fun cc p r h => by
  delta Jvm.ClassFile.Decoder.instr
  refine Eq.trans (bind_at (u1_at h)) ?_
  rfl
set_option maxRecDepth 100000 in
theorem sn_2 : Sn1 2 (.iconst (-1)) := fun cc p r h => by
  delta Jvm.ClassFile.Decoder.instr
  refine Eq.trans (bind_at (u1_at h)) ?_
  rfl
set_option maxRecDepth 100000 in
theorem sn_3 : Sn1 3 (.iconst 0) := fun cc p r h => by
  delta Jvm.ClassFile.Decoder.instr
  refine Eq.trans (bind_at (u1_at h)) ?_
  rfl
set_option maxRecDepth 100000 in
theorem sn_4 : Sn1 4 (.iconst 1) := fun cc p r h => by
  delta Jvm.ClassFile.Decoder.instr
  refine Eq.trans (bind_at (u1_at h)) ?_
  rfl
set_option maxRecDepth 100000 in
theorem sn_5 : Sn1 5 (.iconst 2) := fun cc p r h => by
  delta Jvm.ClassFile.Decoder.instr
  refine Eq.trans (bind_at (u1_at h)) ?_
  rfl
set_option maxRecDepth 100000 in
theorem sn_6 : Sn1 6 (.iconst 3) := fun cc p r h => by
  delta Jvm.ClassFile.Decoder.instr
  refine Eq.trans (bind_at (u1_at h)) ?_
  rfl
set_option maxRecDepth 100000 in
theorem sn_7 : Sn1 7 (.iconst 4) := fun cc p r h => by
  delta Jvm.ClassFile.Decoder.instr
  refine Eq.trans (bind_at (u1_at h)) ?_
  rfl
set_option maxRecDepth 100000 in
theorem sn_8 : Sn1 8 (.iconst 5) := fun cc p r h => by
  delta Jvm.ClassFile.Decoder.instr
  refine Eq.trans (bind_at (u1_at h)) ?_
  rfl
set_option maxRecDepth 100000 in
theorem sn_26 : Sn1 26 (.iload_n 0) := fun cc p r h => by
  delta Jvm.ClassFile.Decoder.instr
  refine Eq.trans (bind_at (u1_at h)) ?_
  rfl
set_option maxRecDepth 100000 in
theorem sn_27 : Sn1 27 (.iload_n 1) := fun cc p r h => by
  delta Jvm.ClassFile.Decoder.instr
  refine Eq.trans (bind_at (u1_at h)) ?_
  rfl
set_option maxRecDepth 100000 in
theorem sn_28 : Sn1 28 (.iload_n 2) := fun cc p r h => by
  delta Jvm.ClassFile.Decoder.instr
  refine Eq.trans (bind_at (u1_at h)) ?_
  rfl
set_option maxRecDepth 100000 in
theorem sn_29 : Sn1 29 (.iload_n 3) := fun cc p r h => by
  delta Jvm.ClassFile.Decoder.instr
  refine Eq.trans (bind_at (u1_at h)) ?_
  rfl
set_option maxRecDepth 100000 in
theorem sn_172 : Sn1 172 (.ireturn) := fun cc p r h => by
  delta Jvm.ClassFile.Decoder.instr
  refine Eq.trans (bind_at (u1_at h)) ?_
  rfl
set_option maxRecDepth 100000 in
theorem sn_46 : Sn1 46 (.iaload) := fun cc p r h => by
  delta Jvm.ClassFile.Decoder.instr
  refine Eq.trans (bind_at (u1_at h)) ?_
  rfl
set_option maxRecDepth 100000 in
theorem sn_96 : Sn1 96 (.iadd) := fun cc p r h => by
  delta Jvm.ClassFile.Decoder.instr
  refine Eq.trans (bind_at (u1_at h)) ?_
  rfl
set_option maxRecDepth 100000 in
theorem sn_59 : Sn1 59 (.istore_n 0) := fun cc p r h => by
  delta Jvm.ClassFile.Decoder.instr
  refine Eq.trans (bind_at (u1_at h)) ?_
  rfl
set_option maxRecDepth 100000 in
theorem sn_60 : Sn1 60 (.istore_n 1) := fun cc p r h => by
  delta Jvm.ClassFile.Decoder.instr
  refine Eq.trans (bind_at (u1_at h)) ?_
  rfl
set_option maxRecDepth 100000 in
theorem sn_61 : Sn1 61 (.istore_n 2) := fun cc p r h => by
  delta Jvm.ClassFile.Decoder.instr
  refine Eq.trans (bind_at (u1_at h)) ?_
  rfl
set_option maxRecDepth 100000 in
theorem sn_62 : Sn1 62 (.istore_n 3) := fun cc p r h => by
  delta Jvm.ClassFile.Decoder.instr
  refine Eq.trans (bind_at (u1_at h)) ?_
  rfl
set_option maxRecDepth 100000 in
theorem sn_87 : Sn1 87 (.pop) := fun cc p r h => by
  delta Jvm.ClassFile.Decoder.instr
  refine Eq.trans (bind_at (u1_at h)) ?_
  rfl
set_option maxRecDepth 100000 in
theorem sn_79 : Sn1 79 (.iastore) := fun cc p r h => by
  delta Jvm.ClassFile.Decoder.instr
  refine Eq.trans (bind_at (u1_at h)) ?_
  rfl
set_option maxRecDepth 100000 in
theorem sn_100 : Sn1 100 (.isub) := fun cc p r h => by
  delta Jvm.ClassFile.Decoder.instr
  refine Eq.trans (bind_at (u1_at h)) ?_
  rfl
set_option maxRecDepth 100000 in
theorem sn_133 : Sn1 133 (.i2l) := fun cc p r h => by
  delta Jvm.ClassFile.Decoder.instr
  refine Eq.trans (bind_at (u1_at h)) ?_
  rfl
set_option maxRecDepth 100000 in
theorem sn_9 : Sn1 9 (.lconst 0) := fun cc p r h => by
  delta Jvm.ClassFile.Decoder.instr
  refine Eq.trans (bind_at (u1_at h)) ?_
  rfl
set_option maxRecDepth 100000 in
theorem sn_10 : Sn1 10 (.lconst 1) := fun cc p r h => by
  delta Jvm.ClassFile.Decoder.instr
  refine Eq.trans (bind_at (u1_at h)) ?_
  rfl
set_option maxRecDepth 100000 in
theorem sn_30 : Sn1 30 (.lload_n 0) := fun cc p r h => by
  delta Jvm.ClassFile.Decoder.instr
  refine Eq.trans (bind_at (u1_at h)) ?_
  rfl
set_option maxRecDepth 100000 in
theorem sn_31 : Sn1 31 (.lload_n 1) := fun cc p r h => by
  delta Jvm.ClassFile.Decoder.instr
  refine Eq.trans (bind_at (u1_at h)) ?_
  rfl
set_option maxRecDepth 100000 in
theorem sn_32 : Sn1 32 (.lload_n 2) := fun cc p r h => by
  delta Jvm.ClassFile.Decoder.instr
  refine Eq.trans (bind_at (u1_at h)) ?_
  rfl
set_option maxRecDepth 100000 in
theorem sn_33 : Sn1 33 (.lload_n 3) := fun cc p r h => by
  delta Jvm.ClassFile.Decoder.instr
  refine Eq.trans (bind_at (u1_at h)) ?_
  rfl
set_option maxRecDepth 100000 in
theorem sn_177 : Sn1 177 (.return_) := fun cc p r h => by
  delta Jvm.ClassFile.Decoder.instr
  refine Eq.trans (bind_at (u1_at h)) ?_
  rfl
set_option maxRecDepth 100000 in
theorem sn_148 : Sn1 148 (.lcmp) := fun cc p r h => by
  delta Jvm.ClassFile.Decoder.instr
  refine Eq.trans (bind_at (u1_at h)) ?_
  rfl
set_option maxRecDepth 100000 in
theorem sn_89 : Sn1 89 (.dup) := fun cc p r h => by
  delta Jvm.ClassFile.Decoder.instr
  refine Eq.trans (bind_at (u1_at h)) ?_
  rfl
set_option maxRecDepth 100000 in
theorem sn_104 : Sn1 104 (.imul) := fun cc p r h => by
  delta Jvm.ClassFile.Decoder.instr
  refine Eq.trans (bind_at (u1_at h)) ?_
  rfl
set_option maxRecDepth 100000 in
theorem sn_173 : Sn1 173 (.lreturn) := fun cc p r h => by
  delta Jvm.ClassFile.Decoder.instr
  refine Eq.trans (bind_at (u1_at h)) ?_
  rfl
set_option maxRecDepth 100000 in
theorem sn_63 : Sn1 63 (.lstore_n 0) := fun cc p r h => by
  delta Jvm.ClassFile.Decoder.instr
  refine Eq.trans (bind_at (u1_at h)) ?_
  rfl
set_option maxRecDepth 100000 in
theorem sn_64 : Sn1 64 (.lstore_n 1) := fun cc p r h => by
  delta Jvm.ClassFile.Decoder.instr
  refine Eq.trans (bind_at (u1_at h)) ?_
  rfl
set_option maxRecDepth 100000 in
theorem sn_65 : Sn1 65 (.lstore_n 2) := fun cc p r h => by
  delta Jvm.ClassFile.Decoder.instr
  refine Eq.trans (bind_at (u1_at h)) ?_
  rfl
set_option maxRecDepth 100000 in
theorem sn_66 : Sn1 66 (.lstore_n 3) := fun cc p r h => by
  delta Jvm.ClassFile.Decoder.instr
  refine Eq.trans (bind_at (u1_at h)) ?_
  rfl
set_option maxRecDepth 100000 in
theorem sn_92 : Sn1 92 (.dup2) := fun cc p r h => by
  delta Jvm.ClassFile.Decoder.instr
  refine Eq.trans (bind_at (u1_at h)) ?_
  rfl
set_option maxRecDepth 100000 in
theorem sn_105 : Sn1 105 (.lmul) := fun cc p r h => by
  delta Jvm.ClassFile.Decoder.instr
  refine Eq.trans (bind_at (u1_at h)) ?_
  rfl
set_option maxRecDepth 100000 in
theorem sn_97 : Sn1 97 (.ladd) := fun cc p r h => by
  delta Jvm.ClassFile.Decoder.instr
  refine Eq.trans (bind_at (u1_at h)) ?_
  rfl
set_option maxRecDepth 100000 in
theorem sn_101 : Sn1 101 (.lsub) := fun cc p r h => by
  delta Jvm.ClassFile.Decoder.instr
  refine Eq.trans (bind_at (u1_at h)) ?_
  rfl
set_option maxRecDepth 100000 in
theorem sn_47 : Sn1 47 (.laload) := fun cc p r h => by
  delta Jvm.ClassFile.Decoder.instr
  refine Eq.trans (bind_at (u1_at h)) ?_
  rfl
set_option maxRecDepth 100000 in
theorem sn_120 : Sn1 120 (.ishl) := fun cc p r h => by
  delta Jvm.ClassFile.Decoder.instr
  refine Eq.trans (bind_at (u1_at h)) ?_
  rfl
set_option maxRecDepth 100000 in
theorem sn_109 : Sn1 109 (.ldiv) := fun cc p r h => by
  delta Jvm.ClassFile.Decoder.instr
  refine Eq.trans (bind_at (u1_at h)) ?_
  rfl
set_option maxRecDepth 100000 in
theorem sn_50 : Sn1 50 (.aaload) := fun cc p r h => by
  delta Jvm.ClassFile.Decoder.instr
  refine Eq.trans (bind_at (u1_at h)) ?_
  rfl
set_option maxRecDepth 100000 in
theorem sn_136 : Sn1 136 (.l2i) := fun cc p r h => by
  delta Jvm.ClassFile.Decoder.instr
  refine Eq.trans (bind_at (u1_at h)) ?_
  rfl
set_option maxRecDepth 100000 in
theorem sn_126 : Sn1 126 (.iand) := fun cc p r h => by
  delta Jvm.ClassFile.Decoder.instr
  refine Eq.trans (bind_at (u1_at h)) ?_
  rfl
set_option maxRecDepth 100000 in
theorem sn_128 : Sn1 128 (.ior) := fun cc p r h => by
  delta Jvm.ClassFile.Decoder.instr
  refine Eq.trans (bind_at (u1_at h)) ?_
  rfl
set_option maxRecDepth 100000 in
theorem sn_80 : Sn1 80 (.lastore) := fun cc p r h => by
  delta Jvm.ClassFile.Decoder.instr
  refine Eq.trans (bind_at (u1_at h)) ?_
  rfl
set_option maxRecDepth 100000 in
theorem sn_51 : Sn1 51 (.baload) := fun cc p r h => by
  delta Jvm.ClassFile.Decoder.instr
  refine Eq.trans (bind_at (u1_at h)) ?_
  rfl
set_option maxRecDepth 100000 in
theorem sn_130 : Sn1 130 (.ixor) := fun cc p r h => by
  delta Jvm.ClassFile.Decoder.instr
  refine Eq.trans (bind_at (u1_at h)) ?_
  rfl
set_option maxRecDepth 100000 in
theorem sn_112 : Sn1 112 (.irem) := fun cc p r h => by
  delta Jvm.ClassFile.Decoder.instr
  refine Eq.trans (bind_at (u1_at h)) ?_
  rfl
set_option maxRecDepth 100000 in
theorem sn_88 : Sn1 88 (.pop2) := fun cc p r h => by
  delta Jvm.ClassFile.Decoder.instr
  refine Eq.trans (bind_at (u1_at h)) ?_
  rfl
set_option maxRecDepth 100000 in
theorem sn_124 : Sn1 124 (.iushr) := fun cc p r h => by
  delta Jvm.ClassFile.Decoder.instr
  refine Eq.trans (bind_at (u1_at h)) ?_
  rfl
set_option maxRecDepth 100000 in
theorem sn_145 : Sn1 145 (.i2b) := fun cc p r h => by
  delta Jvm.ClassFile.Decoder.instr
  refine Eq.trans (bind_at (u1_at h)) ?_
  rfl
set_option maxRecDepth 100000 in
theorem sn_113 : Sn1 113 (.lrem) := fun cc p r h => by
  delta Jvm.ClassFile.Decoder.instr
  refine Eq.trans (bind_at (u1_at h)) ?_
  rfl
set_option maxRecDepth 100000 in
theorem sn_75 : Sn1 75 (.astore_n 0) := fun cc p r h => by
  delta Jvm.ClassFile.Decoder.instr
  refine Eq.trans (bind_at (u1_at h)) ?_
  rfl
set_option maxRecDepth 100000 in
theorem sn_76 : Sn1 76 (.astore_n 1) := fun cc p r h => by
  delta Jvm.ClassFile.Decoder.instr
  refine Eq.trans (bind_at (u1_at h)) ?_
  rfl
set_option maxRecDepth 100000 in
theorem sn_77 : Sn1 77 (.astore_n 2) := fun cc p r h => by
  delta Jvm.ClassFile.Decoder.instr
  refine Eq.trans (bind_at (u1_at h)) ?_
  rfl
set_option maxRecDepth 100000 in
theorem sn_78 : Sn1 78 (.astore_n 3) := fun cc p r h => by
  delta Jvm.ClassFile.Decoder.instr
  refine Eq.trans (bind_at (u1_at h)) ?_
  rfl
set_option maxRecDepth 100000 in
theorem sn_190 : Sn1 190 (.arraylength) := fun cc p r h => by
  delta Jvm.ClassFile.Decoder.instr
  refine Eq.trans (bind_at (u1_at h)) ?_
  rfl
set_option maxRecDepth 100000 in
theorem sn_108 : Sn1 108 (.idiv) := fun cc p r h => by
  delta Jvm.ClassFile.Decoder.instr
  refine Eq.trans (bind_at (u1_at h)) ?_
  rfl
set_option maxRecDepth 100000 in
theorem sn_84 : Sn1 84 (.bastore) := fun cc p r h => by
  delta Jvm.ClassFile.Decoder.instr
  refine Eq.trans (bind_at (u1_at h)) ?_
  rfl
set_option maxRecDepth 100000 in
theorem sn_83 : Sn1 83 (.aastore) := fun cc p r h => by
  delta Jvm.ClassFile.Decoder.instr
  refine Eq.trans (bind_at (u1_at h)) ?_
  rfl
set_option maxRecDepth 100000 in
theorem sn_121 : Sn1 121 (.lshl) := fun cc p r h => by
  delta Jvm.ClassFile.Decoder.instr
  refine Eq.trans (bind_at (u1_at h)) ?_
  rfl
set_option maxRecDepth 100000 in
theorem sn_129 : Sn1 129 (.lor) := fun cc p r h => by
  delta Jvm.ClassFile.Decoder.instr
  refine Eq.trans (bind_at (u1_at h)) ?_
  rfl
set_option maxRecDepth 100000 in
theorem sn_127 : Sn1 127 (.land) := fun cc p r h => by
  delta Jvm.ClassFile.Decoder.instr
  refine Eq.trans (bind_at (u1_at h)) ?_
  rfl
set_option maxRecDepth 100000 in
theorem sn_122 : Sn1 122 (.ishr) := fun cc p r h => by
  delta Jvm.ClassFile.Decoder.instr
  refine Eq.trans (bind_at (u1_at h)) ?_
  rfl
set_option maxRecDepth 100000 in
theorem sn_147 : Sn1 147 (.i2s) := fun cc p r h => by
  delta Jvm.ClassFile.Decoder.instr
  refine Eq.trans (bind_at (u1_at h)) ?_
  rfl
set_option maxRecDepth 100000 in
theorem sn_117 : Sn1 117 (.lneg) := fun cc p r h => by
  delta Jvm.ClassFile.Decoder.instr
  refine Eq.trans (bind_at (u1_at h)) ?_
  rfl
set_option maxRecDepth 100000 in
theorem sn_116 : Sn1 116 (.ineg) := fun cc p r h => by
  delta Jvm.ClassFile.Decoder.instr
  refine Eq.trans (bind_at (u1_at h)) ?_
  rfl
set_option maxRecDepth 100000 in
theorem sn_176 : Sn1 176 (.areturn) := fun cc p r h => by
  delta Jvm.ClassFile.Decoder.instr
  refine Eq.trans (bind_at (u1_at h)) ?_
  rfl
set_option maxRecDepth 100000 in
theorem sn_16 : Sn2 16 (fun x => .bipush (Jvm.ClassFile.Reader.signed 8 x)) := fun cc p x r h => by
  delta Jvm.ClassFile.Decoder.instr
  refine Eq.trans (bind_at (u1_at h)) ?_
  refine Eq.trans (bind_at (s1_at (bts_tl h))) ?_
  rfl
set_option maxRecDepth 100000 in
theorem sn_21 : Sn2 21 (fun x => .iload x) := fun cc p x r h => by
  delta Jvm.ClassFile.Decoder.instr
  refine Eq.trans (bind_at (u1_at h)) ?_
  refine Eq.trans (bind_at (u1_at (bts_tl h))) ?_
  rfl
set_option maxRecDepth 100000 in
theorem sn_54 : Sn2 54 (fun x => .istore x) := fun cc p x r h => by
  delta Jvm.ClassFile.Decoder.instr
  refine Eq.trans (bind_at (u1_at h)) ?_
  refine Eq.trans (bind_at (u1_at (bts_tl h))) ?_
  rfl
set_option maxRecDepth 100000 in
theorem sn_22 : Sn2 22 (fun x => .lload x) := fun cc p x r h => by
  delta Jvm.ClassFile.Decoder.instr
  refine Eq.trans (bind_at (u1_at h)) ?_
  refine Eq.trans (bind_at (u1_at (bts_tl h))) ?_
  rfl
set_option maxRecDepth 100000 in
theorem sn_55 : Sn2 55 (fun x => .lstore x) := fun cc p x r h => by
  delta Jvm.ClassFile.Decoder.instr
  refine Eq.trans (bind_at (u1_at h)) ?_
  refine Eq.trans (bind_at (u1_at (bts_tl h))) ?_
  rfl
set_option maxRecDepth 100000 in
theorem sn_25 : Sn2 25 (fun x => .aload x) := fun cc p x r h => by
  delta Jvm.ClassFile.Decoder.instr
  refine Eq.trans (bind_at (u1_at h)) ?_
  refine Eq.trans (bind_at (u1_at (bts_tl h))) ?_
  rfl
set_option maxRecDepth 100000 in
theorem sn_58 : Sn2 58 (fun x => .astore x) := fun cc p x r h => by
  delta Jvm.ClassFile.Decoder.instr
  refine Eq.trans (bind_at (u1_at h)) ?_
  refine Eq.trans (bind_at (u1_at (bts_tl h))) ?_
  rfl
set_option maxRecDepth 100000 in
theorem sn_18 : Sn2 18 (fun x => .ldc x) := fun cc p x r h => by
  delta Jvm.ClassFile.Decoder.instr
  refine Eq.trans (bind_at (u1_at h)) ?_
  refine Eq.trans (bind_at (u1_at (bts_tl h))) ?_
  rfl
set_option maxRecDepth 100000 in
theorem sn_180 : Sn3 180 (fun x y => .getfield (x * 256 + y)) := fun cc p x y r h => by
  delta Jvm.ClassFile.Decoder.instr
  refine Eq.trans (bind_at (u1_at h)) ?_
  refine Eq.trans (bind_at (u2_at (bts_tl h))) ?_
  rfl
set_option maxRecDepth 100000 in
theorem sn_182 : Sn3 182 (fun x y => .invokevirtual (x * 256 + y)) := fun cc p x y r h => by
  delta Jvm.ClassFile.Decoder.instr
  refine Eq.trans (bind_at (u1_at h)) ?_
  refine Eq.trans (bind_at (u2_at (bts_tl h))) ?_
  rfl
set_option maxRecDepth 100000 in
theorem sn_167 : Sn3 167 (fun x y => .goto (Jvm.ClassFile.Reader.signed 16 (x * 256 + y))) := fun cc p x y r h => by
  delta Jvm.ClassFile.Decoder.instr
  refine Eq.trans (bind_at (u1_at h)) ?_
  refine Eq.trans (bind_at (s2_at (bts_tl h))) ?_
  rfl
set_option maxRecDepth 100000 in
theorem sn_181 : Sn3 181 (fun x y => .putfield (x * 256 + y)) := fun cc p x y r h => by
  delta Jvm.ClassFile.Decoder.instr
  refine Eq.trans (bind_at (u1_at h)) ?_
  refine Eq.trans (bind_at (u2_at (bts_tl h))) ?_
  rfl
set_option maxRecDepth 100000 in
theorem sn_184 : Sn3 184 (fun x y => .invokestatic (x * 256 + y)) := fun cc p x y r h => by
  delta Jvm.ClassFile.Decoder.instr
  refine Eq.trans (bind_at (u1_at h)) ?_
  refine Eq.trans (bind_at (u2_at (bts_tl h))) ?_
  rfl
set_option maxRecDepth 100000 in
theorem sn_153 : Sn3 153 (fun x y => .ifCond .eq (Jvm.ClassFile.Reader.signed 16 (x * 256 + y))) := fun cc p x y r h => by
  delta Jvm.ClassFile.Decoder.instr
  refine Eq.trans (bind_at (u1_at h)) ?_
  refine Eq.trans (bind_at (s2_at (bts_tl h))) ?_
  rfl
set_option maxRecDepth 100000 in
theorem sn_154 : Sn3 154 (fun x y => .ifCond .ne (Jvm.ClassFile.Reader.signed 16 (x * 256 + y))) := fun cc p x y r h => by
  delta Jvm.ClassFile.Decoder.instr
  refine Eq.trans (bind_at (u1_at h)) ?_
  refine Eq.trans (bind_at (s2_at (bts_tl h))) ?_
  rfl
set_option maxRecDepth 100000 in
theorem sn_155 : Sn3 155 (fun x y => .ifCond .lt (Jvm.ClassFile.Reader.signed 16 (x * 256 + y))) := fun cc p x y r h => by
  delta Jvm.ClassFile.Decoder.instr
  refine Eq.trans (bind_at (u1_at h)) ?_
  refine Eq.trans (bind_at (s2_at (bts_tl h))) ?_
  rfl
set_option maxRecDepth 100000 in
theorem sn_156 : Sn3 156 (fun x y => .ifCond .ge (Jvm.ClassFile.Reader.signed 16 (x * 256 + y))) := fun cc p x y r h => by
  delta Jvm.ClassFile.Decoder.instr
  refine Eq.trans (bind_at (u1_at h)) ?_
  refine Eq.trans (bind_at (s2_at (bts_tl h))) ?_
  rfl
set_option maxRecDepth 100000 in
theorem sn_157 : Sn3 157 (fun x y => .ifCond .gt (Jvm.ClassFile.Reader.signed 16 (x * 256 + y))) := fun cc p x y r h => by
  delta Jvm.ClassFile.Decoder.instr
  refine Eq.trans (bind_at (u1_at h)) ?_
  refine Eq.trans (bind_at (s2_at (bts_tl h))) ?_
  rfl
set_option maxRecDepth 100000 in
theorem sn_158 : Sn3 158 (fun x y => .ifCond .le (Jvm.ClassFile.Reader.signed 16 (x * 256 + y))) := fun cc p x y r h => by
  delta Jvm.ClassFile.Decoder.instr
  refine Eq.trans (bind_at (u1_at h)) ?_
  refine Eq.trans (bind_at (s2_at (bts_tl h))) ?_
  rfl
set_option maxRecDepth 100000 in
theorem sn_159 : Sn3 159 (fun x y => .if_icmp .eq (Jvm.ClassFile.Reader.signed 16 (x * 256 + y))) := fun cc p x y r h => by
  delta Jvm.ClassFile.Decoder.instr
  refine Eq.trans (bind_at (u1_at h)) ?_
  refine Eq.trans (bind_at (s2_at (bts_tl h))) ?_
  rfl
set_option maxRecDepth 100000 in
theorem sn_160 : Sn3 160 (fun x y => .if_icmp .ne (Jvm.ClassFile.Reader.signed 16 (x * 256 + y))) := fun cc p x y r h => by
  delta Jvm.ClassFile.Decoder.instr
  refine Eq.trans (bind_at (u1_at h)) ?_
  refine Eq.trans (bind_at (s2_at (bts_tl h))) ?_
  rfl
set_option maxRecDepth 100000 in
theorem sn_161 : Sn3 161 (fun x y => .if_icmp .lt (Jvm.ClassFile.Reader.signed 16 (x * 256 + y))) := fun cc p x y r h => by
  delta Jvm.ClassFile.Decoder.instr
  refine Eq.trans (bind_at (u1_at h)) ?_
  refine Eq.trans (bind_at (s2_at (bts_tl h))) ?_
  rfl
set_option maxRecDepth 100000 in
theorem sn_162 : Sn3 162 (fun x y => .if_icmp .ge (Jvm.ClassFile.Reader.signed 16 (x * 256 + y))) := fun cc p x y r h => by
  delta Jvm.ClassFile.Decoder.instr
  refine Eq.trans (bind_at (u1_at h)) ?_
  refine Eq.trans (bind_at (s2_at (bts_tl h))) ?_
  rfl
set_option maxRecDepth 100000 in
theorem sn_163 : Sn3 163 (fun x y => .if_icmp .gt (Jvm.ClassFile.Reader.signed 16 (x * 256 + y))) := fun cc p x y r h => by
  delta Jvm.ClassFile.Decoder.instr
  refine Eq.trans (bind_at (u1_at h)) ?_
  refine Eq.trans (bind_at (s2_at (bts_tl h))) ?_
  rfl
set_option maxRecDepth 100000 in
theorem sn_164 : Sn3 164 (fun x y => .if_icmp .le (Jvm.ClassFile.Reader.signed 16 (x * 256 + y))) := fun cc p x y r h => by
  delta Jvm.ClassFile.Decoder.instr
  refine Eq.trans (bind_at (u1_at h)) ?_
  refine Eq.trans (bind_at (s2_at (bts_tl h))) ?_
  rfl
set_option maxRecDepth 100000 in
theorem sn_132 : Sn3 132 (fun x y => .iinc x (Jvm.ClassFile.Reader.signed 8 y)) := fun cc p x y r h => by
  delta Jvm.ClassFile.Decoder.instr
  refine Eq.trans (bind_at (u1_at h)) ?_
  refine Eq.trans (bind_at (u1_at (bts_tl h))) ?_
  refine Eq.trans (bind_at (s1_at (bts_tl (bts_tl h)))) ?_
  rfl
set_option maxRecDepth 100000 in
theorem sn_20 : Sn3 20 (fun x y => .ldc2_w (x * 256 + y)) := fun cc p x y r h => by
  delta Jvm.ClassFile.Decoder.instr
  refine Eq.trans (bind_at (u1_at h)) ?_
  refine Eq.trans (bind_at (u2_at (bts_tl h))) ?_
  rfl
set_option maxRecDepth 100000 in
theorem sn_17 : Sn3 17 (fun x y => .sipush (Jvm.ClassFile.Reader.signed 16 (x * 256 + y))) := fun cc p x y r h => by
  delta Jvm.ClassFile.Decoder.instr
  refine Eq.trans (bind_at (u1_at h)) ?_
  refine Eq.trans (bind_at (s2_at (bts_tl h))) ?_
  rfl
set_option maxRecDepth 100000 in
theorem sn_183 : Sn3 183 (fun x y => .invokespecial (x * 256 + y)) := fun cc p x y r h => by
  delta Jvm.ClassFile.Decoder.instr
  refine Eq.trans (bind_at (u1_at h)) ?_
  refine Eq.trans (bind_at (u2_at (bts_tl h))) ?_
  rfl
set_option maxRecDepth 100000 in
theorem sn_187 : Sn3 187 (fun x y => .new (x * 256 + y)) := fun cc p x y r h => by
  delta Jvm.ClassFile.Decoder.instr
  refine Eq.trans (bind_at (u1_at h)) ?_
  refine Eq.trans (bind_at (u2_at (bts_tl h))) ?_
  rfl
set_option maxRecDepth 100000 in
theorem sn_19 : Sn3 19 (fun x y => .ldc_w (x * 256 + y)) := fun cc p x y r h => by
  delta Jvm.ClassFile.Decoder.instr
  refine Eq.trans (bind_at (u1_at h)) ?_
  refine Eq.trans (bind_at (u2_at (bts_tl h))) ?_
  rfl
set_option maxRecDepth 100000 in
theorem sn_189 : Sn3 189 (fun x y => .anewarray (x * 256 + y)) := fun cc p x y r h => by
  delta Jvm.ClassFile.Decoder.instr
  refine Eq.trans (bind_at (u1_at h)) ?_
  refine Eq.trans (bind_at (u2_at (bts_tl h))) ?_
  rfl
noncomputable def dt1 : List (Nat × Jvm.ClassFile.Instr) := [(42, .aload_n 0), (43, .aload_n 1), (44, .aload_n 2), (45, .aload_n 3), (2, .iconst (-1)), (3, .iconst 0), (4, .iconst 1), (5, .iconst 2), (6, .iconst 3), (7, .iconst 4), (8, .iconst 5), (26, .iload_n 0), (27, .iload_n 1), (28, .iload_n 2), (29, .iload_n 3), (172, .ireturn), (46, .iaload), (96, .iadd), (59, .istore_n 0), (60, .istore_n 1), (61, .istore_n 2), (62, .istore_n 3), (87, .pop), (79, .iastore), (100, .isub), (133, .i2l), (9, .lconst 0), (10, .lconst 1), (30, .lload_n 0), (31, .lload_n 1), (32, .lload_n 2), (33, .lload_n 3), (177, .return_), (148, .lcmp), (89, .dup), (104, .imul), (173, .lreturn), (63, .lstore_n 0), (64, .lstore_n 1), (65, .lstore_n 2), (66, .lstore_n 3), (92, .dup2), (105, .lmul), (97, .ladd), (101, .lsub), (47, .laload), (120, .ishl), (109, .ldiv), (50, .aaload), (136, .l2i), (126, .iand), (128, .ior), (80, .lastore), (51, .baload), (130, .ixor), (112, .irem), (88, .pop2), (124, .iushr), (145, .i2b), (113, .lrem), (75, .astore_n 0), (76, .astore_n 1), (77, .astore_n 2), (78, .astore_n 3), (190, .arraylength), (108, .idiv), (84, .bastore), (83, .aastore), (121, .lshl), (129, .lor), (127, .land), (122, .ishr), (147, .i2s), (117, .lneg), (116, .ineg), (176, .areturn)]
noncomputable def dt2 : List (Nat × (Nat → Jvm.ClassFile.Instr)) := [(16, fun x => .bipush (Jvm.ClassFile.Reader.signed 8 x)), (21, fun x => .iload x), (54, fun x => .istore x), (22, fun x => .lload x), (55, fun x => .lstore x), (25, fun x => .aload x), (58, fun x => .astore x), (18, fun x => .ldc x)]
noncomputable def dt3 : List (Nat × (Nat → Nat → Jvm.ClassFile.Instr)) := [(180, fun x y => .getfield (x * 256 + y)), (182, fun x y => .invokevirtual (x * 256 + y)), (167, fun x y => .goto (Jvm.ClassFile.Reader.signed 16 (x * 256 + y))), (181, fun x y => .putfield (x * 256 + y)), (184, fun x y => .invokestatic (x * 256 + y)), (153, fun x y => .ifCond .eq (Jvm.ClassFile.Reader.signed 16 (x * 256 + y))), (154, fun x y => .ifCond .ne (Jvm.ClassFile.Reader.signed 16 (x * 256 + y))), (155, fun x y => .ifCond .lt (Jvm.ClassFile.Reader.signed 16 (x * 256 + y))), (156, fun x y => .ifCond .ge (Jvm.ClassFile.Reader.signed 16 (x * 256 + y))), (157, fun x y => .ifCond .gt (Jvm.ClassFile.Reader.signed 16 (x * 256 + y))), (158, fun x y => .ifCond .le (Jvm.ClassFile.Reader.signed 16 (x * 256 + y))), (159, fun x y => .if_icmp .eq (Jvm.ClassFile.Reader.signed 16 (x * 256 + y))), (160, fun x y => .if_icmp .ne (Jvm.ClassFile.Reader.signed 16 (x * 256 + y))), (161, fun x y => .if_icmp .lt (Jvm.ClassFile.Reader.signed 16 (x * 256 + y))), (162, fun x y => .if_icmp .ge (Jvm.ClassFile.Reader.signed 16 (x * 256 + y))), (163, fun x y => .if_icmp .gt (Jvm.ClassFile.Reader.signed 16 (x * 256 + y))), (164, fun x y => .if_icmp .le (Jvm.ClassFile.Reader.signed 16 (x * 256 + y))), (132, fun x y => .iinc x (Jvm.ClassFile.Reader.signed 8 y)), (20, fun x y => .ldc2_w (x * 256 + y)), (17, fun x y => .sipush (Jvm.ClassFile.Reader.signed 16 (x * 256 + y))), (183, fun x y => .invokespecial (x * 256 + y)), (187, fun x y => .new (x * 256 + y)), (19, fun x y => .ldc_w (x * 256 + y)), (189, fun x y => .anewarray (x * 256 + y))]
theorem dt1_ok : ∀ q ∈ dt1, Sn1 q.1 q.2 := List.forall_mem_cons.mpr ⟨sn_42, List.forall_mem_cons.mpr ⟨sn_43, List.forall_mem_cons.mpr ⟨sn_44, List.forall_mem_cons.mpr ⟨sn_45, List.forall_mem_cons.mpr ⟨sn_2, List.forall_mem_cons.mpr ⟨sn_3, List.forall_mem_cons.mpr ⟨sn_4, List.forall_mem_cons.mpr ⟨sn_5, List.forall_mem_cons.mpr ⟨sn_6, List.forall_mem_cons.mpr ⟨sn_7, List.forall_mem_cons.mpr ⟨sn_8, List.forall_mem_cons.mpr ⟨sn_26, List.forall_mem_cons.mpr ⟨sn_27, List.forall_mem_cons.mpr ⟨sn_28, List.forall_mem_cons.mpr ⟨sn_29, List.forall_mem_cons.mpr ⟨sn_172, List.forall_mem_cons.mpr ⟨sn_46, List.forall_mem_cons.mpr ⟨sn_96, List.forall_mem_cons.mpr ⟨sn_59, List.forall_mem_cons.mpr ⟨sn_60, List.forall_mem_cons.mpr ⟨sn_61, List.forall_mem_cons.mpr ⟨sn_62, List.forall_mem_cons.mpr ⟨sn_87, List.forall_mem_cons.mpr ⟨sn_79, List.forall_mem_cons.mpr ⟨sn_100, List.forall_mem_cons.mpr ⟨sn_133, List.forall_mem_cons.mpr ⟨sn_9, List.forall_mem_cons.mpr ⟨sn_10, List.forall_mem_cons.mpr ⟨sn_30, List.forall_mem_cons.mpr ⟨sn_31, List.forall_mem_cons.mpr ⟨sn_32, List.forall_mem_cons.mpr ⟨sn_33, List.forall_mem_cons.mpr ⟨sn_177, List.forall_mem_cons.mpr ⟨sn_148, List.forall_mem_cons.mpr ⟨sn_89, List.forall_mem_cons.mpr ⟨sn_104, List.forall_mem_cons.mpr ⟨sn_173, List.forall_mem_cons.mpr ⟨sn_63, List.forall_mem_cons.mpr ⟨sn_64, List.forall_mem_cons.mpr ⟨sn_65, List.forall_mem_cons.mpr ⟨sn_66, List.forall_mem_cons.mpr ⟨sn_92, List.forall_mem_cons.mpr ⟨sn_105, List.forall_mem_cons.mpr ⟨sn_97, List.forall_mem_cons.mpr ⟨sn_101, List.forall_mem_cons.mpr ⟨sn_47, List.forall_mem_cons.mpr ⟨sn_120, List.forall_mem_cons.mpr ⟨sn_109, List.forall_mem_cons.mpr ⟨sn_50, List.forall_mem_cons.mpr ⟨sn_136, List.forall_mem_cons.mpr ⟨sn_126, List.forall_mem_cons.mpr ⟨sn_128, List.forall_mem_cons.mpr ⟨sn_80, List.forall_mem_cons.mpr ⟨sn_51, List.forall_mem_cons.mpr ⟨sn_130, List.forall_mem_cons.mpr ⟨sn_112, List.forall_mem_cons.mpr ⟨sn_88, List.forall_mem_cons.mpr ⟨sn_124, List.forall_mem_cons.mpr ⟨sn_145, List.forall_mem_cons.mpr ⟨sn_113, List.forall_mem_cons.mpr ⟨sn_75, List.forall_mem_cons.mpr ⟨sn_76, List.forall_mem_cons.mpr ⟨sn_77, List.forall_mem_cons.mpr ⟨sn_78, List.forall_mem_cons.mpr ⟨sn_190, List.forall_mem_cons.mpr ⟨sn_108, List.forall_mem_cons.mpr ⟨sn_84, List.forall_mem_cons.mpr ⟨sn_83, List.forall_mem_cons.mpr ⟨sn_121, List.forall_mem_cons.mpr ⟨sn_129, List.forall_mem_cons.mpr ⟨sn_127, List.forall_mem_cons.mpr ⟨sn_122, List.forall_mem_cons.mpr ⟨sn_147, List.forall_mem_cons.mpr ⟨sn_117, List.forall_mem_cons.mpr ⟨sn_116, List.forall_mem_cons.mpr ⟨sn_176, fun _ h => absurd h List.not_mem_nil⟩⟩⟩⟩⟩⟩⟩⟩⟩⟩⟩⟩⟩⟩⟩⟩⟩⟩⟩⟩⟩⟩⟩⟩⟩⟩⟩⟩⟩⟩⟩⟩⟩⟩⟩⟩⟩⟩⟩⟩⟩⟩⟩⟩⟩⟩⟩⟩⟩⟩⟩⟩⟩⟩⟩⟩⟩⟩⟩⟩⟩⟩⟩⟩⟩⟩⟩⟩⟩⟩⟩⟩⟩⟩⟩⟩
theorem dt2_ok : ∀ q ∈ dt2, Sn2 q.1 q.2 := List.forall_mem_cons.mpr ⟨sn_16, List.forall_mem_cons.mpr ⟨sn_21, List.forall_mem_cons.mpr ⟨sn_54, List.forall_mem_cons.mpr ⟨sn_22, List.forall_mem_cons.mpr ⟨sn_55, List.forall_mem_cons.mpr ⟨sn_25, List.forall_mem_cons.mpr ⟨sn_58, List.forall_mem_cons.mpr ⟨sn_18, fun _ h => absurd h List.not_mem_nil⟩⟩⟩⟩⟩⟩⟩⟩
theorem dt3_ok : ∀ q ∈ dt3, Sn3 q.1 q.2 := List.forall_mem_cons.mpr ⟨sn_180, List.forall_mem_cons.mpr ⟨sn_182, List.forall_mem_cons.mpr ⟨sn_167, List.forall_mem_cons.mpr ⟨sn_181, List.forall_mem_cons.mpr ⟨sn_184, List.forall_mem_cons.mpr ⟨sn_153, List.forall_mem_cons.mpr ⟨sn_154, List.forall_mem_cons.mpr ⟨sn_155, List.forall_mem_cons.mpr ⟨sn_156, List.forall_mem_cons.mpr ⟨sn_157, List.forall_mem_cons.mpr ⟨sn_158, List.forall_mem_cons.mpr ⟨sn_159, List.forall_mem_cons.mpr ⟨sn_160, List.forall_mem_cons.mpr ⟨sn_161, List.forall_mem_cons.mpr ⟨sn_162, List.forall_mem_cons.mpr ⟨sn_163, List.forall_mem_cons.mpr ⟨sn_164, List.forall_mem_cons.mpr ⟨sn_132, List.forall_mem_cons.mpr ⟨sn_20, List.forall_mem_cons.mpr ⟨sn_17, List.forall_mem_cons.mpr ⟨sn_183, List.forall_mem_cons.mpr ⟨sn_187, List.forall_mem_cons.mpr ⟨sn_19, List.forall_mem_cons.mpr ⟨sn_189, fun _ h => absurd h List.not_mem_nil⟩⟩⟩⟩⟩⟩⟩⟩⟩⟩⟩⟩⟩⟩⟩⟩⟩⟩⟩⟩⟩⟩⟩⟩
noncomputable def fnd9 {α : Type} : List (Nat × α) → Nat → Option α
  | [], _ => none
  | q :: r, k => bif Nat.beq q.1 k then some q.2 else fnd9 r k
theorem fnd9_mem {α : Type} {k : Nat} {x : α} : ∀ l : List (Nat × α), fnd9 l k = some x → (k, x) ∈ l := by
  intro l
  induction l with
  | nil => intro h; cases h
  | cons q r ih =>
    intro h
    unfold fnd9 at h
    cases e : Nat.beq q.1 k with
    | true =>
      rw [e] at h
      have h1 := Nat.eq_of_beq_eq_true e
      have h2 : q.2 = x := Option.some.inj h
      rw [← h1, ← h2]
      exact List.mem_cons_self ..
    | false =>
      rw [e] at h
      exact List.mem_cons_of_mem _ (ih h)
/-- entries against bytes, from a place on -/
noncomputable def lin9 (cc : ByteArray) : List En → Nat → List Nat → Bool
  | [], _, _ => true
  | e :: es, p, bs => Nat.beq e.1 p && match bs with
    | [] => false
    | op :: r => bif Nat.beq op 170 || (Nat.beq op 171 || Nat.beq op 188) then decide (decode cc p = .ok (e.2.1, e.2.2.1)) && lin9 cc es (p + e.2.2.1) ((op :: r).drop e.2.2.1)
      else bif Nat.beq e.2.2.1 1 then decide (fnd9 dt1 op = some e.2.1) && lin9 cc es (p + 1) r
      else match r with
        | [] => false
        | x :: r2 => bif Nat.beq e.2.2.1 2 then decide ((fnd9 dt2 op).map (fun F => F x) = some e.2.1) && lin9 cc es (p + 2) r2
          else match r2 with
            | [] => false
            | y :: r3 => Nat.beq e.2.2.1 3 && (decide ((fnd9 dt3 op).map (fun F => F x y) = some e.2.1) && lin9 cc es (p + 3) r3)
theorem lin9_ok {cc : ByteArray} : ∀ (es : List En) (p : Nat) (bs : List Nat), (bts cc).drop p = bs → lin9 cc es p bs = true → ∀ e ∈ es, decode cc e.1 = .ok (e.2.1, e.2.2.1) := by
  intro es
  induction es with
  | nil => intro p bs _ _ e he; cases he
  | cons e es ih =>
    intro p bs hb h
    rw [List.forall_mem_cons]
    unfold lin9 at h
    rw [Bool.and_eq_true] at h
    obtain ⟨h0, h⟩ := h
    have hp : e.1 = p := Nat.eq_of_beq_eq_true h0
    rw [hp]
    cases bs with
    | nil => exact absurd (show false = true from h) Bool.false_ne_true
    | cons op r =>
      dsimp only at h
      cases q : (Nat.beq op 170 || (Nat.beq op 171 || Nat.beq op 188)) with
      | true =>
        rw [q, cond_true, Bool.and_eq_true] at h
        refine ⟨of_decide_eq_true h.1, ih _ _ ?_ h.2⟩
        rw [← hb, List.drop_drop]
      | false =>
        rw [q, cond_false] at h
        cases q1 : Nat.beq e.2.2.1 1 with
        | true =>
          rw [q1, cond_true, Bool.and_eq_true] at h
          have hm := dt1_ok _ (fnd9_mem _ (of_decide_eq_true h.1))
          refine ⟨?_, ih _ _ (bts_tl hb) h.2⟩
          rw [Nat.eq_of_beq_eq_true q1]
          exact dec_at (hm cc p r hb)
        | false =>
          rw [q1, cond_false] at h
          cases r with
          | nil => exact absurd (show false = true from h) Bool.false_ne_true
          | cons x r2 =>
            dsimp only at h
            cases q2 : Nat.beq e.2.2.1 2 with
            | true =>
              rw [q2, cond_true, Bool.and_eq_true] at h
              obtain ⟨F, hF, hx⟩ := Option.map_eq_some_iff.mp (of_decide_eq_true h.1)
              have hm := dt2_ok _ (fnd9_mem _ hF)
              refine ⟨?_, ih _ _ (bts_tl (bts_tl hb)) h.2⟩
              rw [Nat.eq_of_beq_eq_true q2, ← hx]
              exact dec_at (hm cc p x r2 hb)
            | false =>
              rw [q2, cond_false] at h
              cases r2 with
              | nil => exact absurd (show false = true from h) Bool.false_ne_true
              | cons y r3 =>
                dsimp only at h
                rw [Bool.and_eq_true, Bool.and_eq_true] at h
                obtain ⟨q3, h1, h2⟩ := h
                obtain ⟨F, hF, hx⟩ := Option.map_eq_some_iff.mp (of_decide_eq_true h1)
                have hm := dt3_ok _ (fnd9_mem _ hF)
                refine ⟨?_, ih _ _ (bts_tl (bts_tl (bts_tl hb))) h2⟩
                rw [Nat.eq_of_beq_eq_true q3, ← hx]
                exact dec_at (hm cc p x y r3 hb)
theorem okE_of {own : String} {cc : ByteArray} {nL ini : Nat} {e : En} (h : decode cc e.1 = .ok (e.2.1, e.2.2.1)) (h2 : okR own nL ini e = true) : okE own cc nL ini e = true := by
  unfold okE
  rw [Bool.and_eq_true]
  exact ⟨decide_eq_true h, h2⟩
end PT0x1
