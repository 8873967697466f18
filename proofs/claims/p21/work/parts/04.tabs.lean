/-! ===== the small machine's tables, and what is asked of an entry ===== -/
noncomputable def ncl : List vw_C := [(RX0, TX0, 9), (RX1, TX1, 3), (RX2, TX2, 8), (RX3, TX3, 2), (RX4, TX4, 9), (RX5, TX5, 3), (RX6, TX6, 14), (RX7, TX7, 8), (RX8, TX8, 3), (RX9, TX9, 4), (RX10, TX10, 3), (RX11, TX11, 20), (RX12, TX12, 49)]
noncomputable def ntl : List (Nat → FieldType) := [tyX0, tyX1, tyX2, tyX3, tyX4, tyX5, tyX6, tyX7, tyX8, tyX9, tyX10, tyX11, tyX12]
noncomputable def clQ (ci : Nat) : vw_C := ncl.getD ci ("", fun _ => ("", "", "", false), 0)
noncomputable def clC (ci : Nat) : String := (clQ ci).1
noncomputable def clT (ci : Nat) : u_T := (clQ ci).2.1
noncomputable def clN (ci : Nat) : Nat := (clQ ci).2.2
noncomputable def clY (ci : Nat) : Nat → FieldType := ntl.getD ci (fun _ => .int)
noncomputable def elC (t : Nat) : String := match t with
  | 0 => RX10
  | 1 => RX0
  | _ => RX2
noncomputable def aty (t : Nat) : FieldType := match t with
  | 0 => .int
  | 1 => .long
  | 2 => .byte
  | _ => .object (elC (t - 3))
/-- a method's row: code, name, bytes, kind of the answer as the class file has it, numbers -/
noncomputable abbrev Mt : Type := List En × MethodName × ByteArray × Option FieldType × List Nat
noncomputable def mQ (mi : Nat) : Mt := mtab.getD mi ([], ⟨"", "", ""⟩, ⟨#[]⟩, none, [])
noncomputable def qL (q : Mt) : Nat := q.2.2.2.2.getD 0 0
noncomputable def qRk (q : Mt) : Nat := q.2.2.2.2.getD 1 0
noncomputable def qAl (q : Mt) : Nat := q.2.2.2.2.getD 2 0
noncomputable def qPh (q : Mt) : Nat := q.2.2.2.2.getD 3 0
noncomputable def qKr (q : Mt) : Nat := q.2.2.2.2.getD 4 0
noncomputable def qIni (q : Mt) : Nat := q.2.2.2.2.getD 6 0
noncomputable def qIns (q : Mt) : Nat := q.2.2.2.2.getD 7 0
noncomputable def qNa (q : Mt) : Nat := q.2.2.2.2.getD 8 0
noncomputable def qW (q : Mt) : Cond := .code q.2.1 q.2.2.1 (qL q) q.2.2.2.1
/-- the words that an entry needs -/
noncomputable def needE (own : String) (e : En) : List Cond := match e.2.1 with
  | .getfield i => match e.2.2.2.1 with
    | [ci, k, _, _] => [.fieldLink own i (clT ci k).1 (clT ci k).2.1 (clT ci k).2.2.1]
    | _ => []
  | .putfield i => match e.2.2.2.1 with
    | [ci, k, _, _] => [.fieldLink own i (clT ci k).1 (clT ci k).2.1 (clT ci k).2.2.1]
    | _ => []
  | .new i => match e.2.2.2.1 with
    | [ci] => [.classLink own i (clC ci), .instantiable (clC ci) (clN ci), .initialized (clC ci)]
    | _ => []
  | .newarray t => [.arrayClass (newarray.typeOf t)]
  | .anewarray i => match e.2.2.2.1 with
    | [t] => [.classLink own i (elC t)]
    | _ => []
  | .ldc i => [.constant own i (kz e.2.2.2.2.1)]
  | .ldc_w i => [.constant own i (kz e.2.2.2.2.1)]
  | .ldc2_w i => [.constantLong own i e.2.2.2.2.2]
  | .invokevirtual i => match e.2.2.2.1 with
    | [_, mi, _, _, _, ci, _, _] => [.methodLink own i (mQ mi).2.1, .instanceMethod (mQ mi).2.1, .selects (clC ci) (mQ mi).2.1 (mQ mi).2.1, .initialized (clC ci)]
    | _ => []
  | .invokestatic i => match e.2.2.2.1 with
    | [kind, mi, _, _, _, _, _, _] => (bif Nat.beq kind 11 then [] else [Cond.methodLink own i (mQ mi).2.1]) ++ [.static (mQ mi).2.1, .initialized (mQ mi).2.1.cls]
    | [kind, _] => match kind with
      | 4 => [.methodLink own i arraycopyName, .native arraycopyName, .static arraycopyName, .initialized "java/lang/System"]
      | 5 => [.methodLink own i arraycopyName, .native arraycopyName, .static arraycopyName, .initialized "java/lang/System"]
      | 6 => [.methodLink own i Lib.Math.max.name, .static Lib.Math.max.name, .initialized "java/lang/Math"]
      | 7 => [.methodLink own i Lib.Math.min.name, .static Lib.Math.min.name, .initialized "java/lang/Math"]
      | 8 => [.methodLink own i Lib.MathLoose.abs_long.x, .static Lib.MathLoose.abs_long.x, .initialized "java/lang/Math"]
      | _ => []
    | _ => []
  | .invokespecial i => match e.2.2.2.1 with
    | [kind, mi, _, _, _, _, _, _] => (bif Nat.beq kind 12 then [] else [Cond.methodLink own i (mQ mi).2.1]) ++ [.instanceMethod (mQ mi).2.1, .initialized (mQ mi).2.1.cls]
    | [3] => [.methodLink own i objectInit, .instanceMethod objectInit]
    | _ => []
  | _ => []
noncomputable def lnE (i : Jvm.ClassFile.Instr) (len : Nat) : Nat := match i with
  | .bipush _ => 2
  | .sipush _ => 3
  | .ldc _ => 2
  | .ldc_w _ => 3
  | .ldc2_w _ => 3
  | .iload _ => 2
  | .lload _ => 2
  | .aload _ => 2
  | .istore _ => 2
  | .lstore _ => 2
  | .astore _ => 2
  | .iinc _ _ => 3
  | .goto _ => 3
  | .ifCond _ _ => 3
  | .if_icmp _ _ => 3
  | .tableswitch _ _ _ _ => len
  | .lookupswitch _ _ => len
  | .getfield _ => 3
  | .putfield _ => 3
  | .new _ => 3
  | .newarray _ => 2
  | .anewarray _ => 3
  | .invokevirtual _ => 3
  | .invokestatic _ => 3
  | .invokespecial _ => 3
  | _ => 1
noncomputable def isRefTy : FieldType → Bool
  | .object _ => true
  | .array _ => true
  | _ => false
noncomputable def okCall (q : Mt) (na rk al ci ph1 kr : Nat) : Bool := Nat.beq rk (qRk q) && (Nat.beq al (qAl q) && (Nat.beq ph1 (qPh q) && (Nat.beq kr (qKr q) && (Nat.beq na (qNa q) && (decide (q.2.1.cls ≠ "java/lang/invoke/MethodHandle" ∧ q.2.1.cls ≠ "java/lang/invoke/VarHandle" ∧ (parseMethodDescriptor q.2.1.desc).map (fun d => d.parameters.length) = some (na - qIns q)) && Nat.ble (qL q) 16)))))
/-- what an entry must keep, of a method of the class own with nL places for locals -/
noncomputable def okR (own : String) (nL ini : Nat) (e : En) : Bool :=
  (Nat.beq e.2.2.1 (lnE e.2.1 e.2.2.1) && (match e.2.1 with
  | .iconst i => decide (Int32.ofInt i = kz e.2.2.2.2.1)
  | .bipush i => decide ((Int8.ofInt i).toInt32 = kz e.2.2.2.2.1)
  | .sipush i => decide ((Int16.ofInt i).toInt32 = kz e.2.2.2.2.1)
  | .lconst k => decide (Int64.ofNat (k : Nat) = e.2.2.2.2.2)
  | .istore_n k => Nat.blt k.val nL
  | .istore k => Nat.blt k nL
  | .astore_n k => Nat.blt k.val nL
  | .astore k => Nat.blt k nL
  | .lstore_n k => Nat.blt (k.val + 1) nL
  | .lstore k => Nat.blt (k + 1) nL
  | .iinc k i => decide (Int32.ofInt i = kz e.2.2.2.2.1) && Nat.blt k nL
  | .goto off => decide ((e.1 : Int) + off = (e.2.2.2.1.getD 0 0 : Nat))
  | .ifCond _ off => decide ((e.1 : Int) + off = (e.2.2.2.1.getD 0 0 : Nat))
  | .if_icmp _ off => decide ((e.1 : Int) + off = (e.2.2.2.1.getD 0 0 : Nat))
  | .tableswitch d lo hi offs => decide ((e.1 : Int) + d = (e.2.2.2.1.getD 0 0 : Nat)) && (decide (-1000 ≤ lo ∧ hi ≤ 1000 ∧ lo ≤ hi + 1 ∧ e.2.2.2.2.1 = (List.range (hi + 1 - lo).toNat).map (fun (j : Nat) => Int32.ofInt (lo + (j : Int)))) && decide (offs.toList.map (fun o => (e.1 : Int) + o) = e.2.2.2.1.tail.map (fun (t : Nat) => (t : Int)) ∧ offs.toList.length = (hi + 1 - lo).toNat))
  | .lookupswitch d ps => decide ((e.1 : Int) + d = (e.2.2.2.1.getD 0 0 : Nat)) && (decide (ps.toList.map (fun q => q.1) = e.2.2.2.2.1.map (fun k => k.toInt)) && (decide (ps.toList.map (fun q => (e.1 : Int) + q.2) = e.2.2.2.1.tail.map (fun (t : Nat) => (t : Int))) && (ps.toList.zip (ps.toList.drop 1)).all (fun (a, next) => a.1 < next.1)))
  | .getfield _ => match e.2.2.2.1 with
    | [ci, k, kd, of] => Nat.blt ci 13 && (Nat.blt k (clN ci) && (Nat.beq kd (fkd ci k) && Nat.beq of (fof ci k)))
    | _ => false
  | .putfield _ => match e.2.2.2.1 with
    | [ci, k, kd, of] => Nat.blt ci 13 && (Nat.blt k (clN ci) && (Nat.beq kd (fkd ci k) && (Nat.beq of (fof ci k) && (match kd with
      | 0 => decide (clY ci k = .int ∧ (clT ci k).2.2.2 = false)
      | 1 => decide (clY ci k = .boolean ∧ (clT ci k).2.2.2 = false)
      | 2 => decide (clY ci k = .long ∧ (clT ci k).2.2.2 = false)
      | 3 => isRefTy (clY ci k) && decide ((clT ci k).2.2.2 = false)
      | _ => isRefTy (clY ci k) && (decide ((clT ci k).2.2.2 = true ∧ (clT ci k).1 = own) && Nat.beq ini 1)))))
    | _ => false
  | .new _ => match e.2.2.2.1 with
    | [ci] => Nat.blt ci 13
    | _ => false
  | .newarray t => match e.2.2.2.1 with
    | [k] => decide (newarray.typeOf t = aty k) && Nat.blt k 3
    | _ => false
  | .anewarray _ => match e.2.2.2.1 with
    | [t] => Nat.blt t 3
    | _ => false
  | .aaload => match e.2.2.2.1 with
    | [t] => Nat.blt t 3
    | _ => false
  | .aastore => match e.2.2.2.1 with
    | [t, ci] => Nat.blt t 3 && (Nat.blt ci 13 && decide (elC t = clC ci))
    | _ => false
  | .invokevirtual _ => match e.2.2.2.1 with
    | [_, mi, na, rk, al, ci, ph1, kr] => okCall (mQ mi) na rk al ci ph1 kr && (Nat.blt mi nMth && (decide ((mQ mi).2.1.cls = clC ci) && (Nat.beq (qIns (mQ mi)) 1 && Nat.blt ci 13)))
    | _ => false
  | .invokestatic _ => match e.2.2.2.1 with
    | [kind, mi, na, rk, al, ci, ph1, kr] => okCall (mQ mi) na rk al ci ph1 kr && (Nat.blt mi nMth && (Nat.beq (qIns (mQ mi)) 0 && (bif Nat.beq kind 11 then nestW.any (fun q => decide (q.1 = own ∧ Jvm.ClassFile.Instr.invokestatic q.2.1 = e.2.1 ∧ q.2.2 = (mQ mi).2.1)) else true)))
    | [_, _] => true
    | _ => false
  | .invokespecial _ => match e.2.2.2.1 with
    | [kind, mi, na, rk, al, ci, ph1, kr] => okCall (mQ mi) na rk al ci ph1 kr && (Nat.blt mi nMth && (Nat.beq (qIns (mQ mi)) 1 && (decide ((mQ mi).2.1.name = "<init>" ∧ (mQ mi).2.2.2.1 = none) && (bif Nat.beq kind 12 then nestW.any (fun q => decide (q.1 = own ∧ Jvm.ClassFile.Instr.invokespecial q.2.1 = e.2.1 ∧ q.2.2 = (mQ mi).2.1)) else true))))
    | [3] => true
    | _ => false
  | _ => true))
noncomputable def okE (own : String) (cc : ByteArray) (nL ini : Nat) (e : En) : Bool := decide (decode cc e.1 = .ok (e.2.1, e.2.2.1)) && okR own nL ini e
/-- the words that every method has -/
noncomputable def wsG : List Cond := lw_tbl.filter goodWord
theorem wsG_in {w : Cond} (h : w ∈ lw_tbl) (g : goodWord w = true) : w ∈ wsG := List.mem_filter.mpr ⟨h, g⟩
theorem wsG_good {w : Cond} (h : w ∈ wsG) : goodWord w = true := (List.mem_filter.mp h).2
theorem wsG_law {w : Cond} (h : w ∈ wsG) : w ∈ lw_tbl := (List.mem_filter.mp h).1
/-- a method's row is right -/
noncomputable def OkM (q : Mt) : Prop := (∀ e ∈ q.1, okE q.2.1.cls q.2.2.1 (qL q) (qIni q) e = true) ∧ (∀ e ∈ q.1, ∀ w ∈ needE q.2.1.cls e, w ∈ wsG) ∧ plainName q.2.1.cls = true ∧ (qIni q = 1 → q.2.1.name = "<init>") ∧ (qRk q = 0 → q.2.2.2.1 = none) ∧ (qRk q = 1 → q.2.2.2.1 = some .int) ∧ (qRk q = 2 → q.2.2.2.1 = some .boolean) ∧ (qRk q = 3 → q.2.2.2.1 = some .long)
/-- the words that are no names, as numbers -/
noncomputable def rsv : List Int64 := [0, 495763, 20594245, 21279923, 13358, 4773, 89, 8243, 12009198, 3764, 20459828, 239301, 656741, 66917, 1497, 762030, 186542, 8892563, 12619123, 409072, 5572, 643568]
/-- the one method with a text in it, by hand: what it leaves -/
noncomputable def hReader (n : Nat) (as : List Value) (I : Im) (J : Jm) (R : Rm) (Q : Qt) : Prop := ∃ o : Nat, as = [.ref o] ∧ isO n o 6 = true ∧ (isA (n + 2) (n + 1) 2 = true ∧ aL (n + 1) = 900 ∧ isA (n + 2) (n + 2) 1 = true ∧ aL (n + 2) = 22 ∧ n + 1 = o + 1) ∧
  ∀ (I' : Im) (J' : Jm) (R' : Rm), (∀ i, i ≠ o → i ≠ n + 1 → i ≠ n + 2 → I' i = I i) → (∀ i, i ≠ o → i ≠ n + 1 → i ≠ n + 2 → J' i = J i) → (∀ i, i ≠ o → i ≠ n + 1 → i ≠ n + 2 → R' i = R i) →
    ((∀ k, I' (n + 1) k = 0) ∧ R' o 0 = n + 1 ∧ R' o 2 = n + 2 ∧ I' o 1 = 0 ∧ I' o 3 = 0 ∧ I' o 4 = 0 ∧ I' o 5 = 0 ∧ I' o 6 = 0 ∧ I' o 7 = 0 ∧ I' o 8 = 0 ∧ I' o 9 = -1 ∧ J' o 10 = 0 ∧ I' o 11 = 0 ∧ I' o 12 = 0 ∧ I' o 13 = -1 ∧ ∀ k, k < 22 → J' (n + 2) k = rsv.getD k 0) → Q 0 0 I' J' R'
/-- calls by depth -/
noncomputable def AM : Nat → Mc
  | 0 => fun _ _ _ _ _ _ _ => False
  | d + 1 => fun mi n as I J R Q => bif Nat.beq mi mReader then (bif Nat.ble 5 d then hReader n as I J R Q else False) else
      ((lg_sl as).length ≤ qL (mQ mi) ∧ AW (AM d) (Nat.beq (qPh (mQ mi)) 1) false 0 (fun _ => 0) (qRk (mQ mi)) (n + qAl (mQ mi)) (mQ mi).1 (fun n' x y I' J' R' => n' = n + qAl (mQ mi) ∧ (qKr (mQ mi) = 1 → R' = R) ∧ Q x y I' J' R') 0 n (lv_args 0 as) [] I J R)
