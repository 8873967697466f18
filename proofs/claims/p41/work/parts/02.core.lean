/-! printed by tab.py out of the task's names: the cells, in the order in which they are made, and the kinds of the fields -/
noncomputable def nAll : Nat := 112
noncomputable def shA : List (List (Nat × Nat)) := [[(11, 0), (103, 4), (6, 0), (102, 900), (101, 22), (1, 0), (3, 0), (100, 3)], [(0, 0), (100, 31), (101, 6), (100, 6), (100, 6), (100, 6), (0, 0), (100, 31)], [(101, 6), (100, 6), (100, 6), (100, 6), (2, 0), (100, 60), (100, 60), (100, 60)], [(100, 60), (100, 60), (2, 0), (100, 60), (100, 60), (100, 60), (100, 60), (100, 60)], [(104, 3), (105, 3), (7, 0), (100, 5), (100, 5), (100, 31), (8, 0), (100, 8)], [(100, 8), (5, 0), (100, 31), (100, 31), (9, 0), (100, 12), (101, 4096), (102, 4096)], [(4, 0), (100, 60), (4, 0), (100, 60), (10, 0), (101, 60), (10, 0), (101, 60)], [(10, 0), (101, 60), (10, 0), (101, 60), (0, 0), (100, 31), (101, 6), (100, 6)], [(100, 6), (100, 6), (2, 0), (100, 60), (100, 60), (100, 60), (100, 60), (100, 60)], [(0, 0), (100, 31), (101, 6), (100, 6), (100, 6), (100, 6), (2, 0), (100, 60)], [(100, 60), (100, 60), (100, 60), (100, 60), (0, 0), (100, 31), (101, 6), (100, 6)], [(100, 6), (100, 6), (2, 0), (100, 60), (100, 60), (100, 60), (100, 60), (100, 60)], [(12, 0), (100, 4), (100, 4), (101, 240), (102, 900), (100, 1620), (100, 52), (101, 30)], [(100, 5), (100, 5), (100, 31), (100, 31), (100, 12), (100, 4096), (101, 13), (100, 5)]]
noncomputable def ShT : Type := Unit
noncomputable def ShT.getD (_ : ShT) (i : Nat) (d : Nat × Nat) : Nat × Nat := (shA.getD (i / 8) []).getD (i % 8) d
noncomputable def shl : ShT := ()
theorem sh_out {i : Nat} (h : 112 ≤ i) {d : Nat × Nat} : shl.getD i d = d := by
  show (shA.getD (i / 8) []).getD (i % 8) d = d
  rw [List.getD_eq_getElem?_getD (l := shA), List.getElem?_eq_none (show shA.length ≤ i / 8 by show 14 ≤ i / 8; omega)]
  first | done | rfl
noncomputable def fkl : List (List Nat) := [[4, 0, 0, 0, 0, 4, 4, 4, 4], [1, 1, 0], [1, 0, 0, 4, 4, 4, 4, 4], [4, 0], [1, 0, 0, 0, 0, 0, 0, 0, 4], [4, 4, 0], [4, 0, 4, 1, 0, 0, 0, 0, 0, 0, 2, 0, 0, 0], [0, 0, 0, 4, 4, 0, 0, 4], [4, 4, 0], [4, 0, 4, 4], [0, 0, 4], [0, 2, 2, 4, 4, 4, 4, 3, 3, 3, 3, 4, 4, 0, 4, 4, 4, 4, 4, 4], [0, 0, 2, 2, 4, 4, 4, 4, 0, 0, 0, 0, 0, 0, 0, 0, 0, 0, 0, 2, 4, 4, 4, 0, 1, 1, 0, 0, 4, 4, 4, 0, 0, 0, 0, 4, 4, 4, 4, 4, 1, 1, 0, 0, 0, 0, 0, 0, 0]]
noncomputable def fol : List (List Nat) := [[1, 0, 0, 0, 0, 2, 3, 4, 5], [0, 0, 0], [0, 0, 0, 1, 2, 3, 4, 5], [1, 0], [0, 0, 0, 0, 0, 0, 0, 0, 1], [1, 2, 0], [1, 0, 2, 0, 0, 0, 0, 0, 0, 0, 0, 0, 0, 0], [0, 0, 0, 1, 2, 0, 0, 3], [1, 2, 0], [1, 0, 2, 3], [0, 0, 1], [0, 0, 0, 1, 2, 5, 6, 0, 0, 0, 0, 32, 33, 0, 34, 38, 41, 44, 48, 50], [0, 0, 0, 0, 1, 2, 3, 4, 0, 0, 0, 0, 0, 0, 0, 0, 0, 0, 0, 0, 5, 6, 7, 0, 0, 0, 0, 0, 8, 9, 10, 0, 0, 0, 0, 11, 12, 13, 14, 15, 0, 0, 0, 0, 0, 0, 0, 0, 0]]
/-! A SMALL MACHINE, by which all methods are walked at once: its memory is three tables (ints, longs, references, each by cell and slot), its code a list of entries that a program printed and that Lean holds against the bytes; 'stI' is one step as a predicate (what must hold for the machine to go on with K), 'AW' a walk, 'AM d' a call of depth at most d. -/
noncomputable abbrev Im : Type := Nat → Nat → Int32
noncomputable abbrev Jm : Type := Nat → Nat → Int64
noncomputable abbrev Rm : Type := Nat → Nat → Nat
noncomputable abbrev Lv : Type := List (Nat × Value)
/-- place, instruction, length, resolved numbers, resolved ints, a long -/
noncomputable abbrev En : Type := Nat × Jvm.ClassFile.Instr × Nat × List Nat × List Int32 × Int64
noncomputable abbrev Kt : Type := Nat → Nat → Lv → List Value → Im → Jm → Rm → Prop
noncomputable abbrev Qt : Type := Int32 → Int64 → Im → Jm → Rm → Prop
noncomputable abbrev Mc : Type := Nat → Nat → List Value → Im → Jm → Rm → Qt → Prop
noncomputable def uI (I : Im) (a j : Nat) (v : Int32) : Im := fun i => if i = a then upd (I a) j v else I i
noncomputable def uJ (J : Jm) (a j : Nat) (v : Int64) : Jm := fun i => if i = a then vp_updL (J a) j v else J i
noncomputable def uR (R : Rm) (a j : Nat) (v : Nat) : Rm := fun i => if i = a then va_up (R a) j v else R i
noncomputable def zI (I : Im) (a : Nat) : Im := fun i => if i = a then (fun _ => 0) else I i
noncomputable def zJ (J : Jm) (a : Nat) : Jm := fun i => if i = a then (fun _ => 0) else J i
noncomputable def zR (R : Rm) (a : Nat) : Rm := fun i => if i = a then (fun _ => 0) else R i
noncomputable def cI (I : Im) (a0 a1 sp dp n : Nat) : Im := fun i => if i = a1 then va_cpy (I a0) (I a1) sp dp n else I i
noncomputable def cJ (J : Jm) (a0 a1 sp dp n : Nat) : Jm := fun i => if i = a1 then va_cpy (J a0) (J a1) sp dp n else J i
/-- the cells in the order in which they are made: (class, 0) or (100 + kind of the elements, length) -/
noncomputable def isO (n o ci : Nat) : Bool := Nat.blt 0 o && (Nat.ble o n && Nat.beq (shl.getD (o - 1) (999, 0)).1 ci)
noncomputable def isA (n a t : Nat) : Bool := Nat.blt 0 a && (Nat.ble a n && Nat.beq (shl.getD (a - 1) (999, 0)).1 (100 + t))
noncomputable def aL (a : Nat) : Nat := (shl.getD (a - 1) (999, 0)).2
noncomputable def fkd (ci k : Nat) : Nat := (fkl.getD ci []).getD k 9
noncomputable def fof (ci k : Nat) : Nat := (fol.getD ci []).getD k 0
/-- the final references all stand -/
noncomputable def Fl (R : Rm) : Prop := ∀ i k : Nat, fkd (shl.getD i (999, 0)).1 k = 4 → ¬ R (i + 1) k = 0
noncomputable def kz : List Int32 → Int32
  | k :: _ => k
  | [] => 0
noncomputable def lgt : Lv → Nat → Value
  | [], _ => .null
  | (j, v) :: r, i => bif Nat.beq j i then v else lgt r i
noncomputable def lpt (lv : Lv) (i : Nat) (v : Value) : Lv := (i, v) :: lv.filter (fun q => !(q.1 == i) && !(q.1 + 1 == i && q.2.category == 2))
noncomputable def lpt2 (lv : Lv) (i : Nat) (v : Value) : Lv := (i, v) :: lv.filter (fun q => !(q.1 == i) && (!(q.1 == i + 1) && !(q.1 + 1 == i && q.2.category == 2)))
noncomputable def lI (lv : Lv) (i : Nat) (k : Int32 → Prop) : Prop := match lgt lv i with
  | .int x => k x
  | _ => False
noncomputable def lL (lv : Lv) (i : Nat) (k : Int64 → Prop) : Prop := match lgt lv i with
  | .long x => k x
  | _ => False
noncomputable def lR (lv : Lv) (i : Nat) (k : Nat → Prop) : Prop := match lgt lv i with
  | .ref x => k x
  | _ => False
noncomputable def sI (st : List Value) (k : Int32 → List Value → Prop) : Prop := match st with
  | .int x :: r => k x r
  | _ => False
noncomputable def sII (st : List Value) (k : Int32 → Int32 → List Value → Prop) : Prop := match st with
  | .int y :: .int x :: r => k x y r
  | _ => False
noncomputable def sL (st : List Value) (k : Int64 → List Value → Prop) : Prop := match st with
  | .long x :: r => k x r
  | _ => False
noncomputable def sLL (st : List Value) (k : Int64 → Int64 → List Value → Prop) : Prop := match st with
  | .long y :: .long x :: r => k x y r
  | _ => False
noncomputable def sLI (st : List Value) (k : Int64 → Int32 → List Value → Prop) : Prop := match st with
  | .int y :: .long x :: r => k x y r
  | _ => False
noncomputable def sR (st : List Value) (k : Nat → List Value → Prop) : Prop := match st with
  | .ref a :: r => k a r
  | _ => False
noncomputable def sRI (st : List Value) (k : Nat → Int32 → List Value → Prop) : Prop := match st with
  | .int x :: .ref a :: r => k a x r
  | _ => False
noncomputable def sRL (st : List Value) (k : Nat → Int64 → List Value → Prop) : Prop := match st with
  | .long x :: .ref a :: r => k a x r
  | _ => False
noncomputable def sRR (st : List Value) (k : Nat → Nat → List Value → Prop) : Prop := match st with
  | .ref v :: .ref a :: r => k a v r
  | _ => False
noncomputable def sRII (st : List Value) (k : Nat → Int32 → Int32 → List Value → Prop) : Prop := match st with
  | .int x :: .int i :: .ref a :: r => k a i x r
  | _ => False
noncomputable def sRIL (st : List Value) (k : Nat → Int32 → Int64 → List Value → Prop) : Prop := match st with
  | .long x :: .int i :: .ref a :: r => k a i x r
  | _ => False
noncomputable def sRIR (st : List Value) (k : Nat → Int32 → Nat → List Value → Prop) : Prop := match st with
  | .ref v :: .int i :: .ref a :: r => k a i v r
  | _ => False
noncomputable def sCpy (st : List Value) (k : Nat → Int32 → Nat → Int32 → Int32 → List Value → Prop) : Prop := match st with
  | .int n :: .int dp :: .ref a1 :: .int sp :: .ref a0 :: r => k a0 sp a1 dp n r
  | _ => False
noncomputable def icz (c : Jvm.ClassFile.Cond) (x : Int32) (T F : Prop) : Prop := match c with
  | .eq => (x = 0 → T) ∧ (¬ x = 0 → F)
  | .ne => (¬ x = 0 → T) ∧ (x = 0 → F)
  | .lt => (x < 0 → T) ∧ (¬ x < 0 → F)
  | .ge => (0 ≤ x → T) ∧ (¬ 0 ≤ x → F)
  | .gt => (0 < x → T) ∧ (¬ 0 < x → F)
  | .le => (x ≤ 0 → T) ∧ (¬ x ≤ 0 → F)
noncomputable def icc (c : Jvm.ClassFile.Cond) (x y : Int32) (T F : Prop) : Prop := match c with
  | .eq => (x = y → T) ∧ (¬ x = y → F)
  | .ne => (¬ x = y → T) ∧ (x = y → F)
  | .lt => (x < y → T) ∧ (¬ x < y → F)
  | .ge => (y ≤ x → T) ∧ (¬ y ≤ x → F)
  | .gt => (y < x → T) ∧ (¬ y < x → F)
  | .le => (x ≤ y → T) ∧ (¬ x ≤ y → F)
noncomputable def swT : List Int32 → List Nat → Int32 → (Nat → Prop) → Prop → Prop
  | k :: ks, t :: ts, x, T, d => (x = k → T t) ∧ (¬ x = k → swT ks ts x T d)
  | _, _, _, _, d => d
noncomputable def cSum (st : List Value) : Nat := (st.map fun v => v.category).sum
noncomputable def rcv (n ci : Nat) : List Value → Bool
  | .ref o :: _ => isO n o ci
  | _ => false
noncomputable def psh (rk : Nat) (x : Int32) (y : Int64) (st : List Value) : List Value := bif Nat.beq rk 0 then st else bif Nat.beq rk 3 then .long y :: st else .int x :: st
noncomputable def bf (rk : Nat) (x : Int32) (P : Prop) : Prop := bif Nat.beq rk 2 then ((x = 0 ∨ x = 1) → P) else P
/-- a call: kind, method, arguments, kind of the answer, cells that it makes, class, late, keeps the references -/
noncomputable def cal (M : Mc) (ph : Bool) (nend : Nat) (K : Kt) (pc n : Nat) (lv : Lv) (st : List Value) (I : Im) (J : Jm) (R : Rm) (kind mi na rk al ci ph1 kr : Nat) : Prop :=
  bif (Nat.ble na st.length && (Nat.ble (n + al) nend && (Nat.ble (cSum (st.drop na)) 8 && (bif ph then Nat.beq kr 1 && Nat.beq al 0 else true)))) && (bif Nat.beq kind 1 || Nat.beq kind 11 then true else rcv n ci ((st.take na).reverse)) then
    (bif Nat.beq ph1 1 && !ph then (Fl R ∧ n = nAll) ∧ M mi n (st.take na).reverse I J R (fun x y I' J' R' => bf rk x (K (pc + 3) (n + al) lv (psh rk x y (st.drop na)) I' J' (bif Nat.beq kr 1 then R else R')))
    else M mi n (st.take na).reverse I J R (fun x y I' J' R' => bf rk x (K (pc + 3) (n + al) lv (psh rk x y (st.drop na)) I' J' (bif Nat.beq kr 1 then R else R'))))
  else False
noncomputable def fgt (n : Nat) (ph : Bool) (ci k kd of : Nat) (st : List Value) (I : Im) (J : Jm) (R : Rm) (K : List Value → Prop) : Prop :=
  sR st fun o r => bif isO n o ci then
    match kd with
    | 0 => K (.int (I o k) :: r)
    | 1 => K (.int (I o k) :: r)
    | 2 => K (.long (J o k) :: r)
    | 3 => ¬ R o k = 0 ∧ K (.ref (R o k) :: r)
    | 4 => bif ph then K (.ref (o + of) :: r) else (¬ R o k = 0 ∧ K (.ref (o + of) :: r))
    | _ => False
  else False
noncomputable def fpt (n : Nat) (ph : Bool) (ci k kd of : Nat) (st : List Value) (I : Im) (J : Jm) (R : Rm) (K : List Value → Im → Jm → Rm → Prop) : Prop :=
  match kd with
  | 0 => sRI st fun o x r => bif isO n o ci then K r (uI I o k x) J R else False
  | 1 => sRI st fun o x r => bif isO n o ci then (x = 0 ∨ x = 1) ∧ K r (uI I o k x) J R else False
  | 2 => sRL st fun o x r => bif isO n o ci then K r I (uJ J o k x) R else False
  | 3 => sRR st fun o v r => bif isO n o ci then ¬ v = 0 ∧ K r I J (uR R o k v) else False
  | 4 => sRR st fun o v r => bif isO n o ci then (bif ph then False else (bif Nat.beq v (o + of) then K r I J (uR R o k v) else False)) else False
  | _ => False
noncomputable def stI (M : Mc) (ph isl : Bool) (L : Nat) (xs : Nat → Int32) (rk nend : Nat) (Q : Nat → Qt) (K : Kt) (pc : Nat) (ax : List Nat) (ks : List Int32) (lz : Int64) (n : Nat) (lv : Lv) (st : List Value) (I : Im) (J : Jm) (R : Rm) : Jvm.ClassFile.Instr → Prop
  | .iconst _ => K (pc + 1) n lv (.int (kz ks) :: st) I J R
  | .bipush _ => K (pc + 2) n lv (.int (kz ks) :: st) I J R
  | .sipush _ => K (pc + 3) n lv (.int (kz ks) :: st) I J R
  | .ldc _ => K (pc + 2) n lv (.int (kz ks) :: st) I J R
  | .ldc_w _ => K (pc + 3) n lv (.int (kz ks) :: st) I J R
  | .ldc2_w _ => K (pc + 3) n lv (.long lz :: st) I J R
  | .lconst _ => K (pc + 1) n lv (.long lz :: st) I J R
  | .iload_n k => lI lv k.val fun x => K (pc + 1) n lv (.int x :: st) I J R
  | .iload k => lI lv k fun x => K (pc + 2) n lv (.int x :: st) I J R
  | .lload_n k => lL lv k.val fun x => K (pc + 1) n lv (.long x :: st) I J R
  | .lload k => lL lv k fun x => K (pc + 2) n lv (.long x :: st) I J R
  | .aload_n k => lR lv k.val fun x => K (pc + 1) n lv (.ref x :: st) I J R
  | .aload k => lR lv k fun x => K (pc + 2) n lv (.ref x :: st) I J R
  | .istore_n k => sI st fun x r => K (pc + 1) n (lpt lv k.val (.int x)) r I J R
  | .istore k => sI st fun x r => K (pc + 2) n (lpt lv k (.int x)) r I J R
  | .lstore_n k => sL st fun x r => K (pc + 1) n (lpt2 lv k.val (.long x)) r I J R
  | .lstore k => sL st fun x r => K (pc + 2) n (lpt2 lv k (.long x)) r I J R
  | .astore_n k => sR st fun x r => K (pc + 1) n (lpt lv k.val (.ref x)) r I J R
  | .astore k => sR st fun x r => K (pc + 2) n (lpt lv k (.ref x)) r I J R
  | .iinc k _ => lI lv k fun x => K (pc + 3) n (lpt lv k (.int (x + kz ks))) st I J R
  | .iadd => sII st fun x y r => K (pc + 1) n lv (.int (x + y) :: r) I J R
  | .isub => sII st fun x y r => K (pc + 1) n lv (.int (x - y) :: r) I J R
  | .imul => sII st fun x y r => K (pc + 1) n lv (.int (x * y) :: r) I J R
  | .iand => sII st fun x y r => K (pc + 1) n lv (.int (x &&& y) :: r) I J R
  | .ior => sII st fun x y r => K (pc + 1) n lv (.int (x ||| y) :: r) I J R
  | .ixor => sII st fun x y r => K (pc + 1) n lv (.int (x ^^^ y) :: r) I J R
  | .idiv => sII st fun x y r => ¬ y = 0 ∧ K (pc + 1) n lv (.int (x / y) :: r) I J R
  | .irem => sII st fun x y r => ¬ y = 0 ∧ K (pc + 1) n lv (.int (x - x / y * y) :: r) I J R
  | .ishl => sII st fun x y r => K (pc + 1) n lv (.int (x <<< (y &&& 31)) :: r) I J R
  | .ishr => sII st fun x y r => K (pc + 1) n lv (.int (x >>> (y &&& 31)) :: r) I J R
  | .iushr => sII st fun x y r => K (pc + 1) n lv (.int (x.toUInt32 >>> (y.toUInt32 &&& Int32.toUInt32 31)).toInt32 :: r) I J R
  | .ladd => sLL st fun x y r => K (pc + 1) n lv (.long (x + y) :: r) I J R
  | .lsub => sLL st fun x y r => K (pc + 1) n lv (.long (x - y) :: r) I J R
  | .lmul => sLL st fun x y r => K (pc + 1) n lv (.long (x * y) :: r) I J R
  | .land => sLL st fun x y r => K (pc + 1) n lv (.long (x &&& y) :: r) I J R
  | .lor => sLL st fun x y r => K (pc + 1) n lv (.long (x ||| y) :: r) I J R
  | .ldiv => sLL st fun x y r => ¬ y = 0 ∧ K (pc + 1) n lv (.long (x / y) :: r) I J R
  | .lrem => sLL st fun x y r => ¬ y = 0 ∧ K (pc + 1) n lv (.long (x - x / y * y) :: r) I J R
  | .lneg => sL st fun x r => K (pc + 1) n lv (.long (-x) :: r) I J R
  | .lshl => sLI st fun x y r => K (pc + 1) n lv (.long (x <<< (y.toInt64 &&& 63)) :: r) I J R
  | .i2l => sI st fun x r => K (pc + 1) n lv (.long x.toInt64 :: r) I J R
  | .l2i => sL st fun x r => K (pc + 1) n lv (.int x.toInt32 :: r) I J R
  | .i2b => sI st fun x r => K (pc + 1) n lv (.int x.toInt8.toInt32 :: r) I J R
  | .i2s => sI st fun x r => K (pc + 1) n lv (.int x.toInt16.toInt32 :: r) I J R
  | .lcmp => sLL st fun x y r => K (pc + 1) n lv (.int (lg_cmp x y) :: r) I J R
  | .dup => match st with
    | .int x :: r => K (pc + 1) n lv (.int x :: .int x :: r) I J R
    | .ref x :: r => K (pc + 1) n lv (.ref x :: .ref x :: r) I J R
    | _ => False
  | .dup2 => match st with
    | .int x :: .ref y :: r => K (pc + 1) n lv (.int x :: .ref y :: .int x :: .ref y :: r) I J R
    | _ => False
  | .pop => match st with
    | .int _ :: r => K (pc + 1) n lv r I J R
    | .ref _ :: r => K (pc + 1) n lv r I J R
    | _ => False
  | .pop2 => sL st fun _ r => K (pc + 1) n lv r I J R
  | .goto _ => K (ax.getD 0 0) n lv st I J R
  | .ifCond c _ => sI st fun x r => icz c x (K (ax.getD 0 0) n lv r I J R) (K (pc + 3) n lv r I J R)
  | .if_icmp c _ => sII st fun x y r => icc c x y (K (ax.getD 0 0) n lv r I J R) (K (pc + 3) n lv r I J R)
  | .tableswitch _ _ _ _ => sI st fun x r => swT ks ax.tail x (fun t => K t n lv r I J R) (K (ax.getD 0 0) n lv r I J R)
  | .lookupswitch _ _ => sI st fun x r => swT ks ax.tail x (fun t => K t n lv r I J R) (K (ax.getD 0 0) n lv r I J R)
  | .getfield _ => match ax with
    | [ci, k, kd, of] => fgt n ph ci k kd of st I J R fun r => K (pc + 3) n lv r I J R
    | _ => False
  | .putfield _ => match ax with
    | [ci, k, kd, of] => fpt n ph ci k kd of st I J R fun r I J R => K (pc + 3) n lv r I J R
    | _ => False
  | .iaload => sRI st fun a i r => bif isA n a 0 then (vp_in i (aL a) ∧ K (pc + 1) n lv (.int (I a i.toNatClampNeg) :: r) I J R) else (bif isl && Nat.beq a 0 then (vp_in i L ∧ K (pc + 1) n lv (.int (xs i.toNatClampNeg) :: r) I J R) else False)
  | .baload => sRI st fun a i r => bif isA n a 2 then (vp_in i (aL a) ∧ K (pc + 1) n lv (.int (I a i.toNatClampNeg) :: r) I J R) else False
  | .laload => sRI st fun a i r => bif isA n a 1 then (vp_in i (aL a) ∧ K (pc + 1) n lv (.long (J a i.toNatClampNeg) :: r) I J R) else False
  | .aaload => match ax with
    | [t] => sRI st fun a i r => bif isA n a (3 + t) then (vp_in i (aL a) ∧ ¬ R a i.toNatClampNeg = 0 ∧ K (pc + 1) n lv (.ref (R a i.toNatClampNeg) :: r) I J R) else False
    | _ => False
  | .iastore => sRII st fun a i x r => bif isA n a 0 then (vp_in i (aL a) ∧ K (pc + 1) n lv r (uI I a i.toNatClampNeg x) J R) else False
  | .bastore => sRII st fun a i x r => bif isA n a 2 then (vp_in i (aL a) ∧ K (pc + 1) n lv r (uI I a i.toNatClampNeg x.toInt8.toInt32) J R) else False
  | .lastore => sRIL st fun a i x r => bif isA n a 1 then (vp_in i (aL a) ∧ K (pc + 1) n lv r I (uJ J a i.toNatClampNeg x) R) else False
  | .aastore => match ax with
    | [t, ci] => sRIR st fun a i v r => bif isA n a (3 + t) && isO n v ci then (vp_in i (aL a) ∧ K (pc + 1) n lv r I J (uR R a i.toNatClampNeg v)) else False
    | _ => False
  | .arraylength => sR st fun a r => bif isA n a 0 then K (pc + 1) n lv (.int (Int32.ofNat (aL a)) :: r) I J R else (bif isA n a 1 then K (pc + 1) n lv (.int (Int32.ofNat (aL a)) :: r) I J R else (bif isl && Nat.beq a 0 then K (pc + 1) n lv (.int (Int32.ofNat L) :: r) I J R else False))
  | .new _ => match ax with
    | [ci] => bif isO (n + 1) (n + 1) ci && (Nat.ble (n + 1) nend && !ph) then K (pc + 3) (n + 1) lv (.ref (n + 1) :: st) (zI I (n + 1)) (zJ J (n + 1)) (zR R (n + 1)) else False
    | _ => False
  | .newarray _ => match ax with
    | [t] => sI st fun x r => bif isA (n + 1) (n + 1) t && (Nat.ble (n + 1) nend && !ph) then (x = Int32.ofNat (aL (n + 1)) ∧ K (pc + 2) (n + 1) lv (.ref (n + 1) :: r) (zI I (n + 1)) (zJ J (n + 1)) (zR R (n + 1))) else False
    | _ => False
  | .anewarray _ => match ax with
    | [t] => sI st fun x r => bif isA (n + 1) (n + 1) (3 + t) && (Nat.ble (n + 1) nend && !ph) then (x = Int32.ofNat (aL (n + 1)) ∧ K (pc + 3) (n + 1) lv (.ref (n + 1) :: r) (zI I (n + 1)) (zJ J (n + 1)) (zR R (n + 1))) else False
    | _ => False
  | .invokevirtual _ => match ax with
    | [kind, mi, na, rk, al, ci, ph1, kr] => bif Nat.beq kind 0 then cal M ph nend K pc n lv st I J R kind mi na rk al ci ph1 kr else False
    | _ => False
  | .invokestatic _ => match ax with
    | [kind, mi, na, rk, al, ci, ph1, kr] => bif Nat.beq kind 1 || Nat.beq kind 11 then cal M ph nend K pc n lv st I J R kind mi na rk al ci ph1 kr else False
    | [kind, _] => match kind with
      | 4 => sCpy st fun a0 sp a1 dp m r => bif Nat.ble (cSum r) 8 && (isA n a0 0 && isA n a1 0) then ((¬ sp < 0 ∧ ¬ dp < 0 ∧ ¬ m < 0 ∧ sp.toNatClampNeg + m.toNatClampNeg ≤ aL a0 ∧ dp.toNatClampNeg + m.toNatClampNeg ≤ aL a1) ∧ K (pc + 3) n lv r (cI I a0 a1 sp.toNatClampNeg dp.toNatClampNeg m.toNatClampNeg) J R) else False
      | 5 => sCpy st fun a0 sp a1 dp m r => bif Nat.ble (cSum r) 8 && (isA n a0 1 && isA n a1 1) then ((¬ sp < 0 ∧ ¬ dp < 0 ∧ ¬ m < 0 ∧ sp.toNatClampNeg + m.toNatClampNeg ≤ aL a0 ∧ dp.toNatClampNeg + m.toNatClampNeg ≤ aL a1) ∧ K (pc + 3) n lv r I (cJ J a0 a1 sp.toNatClampNeg dp.toNatClampNeg m.toNatClampNeg) R) else False
      | 6 => sII st fun x y r => bif Nat.ble (cSum r) 8 && Nat.ble n nend then K (pc + 3) n lv (.int (if x < y then y else x) :: r) I J R else False
      | 7 => sII st fun x y r => bif Nat.ble (cSum r) 8 && Nat.ble n nend then K (pc + 3) n lv (.int (if y < x then y else x) :: r) I J R else False
      | 8 => sL st fun x r => bif Nat.ble (cSum r) 8 && Nat.ble n nend then K (pc + 3) n lv (.long (if 0 < x then x else -x) :: r) I J R else False
      | _ => False
    | _ => False
  | .invokespecial _ => match ax with
    | [kind, mi, na, rk, al, ci, ph1, kr] => bif (Nat.beq kind 2 || Nat.beq kind 12) && Nat.beq rk 0 then cal M ph nend K pc n lv st I J R kind mi na rk al ci ph1 kr else False
    | [3] => sR st fun _ r => bif Nat.ble (cSum r) 8 then K (pc + 3) n lv r I J R else False
    | _ => False
  | .return_ => bif Nat.beq rk 0 then (match st with
    | [] => Q n 0 0 I J R
    | _ => False) else False
  | .ireturn => bif Nat.beq rk 1 then (match st with
    | [.int x] => Q n x 0 I J R
    | _ => False) else (bif Nat.beq rk 2 then (match st with
    | [.int x] => (x = 0 ∨ x = 1) ∧ Q n x 0 I J R
    | _ => False) else False)
  | .lreturn => bif Nat.beq rk 3 then (match st with
    | [.long x] => Q n 0 x I J R
    | _ => False) else False
  | _ => False
/-- some of the locals, in their order -/
noncomputable def pk : List Nat → Lv → Lv
  | [], _ => []
  | i :: r, lv => match lgt lv i with
    | .null => pk r lv
    | v => (i, v) :: pk r lv
/-- closed under the steps, and under knowing more of the locals -/
noncomputable def Cl (M : Mc) (ph isl : Bool) (L : Nat) (xs : Nat → Int32) (rk nend : Nat) (code : List En) (Q : Nat → Qt) (P : Kt) : Prop :=
  (∀ e : En, e ∈ code → ∀ (n : Nat) (lv : Lv) (st : List Value) (I : Im) (J : Jm) (R : Rm), stI M ph isl L xs rk nend Q P e.1 e.2.2.2.1 e.2.2.2.2.1 e.2.2.2.2.2 n lv st I J R e.2.1 → P e.1 n lv st I J R) ∧
  (∀ (pc n : Nat) (ks : List Nat) (lv : Lv) (st : List Value) (I : Im) (J : Jm) (R : Rm), P pc n (pk ks lv) st I J R → P pc n lv st I J R)
/-- a walk: whatever is closed under the steps holds here -/
noncomputable def AW (M : Mc) (ph isl : Bool) (L : Nat) (xs : Nat → Int32) (rk nend : Nat) (code : List En) (Q : Nat → Qt) (pc n : Nat) (lv : Lv) (st : List Value) (I : Im) (J : Jm) (R : Rm) : Prop :=
  ∀ P : Kt, Cl M ph isl L xs rk nend code Q P → P pc n lv st I J R
noncomputable def drp : List En → Nat → List En
  | [], _ => []
  | e :: r, pc => bif Nat.beq e.1 pc then e :: r else drp r pc
noncomputable def stp : List (Nat × List Nat) → Nat → Option (List Nat)
  | [], _ => none
  | q :: r, pc => bif Nat.beq q.1 pc then some q.2 else stp r pc
noncomputable def frc : Lv → (Lv → Prop) → Prop
  | [], k => k []
  | q :: r, k => frc r (fun r9 => k (q :: r9))
theorem frc_eq : ∀ (l : Lv) (k : Lv → Prop), frc l k = k l
  | [], _ => rfl
  | q :: r, k => frc_eq r (fun r9 => k (q :: r9))
noncomputable def sf_iconst (M : Mc) (ph isl : Bool) (L : Nat) (xs : Nat → Int32) (rk nend : Nat) (Q : Nat → Qt) (K : Kt) (pc : Nat) (ax : List Nat) (ks : List Int32) (lz : Int64) (n : Nat) (lv : Lv) (st : List Value) (I : Im) (J : Jm) (R : Rm) : Prop := K (pc + 1) n lv (.int (kz ks) :: st) I J R
noncomputable def sf_bipush (M : Mc) (ph isl : Bool) (L : Nat) (xs : Nat → Int32) (rk nend : Nat) (Q : Nat → Qt) (K : Kt) (pc : Nat) (ax : List Nat) (ks : List Int32) (lz : Int64) (n : Nat) (lv : Lv) (st : List Value) (I : Im) (J : Jm) (R : Rm) : Prop := K (pc + 2) n lv (.int (kz ks) :: st) I J R
noncomputable def sf_sipush (M : Mc) (ph isl : Bool) (L : Nat) (xs : Nat → Int32) (rk nend : Nat) (Q : Nat → Qt) (K : Kt) (pc : Nat) (ax : List Nat) (ks : List Int32) (lz : Int64) (n : Nat) (lv : Lv) (st : List Value) (I : Im) (J : Jm) (R : Rm) : Prop := K (pc + 3) n lv (.int (kz ks) :: st) I J R
noncomputable def sf_ldc (M : Mc) (ph isl : Bool) (L : Nat) (xs : Nat → Int32) (rk nend : Nat) (Q : Nat → Qt) (K : Kt) (pc : Nat) (ax : List Nat) (ks : List Int32) (lz : Int64) (n : Nat) (lv : Lv) (st : List Value) (I : Im) (J : Jm) (R : Rm) : Prop := K (pc + 2) n lv (.int (kz ks) :: st) I J R
noncomputable def sf_ldc_w (M : Mc) (ph isl : Bool) (L : Nat) (xs : Nat → Int32) (rk nend : Nat) (Q : Nat → Qt) (K : Kt) (pc : Nat) (ax : List Nat) (ks : List Int32) (lz : Int64) (n : Nat) (lv : Lv) (st : List Value) (I : Im) (J : Jm) (R : Rm) : Prop := K (pc + 3) n lv (.int (kz ks) :: st) I J R
noncomputable def sf_ldc2_w (M : Mc) (ph isl : Bool) (L : Nat) (xs : Nat → Int32) (rk nend : Nat) (Q : Nat → Qt) (K : Kt) (pc : Nat) (ax : List Nat) (ks : List Int32) (lz : Int64) (n : Nat) (lv : Lv) (st : List Value) (I : Im) (J : Jm) (R : Rm) : Prop := K (pc + 3) n lv (.long lz :: st) I J R
noncomputable def sf_lconst (M : Mc) (ph isl : Bool) (L : Nat) (xs : Nat → Int32) (rk nend : Nat) (Q : Nat → Qt) (K : Kt) (pc : Nat) (ax : List Nat) (ks : List Int32) (lz : Int64) (n : Nat) (lv : Lv) (st : List Value) (I : Im) (J : Jm) (R : Rm) : Prop := K (pc + 1) n lv (.long lz :: st) I J R
noncomputable def sf_iload_n (k : Fin 4) (M : Mc) (ph isl : Bool) (L : Nat) (xs : Nat → Int32) (rk nend : Nat) (Q : Nat → Qt) (K : Kt) (pc : Nat) (ax : List Nat) (ks : List Int32) (lz : Int64) (n : Nat) (lv : Lv) (st : List Value) (I : Im) (J : Jm) (R : Rm) : Prop := lI lv k.val fun x => K (pc + 1) n lv (.int x :: st) I J R
noncomputable def sf_iload (k : Nat) (M : Mc) (ph isl : Bool) (L : Nat) (xs : Nat → Int32) (rk nend : Nat) (Q : Nat → Qt) (K : Kt) (pc : Nat) (ax : List Nat) (ks : List Int32) (lz : Int64) (n : Nat) (lv : Lv) (st : List Value) (I : Im) (J : Jm) (R : Rm) : Prop := lI lv k fun x => K (pc + 2) n lv (.int x :: st) I J R
noncomputable def sf_lload_n (k : Fin 4) (M : Mc) (ph isl : Bool) (L : Nat) (xs : Nat → Int32) (rk nend : Nat) (Q : Nat → Qt) (K : Kt) (pc : Nat) (ax : List Nat) (ks : List Int32) (lz : Int64) (n : Nat) (lv : Lv) (st : List Value) (I : Im) (J : Jm) (R : Rm) : Prop := lL lv k.val fun x => K (pc + 1) n lv (.long x :: st) I J R
noncomputable def sf_lload (k : Nat) (M : Mc) (ph isl : Bool) (L : Nat) (xs : Nat → Int32) (rk nend : Nat) (Q : Nat → Qt) (K : Kt) (pc : Nat) (ax : List Nat) (ks : List Int32) (lz : Int64) (n : Nat) (lv : Lv) (st : List Value) (I : Im) (J : Jm) (R : Rm) : Prop := lL lv k fun x => K (pc + 2) n lv (.long x :: st) I J R
noncomputable def sf_aload_n (k : Fin 4) (M : Mc) (ph isl : Bool) (L : Nat) (xs : Nat → Int32) (rk nend : Nat) (Q : Nat → Qt) (K : Kt) (pc : Nat) (ax : List Nat) (ks : List Int32) (lz : Int64) (n : Nat) (lv : Lv) (st : List Value) (I : Im) (J : Jm) (R : Rm) : Prop := lR lv k.val fun x => K (pc + 1) n lv (.ref x :: st) I J R
noncomputable def sf_aload (k : Nat) (M : Mc) (ph isl : Bool) (L : Nat) (xs : Nat → Int32) (rk nend : Nat) (Q : Nat → Qt) (K : Kt) (pc : Nat) (ax : List Nat) (ks : List Int32) (lz : Int64) (n : Nat) (lv : Lv) (st : List Value) (I : Im) (J : Jm) (R : Rm) : Prop := lR lv k fun x => K (pc + 2) n lv (.ref x :: st) I J R
noncomputable def sf_istore_n (k : Fin 4) (M : Mc) (ph isl : Bool) (L : Nat) (xs : Nat → Int32) (rk nend : Nat) (Q : Nat → Qt) (K : Kt) (pc : Nat) (ax : List Nat) (ks : List Int32) (lz : Int64) (n : Nat) (lv : Lv) (st : List Value) (I : Im) (J : Jm) (R : Rm) : Prop := sI st fun x r => frc (lpt lv k.val (.int x)) fun l9 => K (pc + 1) n l9 r I J R
noncomputable def sf_istore (k : Nat) (M : Mc) (ph isl : Bool) (L : Nat) (xs : Nat → Int32) (rk nend : Nat) (Q : Nat → Qt) (K : Kt) (pc : Nat) (ax : List Nat) (ks : List Int32) (lz : Int64) (n : Nat) (lv : Lv) (st : List Value) (I : Im) (J : Jm) (R : Rm) : Prop := sI st fun x r => frc (lpt lv k (.int x)) fun l9 => K (pc + 2) n l9 r I J R
noncomputable def sf_lstore_n (k : Fin 4) (M : Mc) (ph isl : Bool) (L : Nat) (xs : Nat → Int32) (rk nend : Nat) (Q : Nat → Qt) (K : Kt) (pc : Nat) (ax : List Nat) (ks : List Int32) (lz : Int64) (n : Nat) (lv : Lv) (st : List Value) (I : Im) (J : Jm) (R : Rm) : Prop := sL st fun x r => frc (lpt2 lv k.val (.long x)) fun l9 => K (pc + 1) n l9 r I J R
noncomputable def sf_lstore (k : Nat) (M : Mc) (ph isl : Bool) (L : Nat) (xs : Nat → Int32) (rk nend : Nat) (Q : Nat → Qt) (K : Kt) (pc : Nat) (ax : List Nat) (ks : List Int32) (lz : Int64) (n : Nat) (lv : Lv) (st : List Value) (I : Im) (J : Jm) (R : Rm) : Prop := sL st fun x r => frc (lpt2 lv k (.long x)) fun l9 => K (pc + 2) n l9 r I J R
noncomputable def sf_astore_n (k : Fin 4) (M : Mc) (ph isl : Bool) (L : Nat) (xs : Nat → Int32) (rk nend : Nat) (Q : Nat → Qt) (K : Kt) (pc : Nat) (ax : List Nat) (ks : List Int32) (lz : Int64) (n : Nat) (lv : Lv) (st : List Value) (I : Im) (J : Jm) (R : Rm) : Prop := sR st fun x r => frc (lpt lv k.val (.ref x)) fun l9 => K (pc + 1) n l9 r I J R
noncomputable def sf_astore (k : Nat) (M : Mc) (ph isl : Bool) (L : Nat) (xs : Nat → Int32) (rk nend : Nat) (Q : Nat → Qt) (K : Kt) (pc : Nat) (ax : List Nat) (ks : List Int32) (lz : Int64) (n : Nat) (lv : Lv) (st : List Value) (I : Im) (J : Jm) (R : Rm) : Prop := sR st fun x r => frc (lpt lv k (.ref x)) fun l9 => K (pc + 2) n l9 r I J R
noncomputable def sf_iinc (k : Nat) (M : Mc) (ph isl : Bool) (L : Nat) (xs : Nat → Int32) (rk nend : Nat) (Q : Nat → Qt) (K : Kt) (pc : Nat) (ax : List Nat) (ks : List Int32) (lz : Int64) (n : Nat) (lv : Lv) (st : List Value) (I : Im) (J : Jm) (R : Rm) : Prop := lI lv k fun x => frc (lpt lv k (.int (x + kz ks))) fun l9 => K (pc + 3) n l9 st I J R
noncomputable def sf_iadd (M : Mc) (ph isl : Bool) (L : Nat) (xs : Nat → Int32) (rk nend : Nat) (Q : Nat → Qt) (K : Kt) (pc : Nat) (ax : List Nat) (ks : List Int32) (lz : Int64) (n : Nat) (lv : Lv) (st : List Value) (I : Im) (J : Jm) (R : Rm) : Prop := sII st fun x y r => K (pc + 1) n lv (.int (x + y) :: r) I J R
noncomputable def sf_isub (M : Mc) (ph isl : Bool) (L : Nat) (xs : Nat → Int32) (rk nend : Nat) (Q : Nat → Qt) (K : Kt) (pc : Nat) (ax : List Nat) (ks : List Int32) (lz : Int64) (n : Nat) (lv : Lv) (st : List Value) (I : Im) (J : Jm) (R : Rm) : Prop := sII st fun x y r => K (pc + 1) n lv (.int (x - y) :: r) I J R
noncomputable def sf_imul (M : Mc) (ph isl : Bool) (L : Nat) (xs : Nat → Int32) (rk nend : Nat) (Q : Nat → Qt) (K : Kt) (pc : Nat) (ax : List Nat) (ks : List Int32) (lz : Int64) (n : Nat) (lv : Lv) (st : List Value) (I : Im) (J : Jm) (R : Rm) : Prop := sII st fun x y r => K (pc + 1) n lv (.int (x * y) :: r) I J R
noncomputable def sf_iand (M : Mc) (ph isl : Bool) (L : Nat) (xs : Nat → Int32) (rk nend : Nat) (Q : Nat → Qt) (K : Kt) (pc : Nat) (ax : List Nat) (ks : List Int32) (lz : Int64) (n : Nat) (lv : Lv) (st : List Value) (I : Im) (J : Jm) (R : Rm) : Prop := sII st fun x y r => K (pc + 1) n lv (.int (x &&& y) :: r) I J R
noncomputable def sf_ior (M : Mc) (ph isl : Bool) (L : Nat) (xs : Nat → Int32) (rk nend : Nat) (Q : Nat → Qt) (K : Kt) (pc : Nat) (ax : List Nat) (ks : List Int32) (lz : Int64) (n : Nat) (lv : Lv) (st : List Value) (I : Im) (J : Jm) (R : Rm) : Prop := sII st fun x y r => K (pc + 1) n lv (.int (x ||| y) :: r) I J R
noncomputable def sf_ixor (M : Mc) (ph isl : Bool) (L : Nat) (xs : Nat → Int32) (rk nend : Nat) (Q : Nat → Qt) (K : Kt) (pc : Nat) (ax : List Nat) (ks : List Int32) (lz : Int64) (n : Nat) (lv : Lv) (st : List Value) (I : Im) (J : Jm) (R : Rm) : Prop := sII st fun x y r => K (pc + 1) n lv (.int (x ^^^ y) :: r) I J R
noncomputable def sf_idiv (M : Mc) (ph isl : Bool) (L : Nat) (xs : Nat → Int32) (rk nend : Nat) (Q : Nat → Qt) (K : Kt) (pc : Nat) (ax : List Nat) (ks : List Int32) (lz : Int64) (n : Nat) (lv : Lv) (st : List Value) (I : Im) (J : Jm) (R : Rm) : Prop := sII st fun x y r => ¬ y = 0 ∧ K (pc + 1) n lv (.int (x / y) :: r) I J R
noncomputable def sf_irem (M : Mc) (ph isl : Bool) (L : Nat) (xs : Nat → Int32) (rk nend : Nat) (Q : Nat → Qt) (K : Kt) (pc : Nat) (ax : List Nat) (ks : List Int32) (lz : Int64) (n : Nat) (lv : Lv) (st : List Value) (I : Im) (J : Jm) (R : Rm) : Prop := sII st fun x y r => ¬ y = 0 ∧ K (pc + 1) n lv (.int (x - x / y * y) :: r) I J R
noncomputable def sf_ishl (M : Mc) (ph isl : Bool) (L : Nat) (xs : Nat → Int32) (rk nend : Nat) (Q : Nat → Qt) (K : Kt) (pc : Nat) (ax : List Nat) (ks : List Int32) (lz : Int64) (n : Nat) (lv : Lv) (st : List Value) (I : Im) (J : Jm) (R : Rm) : Prop := sII st fun x y r => K (pc + 1) n lv (.int (x <<< (y &&& 31)) :: r) I J R
noncomputable def sf_ishr (M : Mc) (ph isl : Bool) (L : Nat) (xs : Nat → Int32) (rk nend : Nat) (Q : Nat → Qt) (K : Kt) (pc : Nat) (ax : List Nat) (ks : List Int32) (lz : Int64) (n : Nat) (lv : Lv) (st : List Value) (I : Im) (J : Jm) (R : Rm) : Prop := sII st fun x y r => K (pc + 1) n lv (.int (x >>> (y &&& 31)) :: r) I J R
noncomputable def sf_iushr (M : Mc) (ph isl : Bool) (L : Nat) (xs : Nat → Int32) (rk nend : Nat) (Q : Nat → Qt) (K : Kt) (pc : Nat) (ax : List Nat) (ks : List Int32) (lz : Int64) (n : Nat) (lv : Lv) (st : List Value) (I : Im) (J : Jm) (R : Rm) : Prop := sII st fun x y r => K (pc + 1) n lv (.int (x.toUInt32 >>> (y.toUInt32 &&& Int32.toUInt32 31)).toInt32 :: r) I J R
noncomputable def sf_ladd (M : Mc) (ph isl : Bool) (L : Nat) (xs : Nat → Int32) (rk nend : Nat) (Q : Nat → Qt) (K : Kt) (pc : Nat) (ax : List Nat) (ks : List Int32) (lz : Int64) (n : Nat) (lv : Lv) (st : List Value) (I : Im) (J : Jm) (R : Rm) : Prop := sLL st fun x y r => K (pc + 1) n lv (.long (x + y) :: r) I J R
noncomputable def sf_lsub (M : Mc) (ph isl : Bool) (L : Nat) (xs : Nat → Int32) (rk nend : Nat) (Q : Nat → Qt) (K : Kt) (pc : Nat) (ax : List Nat) (ks : List Int32) (lz : Int64) (n : Nat) (lv : Lv) (st : List Value) (I : Im) (J : Jm) (R : Rm) : Prop := sLL st fun x y r => K (pc + 1) n lv (.long (x - y) :: r) I J R
noncomputable def sf_lmul (M : Mc) (ph isl : Bool) (L : Nat) (xs : Nat → Int32) (rk nend : Nat) (Q : Nat → Qt) (K : Kt) (pc : Nat) (ax : List Nat) (ks : List Int32) (lz : Int64) (n : Nat) (lv : Lv) (st : List Value) (I : Im) (J : Jm) (R : Rm) : Prop := sLL st fun x y r => K (pc + 1) n lv (.long (x * y) :: r) I J R
noncomputable def sf_land (M : Mc) (ph isl : Bool) (L : Nat) (xs : Nat → Int32) (rk nend : Nat) (Q : Nat → Qt) (K : Kt) (pc : Nat) (ax : List Nat) (ks : List Int32) (lz : Int64) (n : Nat) (lv : Lv) (st : List Value) (I : Im) (J : Jm) (R : Rm) : Prop := sLL st fun x y r => K (pc + 1) n lv (.long (x &&& y) :: r) I J R
noncomputable def sf_lor (M : Mc) (ph isl : Bool) (L : Nat) (xs : Nat → Int32) (rk nend : Nat) (Q : Nat → Qt) (K : Kt) (pc : Nat) (ax : List Nat) (ks : List Int32) (lz : Int64) (n : Nat) (lv : Lv) (st : List Value) (I : Im) (J : Jm) (R : Rm) : Prop := sLL st fun x y r => K (pc + 1) n lv (.long (x ||| y) :: r) I J R
noncomputable def sf_ldiv (M : Mc) (ph isl : Bool) (L : Nat) (xs : Nat → Int32) (rk nend : Nat) (Q : Nat → Qt) (K : Kt) (pc : Nat) (ax : List Nat) (ks : List Int32) (lz : Int64) (n : Nat) (lv : Lv) (st : List Value) (I : Im) (J : Jm) (R : Rm) : Prop := sLL st fun x y r => ¬ y = 0 ∧ K (pc + 1) n lv (.long (x / y) :: r) I J R
noncomputable def sf_lrem (M : Mc) (ph isl : Bool) (L : Nat) (xs : Nat → Int32) (rk nend : Nat) (Q : Nat → Qt) (K : Kt) (pc : Nat) (ax : List Nat) (ks : List Int32) (lz : Int64) (n : Nat) (lv : Lv) (st : List Value) (I : Im) (J : Jm) (R : Rm) : Prop := sLL st fun x y r => ¬ y = 0 ∧ K (pc + 1) n lv (.long (x - x / y * y) :: r) I J R
noncomputable def sf_lneg (M : Mc) (ph isl : Bool) (L : Nat) (xs : Nat → Int32) (rk nend : Nat) (Q : Nat → Qt) (K : Kt) (pc : Nat) (ax : List Nat) (ks : List Int32) (lz : Int64) (n : Nat) (lv : Lv) (st : List Value) (I : Im) (J : Jm) (R : Rm) : Prop := sL st fun x r => K (pc + 1) n lv (.long (-x) :: r) I J R
noncomputable def sf_lshl (M : Mc) (ph isl : Bool) (L : Nat) (xs : Nat → Int32) (rk nend : Nat) (Q : Nat → Qt) (K : Kt) (pc : Nat) (ax : List Nat) (ks : List Int32) (lz : Int64) (n : Nat) (lv : Lv) (st : List Value) (I : Im) (J : Jm) (R : Rm) : Prop := sLI st fun x y r => K (pc + 1) n lv (.long (x <<< (y.toInt64 &&& 63)) :: r) I J R
noncomputable def sf_i2l (M : Mc) (ph isl : Bool) (L : Nat) (xs : Nat → Int32) (rk nend : Nat) (Q : Nat → Qt) (K : Kt) (pc : Nat) (ax : List Nat) (ks : List Int32) (lz : Int64) (n : Nat) (lv : Lv) (st : List Value) (I : Im) (J : Jm) (R : Rm) : Prop := sI st fun x r => K (pc + 1) n lv (.long x.toInt64 :: r) I J R
noncomputable def sf_l2i (M : Mc) (ph isl : Bool) (L : Nat) (xs : Nat → Int32) (rk nend : Nat) (Q : Nat → Qt) (K : Kt) (pc : Nat) (ax : List Nat) (ks : List Int32) (lz : Int64) (n : Nat) (lv : Lv) (st : List Value) (I : Im) (J : Jm) (R : Rm) : Prop := sL st fun x r => K (pc + 1) n lv (.int x.toInt32 :: r) I J R
noncomputable def sf_i2b (M : Mc) (ph isl : Bool) (L : Nat) (xs : Nat → Int32) (rk nend : Nat) (Q : Nat → Qt) (K : Kt) (pc : Nat) (ax : List Nat) (ks : List Int32) (lz : Int64) (n : Nat) (lv : Lv) (st : List Value) (I : Im) (J : Jm) (R : Rm) : Prop := sI st fun x r => K (pc + 1) n lv (.int x.toInt8.toInt32 :: r) I J R
noncomputable def sf_i2s (M : Mc) (ph isl : Bool) (L : Nat) (xs : Nat → Int32) (rk nend : Nat) (Q : Nat → Qt) (K : Kt) (pc : Nat) (ax : List Nat) (ks : List Int32) (lz : Int64) (n : Nat) (lv : Lv) (st : List Value) (I : Im) (J : Jm) (R : Rm) : Prop := sI st fun x r => K (pc + 1) n lv (.int x.toInt16.toInt32 :: r) I J R
noncomputable def sf_lcmp (M : Mc) (ph isl : Bool) (L : Nat) (xs : Nat → Int32) (rk nend : Nat) (Q : Nat → Qt) (K : Kt) (pc : Nat) (ax : List Nat) (ks : List Int32) (lz : Int64) (n : Nat) (lv : Lv) (st : List Value) (I : Im) (J : Jm) (R : Rm) : Prop := sLL st fun x y r => K (pc + 1) n lv (.int (lg_cmp x y) :: r) I J R
noncomputable def sf_dup (M : Mc) (ph isl : Bool) (L : Nat) (xs : Nat → Int32) (rk nend : Nat) (Q : Nat → Qt) (K : Kt) (pc : Nat) (ax : List Nat) (ks : List Int32) (lz : Int64) (n : Nat) (lv : Lv) (st : List Value) (I : Im) (J : Jm) (R : Rm) : Prop := match st with
    | .int x :: r => K (pc + 1) n lv (.int x :: .int x :: r) I J R
    | .ref x :: r => K (pc + 1) n lv (.ref x :: .ref x :: r) I J R
    | _ => False
noncomputable def sf_dup2 (M : Mc) (ph isl : Bool) (L : Nat) (xs : Nat → Int32) (rk nend : Nat) (Q : Nat → Qt) (K : Kt) (pc : Nat) (ax : List Nat) (ks : List Int32) (lz : Int64) (n : Nat) (lv : Lv) (st : List Value) (I : Im) (J : Jm) (R : Rm) : Prop := match st with
    | .int x :: .ref y :: r => K (pc + 1) n lv (.int x :: .ref y :: .int x :: .ref y :: r) I J R
    | _ => False
noncomputable def sf_pop (M : Mc) (ph isl : Bool) (L : Nat) (xs : Nat → Int32) (rk nend : Nat) (Q : Nat → Qt) (K : Kt) (pc : Nat) (ax : List Nat) (ks : List Int32) (lz : Int64) (n : Nat) (lv : Lv) (st : List Value) (I : Im) (J : Jm) (R : Rm) : Prop := match st with
    | .int _ :: r => K (pc + 1) n lv r I J R
    | .ref _ :: r => K (pc + 1) n lv r I J R
    | _ => False
noncomputable def sf_pop2 (M : Mc) (ph isl : Bool) (L : Nat) (xs : Nat → Int32) (rk nend : Nat) (Q : Nat → Qt) (K : Kt) (pc : Nat) (ax : List Nat) (ks : List Int32) (lz : Int64) (n : Nat) (lv : Lv) (st : List Value) (I : Im) (J : Jm) (R : Rm) : Prop := sL st fun _ r => K (pc + 1) n lv r I J R
noncomputable def sf_goto (M : Mc) (ph isl : Bool) (L : Nat) (xs : Nat → Int32) (rk nend : Nat) (Q : Nat → Qt) (K : Kt) (pc : Nat) (ax : List Nat) (ks : List Int32) (lz : Int64) (n : Nat) (lv : Lv) (st : List Value) (I : Im) (J : Jm) (R : Rm) : Prop := K (ax.getD 0 0) n lv st I J R
noncomputable def sf_ifCond (c : Jvm.ClassFile.Cond) (M : Mc) (ph isl : Bool) (L : Nat) (xs : Nat → Int32) (rk nend : Nat) (Q : Nat → Qt) (K : Kt) (pc : Nat) (ax : List Nat) (ks : List Int32) (lz : Int64) (n : Nat) (lv : Lv) (st : List Value) (I : Im) (J : Jm) (R : Rm) : Prop := sI st fun x r => icz c x (K (ax.getD 0 0) n lv r I J R) (K (pc + 3) n lv r I J R)
noncomputable def sf_if_icmp (c : Jvm.ClassFile.Cond) (M : Mc) (ph isl : Bool) (L : Nat) (xs : Nat → Int32) (rk nend : Nat) (Q : Nat → Qt) (K : Kt) (pc : Nat) (ax : List Nat) (ks : List Int32) (lz : Int64) (n : Nat) (lv : Lv) (st : List Value) (I : Im) (J : Jm) (R : Rm) : Prop := sII st fun x y r => icc c x y (K (ax.getD 0 0) n lv r I J R) (K (pc + 3) n lv r I J R)
noncomputable def sf_tableswitch (M : Mc) (ph isl : Bool) (L : Nat) (xs : Nat → Int32) (rk nend : Nat) (Q : Nat → Qt) (K : Kt) (pc : Nat) (ax : List Nat) (ks : List Int32) (lz : Int64) (n : Nat) (lv : Lv) (st : List Value) (I : Im) (J : Jm) (R : Rm) : Prop := sI st fun x r => swT ks ax.tail x (fun t => K t n lv r I J R) (K (ax.getD 0 0) n lv r I J R)
noncomputable def sf_lookupswitch (M : Mc) (ph isl : Bool) (L : Nat) (xs : Nat → Int32) (rk nend : Nat) (Q : Nat → Qt) (K : Kt) (pc : Nat) (ax : List Nat) (ks : List Int32) (lz : Int64) (n : Nat) (lv : Lv) (st : List Value) (I : Im) (J : Jm) (R : Rm) : Prop := sI st fun x r => swT ks ax.tail x (fun t => K t n lv r I J R) (K (ax.getD 0 0) n lv r I J R)
noncomputable def sf_getfield (M : Mc) (ph isl : Bool) (L : Nat) (xs : Nat → Int32) (rk nend : Nat) (Q : Nat → Qt) (K : Kt) (pc : Nat) (ax : List Nat) (ks : List Int32) (lz : Int64) (n : Nat) (lv : Lv) (st : List Value) (I : Im) (J : Jm) (R : Rm) : Prop := match ax with
    | [ci, k, kd, of] => fgt n ph ci k kd of st I J R fun r => K (pc + 3) n lv r I J R
    | _ => False
noncomputable def sf_putfield (M : Mc) (ph isl : Bool) (L : Nat) (xs : Nat → Int32) (rk nend : Nat) (Q : Nat → Qt) (K : Kt) (pc : Nat) (ax : List Nat) (ks : List Int32) (lz : Int64) (n : Nat) (lv : Lv) (st : List Value) (I : Im) (J : Jm) (R : Rm) : Prop := match ax with
    | [ci, k, kd, of] => fpt n ph ci k kd of st I J R fun r I J R => K (pc + 3) n lv r I J R
    | _ => False
noncomputable def sf_iaload (M : Mc) (ph isl : Bool) (L : Nat) (xs : Nat → Int32) (rk nend : Nat) (Q : Nat → Qt) (K : Kt) (pc : Nat) (ax : List Nat) (ks : List Int32) (lz : Int64) (n : Nat) (lv : Lv) (st : List Value) (I : Im) (J : Jm) (R : Rm) : Prop := sRI st fun a i r => bif isA n a 0 then (vp_in i (aL a) ∧ K (pc + 1) n lv (.int (I a i.toNatClampNeg) :: r) I J R) else (bif isl && Nat.beq a 0 then (vp_in i L ∧ K (pc + 1) n lv (.int (xs i.toNatClampNeg) :: r) I J R) else False)
noncomputable def sf_baload (M : Mc) (ph isl : Bool) (L : Nat) (xs : Nat → Int32) (rk nend : Nat) (Q : Nat → Qt) (K : Kt) (pc : Nat) (ax : List Nat) (ks : List Int32) (lz : Int64) (n : Nat) (lv : Lv) (st : List Value) (I : Im) (J : Jm) (R : Rm) : Prop := sRI st fun a i r => bif isA n a 2 then (vp_in i (aL a) ∧ K (pc + 1) n lv (.int (I a i.toNatClampNeg) :: r) I J R) else False
noncomputable def sf_laload (M : Mc) (ph isl : Bool) (L : Nat) (xs : Nat → Int32) (rk nend : Nat) (Q : Nat → Qt) (K : Kt) (pc : Nat) (ax : List Nat) (ks : List Int32) (lz : Int64) (n : Nat) (lv : Lv) (st : List Value) (I : Im) (J : Jm) (R : Rm) : Prop := sRI st fun a i r => bif isA n a 1 then (vp_in i (aL a) ∧ K (pc + 1) n lv (.long (J a i.toNatClampNeg) :: r) I J R) else False
noncomputable def sf_aaload (M : Mc) (ph isl : Bool) (L : Nat) (xs : Nat → Int32) (rk nend : Nat) (Q : Nat → Qt) (K : Kt) (pc : Nat) (ax : List Nat) (ks : List Int32) (lz : Int64) (n : Nat) (lv : Lv) (st : List Value) (I : Im) (J : Jm) (R : Rm) : Prop := match ax with
    | [t] => sRI st fun a i r => bif isA n a (3 + t) then (vp_in i (aL a) ∧ ¬ R a i.toNatClampNeg = 0 ∧ K (pc + 1) n lv (.ref (R a i.toNatClampNeg) :: r) I J R) else False
    | _ => False
noncomputable def sf_iastore (M : Mc) (ph isl : Bool) (L : Nat) (xs : Nat → Int32) (rk nend : Nat) (Q : Nat → Qt) (K : Kt) (pc : Nat) (ax : List Nat) (ks : List Int32) (lz : Int64) (n : Nat) (lv : Lv) (st : List Value) (I : Im) (J : Jm) (R : Rm) : Prop := sRII st fun a i x r => bif isA n a 0 then (vp_in i (aL a) ∧ K (pc + 1) n lv r (uI I a i.toNatClampNeg x) J R) else False
noncomputable def sf_bastore (M : Mc) (ph isl : Bool) (L : Nat) (xs : Nat → Int32) (rk nend : Nat) (Q : Nat → Qt) (K : Kt) (pc : Nat) (ax : List Nat) (ks : List Int32) (lz : Int64) (n : Nat) (lv : Lv) (st : List Value) (I : Im) (J : Jm) (R : Rm) : Prop := sRII st fun a i x r => bif isA n a 2 then (vp_in i (aL a) ∧ K (pc + 1) n lv r (uI I a i.toNatClampNeg x.toInt8.toInt32) J R) else False
noncomputable def sf_lastore (M : Mc) (ph isl : Bool) (L : Nat) (xs : Nat → Int32) (rk nend : Nat) (Q : Nat → Qt) (K : Kt) (pc : Nat) (ax : List Nat) (ks : List Int32) (lz : Int64) (n : Nat) (lv : Lv) (st : List Value) (I : Im) (J : Jm) (R : Rm) : Prop := sRIL st fun a i x r => bif isA n a 1 then (vp_in i (aL a) ∧ K (pc + 1) n lv r I (uJ J a i.toNatClampNeg x) R) else False
noncomputable def sf_aastore (M : Mc) (ph isl : Bool) (L : Nat) (xs : Nat → Int32) (rk nend : Nat) (Q : Nat → Qt) (K : Kt) (pc : Nat) (ax : List Nat) (ks : List Int32) (lz : Int64) (n : Nat) (lv : Lv) (st : List Value) (I : Im) (J : Jm) (R : Rm) : Prop := match ax with
    | [t, ci] => sRIR st fun a i v r => bif isA n a (3 + t) && isO n v ci then (vp_in i (aL a) ∧ K (pc + 1) n lv r I J (uR R a i.toNatClampNeg v)) else False
    | _ => False
noncomputable def sf_arraylength (M : Mc) (ph isl : Bool) (L : Nat) (xs : Nat → Int32) (rk nend : Nat) (Q : Nat → Qt) (K : Kt) (pc : Nat) (ax : List Nat) (ks : List Int32) (lz : Int64) (n : Nat) (lv : Lv) (st : List Value) (I : Im) (J : Jm) (R : Rm) : Prop := sR st fun a r => bif isA n a 0 then K (pc + 1) n lv (.int (Int32.ofNat (aL a)) :: r) I J R else (bif isA n a 1 then K (pc + 1) n lv (.int (Int32.ofNat (aL a)) :: r) I J R else (bif isl && Nat.beq a 0 then K (pc + 1) n lv (.int (Int32.ofNat L) :: r) I J R else False))
noncomputable def sf_new (M : Mc) (ph isl : Bool) (L : Nat) (xs : Nat → Int32) (rk nend : Nat) (Q : Nat → Qt) (K : Kt) (pc : Nat) (ax : List Nat) (ks : List Int32) (lz : Int64) (n : Nat) (lv : Lv) (st : List Value) (I : Im) (J : Jm) (R : Rm) : Prop := match ax with
    | [ci] => bif isO (n + 1) (n + 1) ci && (Nat.ble (n + 1) nend && !ph) then K (pc + 3) (n + 1) lv (.ref (n + 1) :: st) (zI I (n + 1)) (zJ J (n + 1)) (zR R (n + 1)) else False
    | _ => False
noncomputable def sf_newarray (M : Mc) (ph isl : Bool) (L : Nat) (xs : Nat → Int32) (rk nend : Nat) (Q : Nat → Qt) (K : Kt) (pc : Nat) (ax : List Nat) (ks : List Int32) (lz : Int64) (n : Nat) (lv : Lv) (st : List Value) (I : Im) (J : Jm) (R : Rm) : Prop := match ax with
    | [t] => sI st fun x r => bif isA (n + 1) (n + 1) t && (Nat.ble (n + 1) nend && !ph) then (x = Int32.ofNat (aL (n + 1)) ∧ K (pc + 2) (n + 1) lv (.ref (n + 1) :: r) (zI I (n + 1)) (zJ J (n + 1)) (zR R (n + 1))) else False
    | _ => False
noncomputable def sf_anewarray (M : Mc) (ph isl : Bool) (L : Nat) (xs : Nat → Int32) (rk nend : Nat) (Q : Nat → Qt) (K : Kt) (pc : Nat) (ax : List Nat) (ks : List Int32) (lz : Int64) (n : Nat) (lv : Lv) (st : List Value) (I : Im) (J : Jm) (R : Rm) : Prop := match ax with
    | [t] => sI st fun x r => bif isA (n + 1) (n + 1) (3 + t) && (Nat.ble (n + 1) nend && !ph) then (x = Int32.ofNat (aL (n + 1)) ∧ K (pc + 3) (n + 1) lv (.ref (n + 1) :: r) (zI I (n + 1)) (zJ J (n + 1)) (zR R (n + 1))) else False
    | _ => False
noncomputable def sf_invokevirtual (M : Mc) (ph isl : Bool) (L : Nat) (xs : Nat → Int32) (rk nend : Nat) (Q : Nat → Qt) (K : Kt) (pc : Nat) (ax : List Nat) (ks : List Int32) (lz : Int64) (n : Nat) (lv : Lv) (st : List Value) (I : Im) (J : Jm) (R : Rm) : Prop := match ax with
    | [kind, mi, na, rk, al, ci, ph1, kr] => bif Nat.beq kind 0 then cal M ph nend K pc n lv st I J R kind mi na rk al ci ph1 kr else False
    | _ => False
noncomputable def sf_invokestatic (M : Mc) (ph isl : Bool) (L : Nat) (xs : Nat → Int32) (rk nend : Nat) (Q : Nat → Qt) (K : Kt) (pc : Nat) (ax : List Nat) (ks : List Int32) (lz : Int64) (n : Nat) (lv : Lv) (st : List Value) (I : Im) (J : Jm) (R : Rm) : Prop := match ax with
    | [kind, mi, na, rk, al, ci, ph1, kr] => bif Nat.beq kind 1 || Nat.beq kind 11 then cal M ph nend K pc n lv st I J R kind mi na rk al ci ph1 kr else False
    | [kind, _] => match kind with
      | 4 => sCpy st fun a0 sp a1 dp m r => bif Nat.ble (cSum r) 8 && (isA n a0 0 && isA n a1 0) then ((¬ sp < 0 ∧ ¬ dp < 0 ∧ ¬ m < 0 ∧ sp.toNatClampNeg + m.toNatClampNeg ≤ aL a0 ∧ dp.toNatClampNeg + m.toNatClampNeg ≤ aL a1) ∧ K (pc + 3) n lv r (cI I a0 a1 sp.toNatClampNeg dp.toNatClampNeg m.toNatClampNeg) J R) else False
      | 5 => sCpy st fun a0 sp a1 dp m r => bif Nat.ble (cSum r) 8 && (isA n a0 1 && isA n a1 1) then ((¬ sp < 0 ∧ ¬ dp < 0 ∧ ¬ m < 0 ∧ sp.toNatClampNeg + m.toNatClampNeg ≤ aL a0 ∧ dp.toNatClampNeg + m.toNatClampNeg ≤ aL a1) ∧ K (pc + 3) n lv r I (cJ J a0 a1 sp.toNatClampNeg dp.toNatClampNeg m.toNatClampNeg) R) else False
      | 6 => sII st fun x y r => bif Nat.ble (cSum r) 8 && Nat.ble n nend then K (pc + 3) n lv (.int (if x < y then y else x) :: r) I J R else False
      | 7 => sII st fun x y r => bif Nat.ble (cSum r) 8 && Nat.ble n nend then K (pc + 3) n lv (.int (if y < x then y else x) :: r) I J R else False
      | 8 => sL st fun x r => bif Nat.ble (cSum r) 8 && Nat.ble n nend then K (pc + 3) n lv (.long (if 0 < x then x else -x) :: r) I J R else False
      | _ => False
    | _ => False
noncomputable def sf_invokespecial (M : Mc) (ph isl : Bool) (L : Nat) (xs : Nat → Int32) (rk nend : Nat) (Q : Nat → Qt) (K : Kt) (pc : Nat) (ax : List Nat) (ks : List Int32) (lz : Int64) (n : Nat) (lv : Lv) (st : List Value) (I : Im) (J : Jm) (R : Rm) : Prop := match ax with
    | [kind, mi, na, rk, al, ci, ph1, kr] => bif (Nat.beq kind 2 || Nat.beq kind 12) && Nat.beq rk 0 then cal M ph nend K pc n lv st I J R kind mi na rk al ci ph1 kr else False
    | [3] => sR st fun _ r => bif Nat.ble (cSum r) 8 then K (pc + 3) n lv r I J R else False
    | _ => False
noncomputable def sf_return (M : Mc) (ph isl : Bool) (L : Nat) (xs : Nat → Int32) (rk nend : Nat) (Q : Nat → Qt) (K : Kt) (pc : Nat) (ax : List Nat) (ks : List Int32) (lz : Int64) (n : Nat) (lv : Lv) (st : List Value) (I : Im) (J : Jm) (R : Rm) : Prop := bif Nat.beq rk 0 then (match st with
    | [] => Q n 0 0 I J R
    | _ => False) else False
noncomputable def sf_ireturn (M : Mc) (ph isl : Bool) (L : Nat) (xs : Nat → Int32) (rk nend : Nat) (Q : Nat → Qt) (K : Kt) (pc : Nat) (ax : List Nat) (ks : List Int32) (lz : Int64) (n : Nat) (lv : Lv) (st : List Value) (I : Im) (J : Jm) (R : Rm) : Prop := bif Nat.beq rk 1 then (match st with
    | [.int x] => Q n x 0 I J R
    | _ => False) else (bif Nat.beq rk 2 then (match st with
    | [.int x] => (x = 0 ∨ x = 1) ∧ Q n x 0 I J R
    | _ => False) else False)
noncomputable def sf_lreturn (M : Mc) (ph isl : Bool) (L : Nat) (xs : Nat → Int32) (rk nend : Nat) (Q : Nat → Qt) (K : Kt) (pc : Nat) (ax : List Nat) (ks : List Int32) (lz : Int64) (n : Nat) (lv : Lv) (st : List Value) (I : Im) (J : Jm) (R : Rm) : Prop := bif Nat.beq rk 3 then (match st with
    | [.long x] => Q n 0 x I J R
    | _ => False) else False
noncomputable def sf_no (M : Mc) (ph isl : Bool) (L : Nat) (xs : Nat → Int32) (rk nend : Nat) (Q : Nat → Qt) (K : Kt) (pc : Nat) (ax : List Nat) (ks : List Int32) (lz : Int64) (n : Nat) (lv : Lv) (st : List Value) (I : Im) (J : Jm) (R : Rm) : Prop := False
noncomputable def stF : Jvm.ClassFile.Instr → Mc → Bool → Bool → Nat → (Nat → Int32) → Nat → Nat → (Nat → Qt) → Kt → Nat → List Nat → List Int32 → Int64 → Nat → Lv → List Value → Im → Jm → Rm → Prop
  | .iconst _ => sf_iconst
  | .bipush _ => sf_bipush
  | .sipush _ => sf_sipush
  | .ldc _ => sf_ldc
  | .ldc_w _ => sf_ldc_w
  | .ldc2_w _ => sf_ldc2_w
  | .lconst _ => sf_lconst
  | .iload_n k => sf_iload_n k
  | .iload k => sf_iload k
  | .lload_n k => sf_lload_n k
  | .lload k => sf_lload k
  | .aload_n k => sf_aload_n k
  | .aload k => sf_aload k
  | .istore_n k => sf_istore_n k
  | .istore k => sf_istore k
  | .lstore_n k => sf_lstore_n k
  | .lstore k => sf_lstore k
  | .astore_n k => sf_astore_n k
  | .astore k => sf_astore k
  | .iinc k _ => sf_iinc k
  | .iadd => sf_iadd
  | .isub => sf_isub
  | .imul => sf_imul
  | .iand => sf_iand
  | .ior => sf_ior
  | .ixor => sf_ixor
  | .idiv => sf_idiv
  | .irem => sf_irem
  | .ishl => sf_ishl
  | .ishr => sf_ishr
  | .iushr => sf_iushr
  | .ladd => sf_ladd
  | .lsub => sf_lsub
  | .lmul => sf_lmul
  | .land => sf_land
  | .lor => sf_lor
  | .ldiv => sf_ldiv
  | .lrem => sf_lrem
  | .lneg => sf_lneg
  | .lshl => sf_lshl
  | .i2l => sf_i2l
  | .l2i => sf_l2i
  | .i2b => sf_i2b
  | .i2s => sf_i2s
  | .lcmp => sf_lcmp
  | .dup => sf_dup
  | .dup2 => sf_dup2
  | .pop => sf_pop
  | .pop2 => sf_pop2
  | .goto _ => sf_goto
  | .ifCond c _ => sf_ifCond c
  | .if_icmp c _ => sf_if_icmp c
  | .tableswitch _ _ _ _ => sf_tableswitch
  | .lookupswitch _ _ => sf_lookupswitch
  | .getfield _ => sf_getfield
  | .putfield _ => sf_putfield
  | .iaload => sf_iaload
  | .baload => sf_baload
  | .laload => sf_laload
  | .aaload => sf_aaload
  | .iastore => sf_iastore
  | .bastore => sf_bastore
  | .lastore => sf_lastore
  | .aastore => sf_aastore
  | .arraylength => sf_arraylength
  | .new _ => sf_new
  | .newarray _ => sf_newarray
  | .anewarray _ => sf_anewarray
  | .invokevirtual _ => sf_invokevirtual
  | .invokestatic _ => sf_invokestatic
  | .invokespecial _ => sf_invokespecial
  | .return_ => sf_return
  | .ireturn => sf_ireturn
  | .lreturn => sf_lreturn
  | _ => sf_no
theorem stF_eq (i : Jvm.ClassFile.Instr) (M : Mc) (ph isl : Bool) (L : Nat) (xs : Nat → Int32) (rk nend : Nat) (Q : Nat → Qt) (K : Kt) (pc : Nat) (ax : List Nat) (ks : List Int32) (lz : Int64) (n : Nat) (lv : Lv) (st : List Value) (I : Im) (J : Jm) (R : Rm) : stF i M ph isl L xs rk nend Q K pc ax ks lz n lv st I J R = stI M ph isl L xs rk nend Q K pc ax ks lz n lv st I J R i := by
  cases i
  case istore_n k =>
    show (sI st fun x r => frc (lpt lv k.val (.int x)) fun l9 => K (pc + 1) n l9 r I J R) = (sI st fun x r => K (pc + 1) n (lpt lv k.val (.int x)) r I J R)
    exact congrArg (sI st) (funext fun x => funext fun r => frc_eq _ _)
  case istore k =>
    show (sI st fun x r => frc (lpt lv k (.int x)) fun l9 => K (pc + 2) n l9 r I J R) = (sI st fun x r => K (pc + 2) n (lpt lv k (.int x)) r I J R)
    exact congrArg (sI st) (funext fun x => funext fun r => frc_eq _ _)
  case lstore_n k =>
    show (sL st fun x r => frc (lpt2 lv k.val (.long x)) fun l9 => K (pc + 1) n l9 r I J R) = (sL st fun x r => K (pc + 1) n (lpt2 lv k.val (.long x)) r I J R)
    exact congrArg (sL st) (funext fun x => funext fun r => frc_eq _ _)
  case lstore k =>
    show (sL st fun x r => frc (lpt2 lv k (.long x)) fun l9 => K (pc + 2) n l9 r I J R) = (sL st fun x r => K (pc + 2) n (lpt2 lv k (.long x)) r I J R)
    exact congrArg (sL st) (funext fun x => funext fun r => frc_eq _ _)
  case astore_n k =>
    show (sR st fun x r => frc (lpt lv k.val (.ref x)) fun l9 => K (pc + 1) n l9 r I J R) = (sR st fun x r => K (pc + 1) n (lpt lv k.val (.ref x)) r I J R)
    exact congrArg (sR st) (funext fun x => funext fun r => frc_eq _ _)
  case astore k =>
    show (sR st fun x r => frc (lpt lv k (.ref x)) fun l9 => K (pc + 2) n l9 r I J R) = (sR st fun x r => K (pc + 2) n (lpt lv k (.ref x)) r I J R)
    exact congrArg (sR st) (funext fun x => funext fun r => frc_eq _ _)
  case iinc k z =>
    show (lI lv k fun x => frc (lpt lv k (.int (x + kz ks))) fun l9 => K (pc + 3) n l9 st I J R) = (lI lv k fun x => K (pc + 3) n (lpt lv k (.int (x + kz ks))) st I J R)
    exact congrArg (lI lv k) (funext fun x => frc_eq _ _)
  all_goals rfl
theorem stF_i {i : Jvm.ClassFile.Instr} {M : Mc} {ph isl : Bool} {L : Nat} {xs : Nat → Int32} {rk nend : Nat} {Q : Nat → Qt} {K : Kt} {pc : Nat} {ax : List Nat} {ks : List Int32} {lz : Int64} {n : Nat} {lv : Lv} {st : List Value} {I : Im} {J : Jm} {R : Rm} (h : stF i M ph isl L xs rk nend Q K pc ax ks lz n lv st I J R) : stI M ph isl L xs rk nend Q K pc ax ks lz n lv st I J R i := by rw [← stF_eq]; exact h
/-- many steps at once, up to the places where it is to stop -/
noncomputable def runS (M : Mc) (ph isl : Bool) (L : Nat) (xs : Nat → Int32) (rk nend : Nat) (Q : Nat → Qt) (P : Kt) (code : List En) (stops : List (Nat × List Nat)) : Nat → List En → Nat → Lv → List Value → Im → Jm → Rm → Prop
  | 0, _ => fun _ _ _ _ _ _ => False
  | _ + 1, [] => fun _ _ _ _ _ _ => False
  | k + 1, e :: rest => fun n lv st I J R => stF e.2.1 M ph isl L xs rk nend Q (fun pc' n' lv' st' I' J' R' => match stp stops pc' with
      | some ks => P pc' n' (pk ks lv') st' I' J' R'
      | none => runS M ph isl L xs rk nend Q P code stops k (match rest with
        | [] => drp code pc'
        | e2 :: r2 => bif Nat.beq e2.1 pc' then e2 :: r2 else drp code pc') n' lv' st' I' J' R') e.1 e.2.2.2.1 e.2.2.2.2.1 e.2.2.2.2.2 n lv st I J R
