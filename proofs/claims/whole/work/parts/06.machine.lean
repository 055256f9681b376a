/-! A small machine of whole numbers over the claim's own bytecode: one step is a function; what a method answers is the limit over all numbers of steps. Its soundness over the kit's W stands in 07. -/
abbrev AV : Type := Int ⊕ (Int ⊕ Nat)
abbrev vI (x : Int) : AV := Sum.inl x
abbrev vL (x : Int) : AV := Sum.inr (Sum.inl x)
abbrev vR (k : Nat) : AV := Sum.inr (Sum.inr k)
abbrev MM : Type := Nat → Int → Int
abbrev RES : Type := Option AV × MM
abbrev CFG : Type := Nat × List AV × List AV × MM
abbrev STP : Type := Option (RES ⊕ CFG)
def mset (I : MM) (a : Nat) (i v : Int) : MM := fun b j => if b = a ∧ j = i then v else I b j
def mcpy (I : MM) (a : Nat) (sp : Int) (b : Nat) (dp n : Int) : MM := fun c j => if c = b ∧ dp ≤ j ∧ j < dp + n then I a (sp + (j - dp)) else I c j
-- the machine's arithmetic
def iadd (x y : Int) : Int := (Int32.ofInt x + Int32.ofInt y).toInt
def isub (x y : Int) : Int := (Int32.ofInt x - Int32.ofInt y).toInt
def imul (x y : Int) : Int := (Int32.ofInt x * Int32.ofInt y).toInt
def idiv (x y : Int) : Int := (Int32.ofInt x / Int32.ofInt y).toInt
def irem (x y : Int) : Int := (Int32.ofInt x - Int32.ofInt x / Int32.ofInt y * Int32.ofInt y).toInt
def ineg (x : Int) : Int := (-Int32.ofInt x).toInt
def iand (x y : Int) : Int := (Int32.ofInt x &&& Int32.ofInt y).toInt
def ior (x y : Int) : Int := (Int32.ofInt x ||| Int32.ofInt y).toInt
def ixor (x y : Int) : Int := (Int32.ofInt x ^^^ Int32.ofInt y).toInt
def ishl (x y : Int) : Int := (Int32.ofInt x <<< (Int32.ofInt y &&& 31)).toInt
def ishr (x y : Int) : Int := (Int32.ofInt x >>> (Int32.ofInt y &&& 31)).toInt
def ladd (x y : Int) : Int := (Int64.ofInt x + Int64.ofInt y).toInt
def lsub (x y : Int) : Int := (Int64.ofInt x - Int64.ofInt y).toInt
def lmul (x y : Int) : Int := (Int64.ofInt x * Int64.ofInt y).toInt
def ldiv (x y : Int) : Int := (Int64.ofInt x / Int64.ofInt y).toInt
def lrem (x y : Int) : Int := (Int64.ofInt x - Int64.ofInt x / Int64.ofInt y * Int64.ofInt y).toInt
def lneg (x : Int) : Int := (-Int64.ofInt x).toInt
def land (x y : Int) : Int := (Int64.ofInt x &&& Int64.ofInt y).toInt
def lor (x y : Int) : Int := (Int64.ofInt x ||| Int64.ofInt y).toInt
def lxor (x y : Int) : Int := (Int64.ofInt x ^^^ Int64.ofInt y).toInt
def lshl (x y : Int) : Int := (Int64.ofInt x <<< ((Int32.ofInt y).toInt64 &&& 63)).toInt
def lshr (x y : Int) : Int := (Int64.ofInt x >>> ((Int32.ofInt y).toInt64 &&& 63)).toInt
def lushr (x y : Int) : Int := ((Int64.ofInt x).toUInt64 >>> ((Int32.ofInt y).toInt64.toUInt64 &&& Int64.toUInt64 63)).toInt64.toInt
def l2i (x : Int) : Int := (Int64.ofInt x).toInt32.toInt
def i2c (x : Int) : Int := ((Int32.ofInt x).toUInt32 % 65536).toInt32.toInt
def lcmp (x y : Int) : Int := if x > y then 1 else if x = y then 0 else -1
-- locals: what isn't set is vR 0; a value of two slots has vR 0 behind it
def kill (v : AV) : AV := match v with | .inr (.inl _) => vR 0 | v => v
def lset1 (L : List AV) (i : Nat) (v : AV) : List AV := match i with
  | 0 => L.set 0 v
  | j + 1 => (L.modify j kill).set (j + 1) v
def lset2 (L : List AV) (i : Nat) (v : AV) : List AV := (lset1 L i v).set (i + 1) (vR 0)
def lcc (pc : Nat) (L S : List AV) (I : MM) : STP := some (.inr (pc, L, S, I))
def tg (pc : Nat) (off : Int) : Nat := ((pc : Int) + off).toNat
def jmp (c : Bool) (pc n : Nat) (off : Int) (L S : List AV) (I : MM) : STP :=
  if 0 ≤ (pc : Int) + off then lcc (if c then tg pc off else pc + n) L S I else none
def oI (k : Nat) (L S : List AV) (I : MM) (f : Int → Int → Int) (ok : Int → Bool) : STP := match S with
  | .inl y :: .inl x :: S' => if ok y then lcc k L (vI (f x y) :: S') I else none
  | _ => none
def oL (k : Nat) (L S : List AV) (I : MM) (f : Int → Int → Int) (ok : Int → Bool) : STP := match S with
  | .inr (.inl y) :: .inr (.inl x) :: S' => if ok y then lcc k L (vL (f x y) :: S') I else none
  | _ => none
def oH (k : Nat) (L S : List AV) (I : MM) (f : Int → Int → Int) : STP := match S with
  | .inl y :: .inr (.inl x) :: S' => lcc k L (vL (f x y) :: S') I
  | _ => none
def oU (k : Nat) (L S : List AV) (I : MM) (f : Int → Int) : STP := match S with
  | .inl x :: S' => lcc k L (vI (f x) :: S') I
  | _ => none
def oV (k : Nat) (L S : List AV) (I : MM) (f : Int → Int) : STP := match S with
  | .inr (.inl x) :: S' => lcc k L (vL (f x) :: S') I
  | _ => none
def ldV (k : Nat) (L S : List AV) (I : MM) (t i : Nat) : STP := match t, L[i]? with
  | 0, some (.inl x) => lcc k L (vI x :: S) I
  | 1, some (.inr (.inl x)) => lcc k L (vL x :: S) I
  | 2, some (.inr (.inr (r + 1))) => if r = 98 then none else lcc k L (vR (r + 1) :: S) I
  | _, _ => none
def stV (k : Nat) (L S : List AV) (I : MM) (t i : Nat) : STP := match t, S with
  | 0, .inl x :: S' => if i < L.length then lcc k (lset1 L i (vI x)) S' I else none
  | 1, .inr (.inl x) :: S' => if i + 1 < L.length then lcc k (lset2 L i (vL x)) S' I else none
  | 2, .inr (.inr (r + 1)) :: S' => if i < L.length ∧ r ≠ 98 then lcc k (lset1 L i (vR (r + 1))) S' I else none
  | _, _ => none
def cmpB (c : ClassFile.Cond) (x y : Int) : Bool := match c with
  | .eq => x == y
  | .ne => x != y
  | .lt => decide (x < y)
  | .ge => decide (y ≤ x)
  | .gt => decide (y < x)
  | .le => decide (x ≤ y)
def ifV (c : ClassFile.Cond) (pc : Nat) (off : Int) (L S : List AV) (I : MM) : STP := match S with
  | .inl x :: S' => jmp (cmpB c x 0) pc 3 off L S' I
  | _ => none
def ifC (c : ClassFile.Cond) (pc : Nat) (off : Int) (L S : List AV) (I : MM) : STP := match S with
  | .inl y :: .inl x :: S' => jmp (cmpB c x y) pc 3 off L S' I
  | _ => none
/-- the class of an object's cell -/
def clsOf (a : Nat) : Nat := match cT a with
  | (0, c) => c
  | (5, _) => 12
  | _ => 99
/-- which world's cells a method works on -/
def wid (z : Nat) : Nat := if mC z = 18 then 2 else if mC z = 11 then 1 else 0
def WdN (w : Nat) : List Nat := match w with
  | 2 => WL
  | 1 => WM
  | _ => WX
abbrev Wd (z : Nat) : List Nat := WdN (wid z)
def getV (z pc i : Nat) (W : List Nat) (L S : List AV) (I : MM) : STP := match S with
  | .inr (.inr a) :: S' =>
    if mC z = 12 then
      (if (cT a).1 = 5 then (if i = 9 then lcc (pc + 3) L (vR (a + 4) :: S') I else if i = 15 then lcc (pc + 3) L (vI 0 :: S') I else none) else none)
    else match fres (mC z) i with
    | some (c, s) => if (cT a).1 = 0 ∧ (cT a).2 = c ∧ W.contains a = true then (match fk c s with
        | 0 => lcc (pc + 3) L (vI (I a s) :: S') I
        | 1 => lcc (pc + 3) L (vL (I a s) :: S') I
        | 2 => lcc (pc + 3) L (vI (I a s) :: S') I
        | 3 => lcc (pc + 3) L (vR (sh a s) :: S') I
        | _ => none) else none
    | none => none
  | _ => none
def putV (z pc i : Nat) (W : List Nat) (L S : List AV) (I : MM) : STP := match S with
  | v :: .inr (.inr a) :: S' => match fres (mC z) i with
    | some (c, s) => if (cT a).1 = 0 ∧ (cT a).2 = c ∧ W.contains a = true then (match fk c s, v with
        | 0, .inl x => lcc (pc + 3) L S' (mset I a s x)
        | 1, .inr (.inl x) => lcc (pc + 3) L S' (mset I a s x)
        | 2, .inl x => if x = 0 ∨ x = 1 then lcc (pc + 3) L S' (mset I a s x) else none
        | _, _ => none) else none
    | none => none
  | _ => none
def aldI (pc : Nat) (W : List Nat) (L S : List AV) (I : MM) : STP := match S with
  | .inl i :: .inr (.inr a) :: S' => match cT a with
    | (1, n) => if 0 ≤ i ∧ i < n ∧ W.contains a = true then lcc (pc + 1) L (vI (I a i) :: S') I else none
    | (4, r) => if 0 ≤ i ∧ i < (roT.getD r []).length then lcc (pc + 1) L (vI ((roT.getD r []).getD i.toNat 0) :: S') I else none
    | (8, _) => if 0 ≤ i ∧ i < I a (-1) ∧ W.length = 88 then lcc (pc + 1) L (vI (I a i) :: S') I else none
    | _ => none
  | _ => none
def aldB (pc : Nat) (W : List Nat) (L S : List AV) (I : MM) : STP := match S with
  | .inl i :: .inr (.inr a) :: S' => match cT a with
    | (3, n) => if 0 ≤ i ∧ i < n ∧ W.contains a = true then lcc (pc + 1) L (vI (I a i) :: S') I else none
    | (6, r) => if 0 ≤ i ∧ i < (strT.getD r []).length then lcc (pc + 1) L (vI ((strT.getD r []).getD i.toNat 0) :: S') I else none
    | _ => none
  | _ => none
def aldL (pc : Nat) (W : List Nat) (L S : List AV) (I : MM) : STP := match S with
  | .inl i :: .inr (.inr a) :: S' => match cT a with
    | (2, n) => if 0 ≤ i ∧ i < n ∧ W.contains a = true then lcc (pc + 1) L (vL (I a i) :: S') I else none
    | _ => none
  | _ => none
def astI (pc : Nat) (W : List Nat) (L S : List AV) (I : MM) : STP := match S with
  | .inl x :: .inl i :: .inr (.inr a) :: S' => match cT a with
    | (1, n) => if 0 ≤ i ∧ i < n ∧ W.contains a = true then lcc (pc + 1) L S' (mset I a i x) else none
    | _ => none
  | _ => none
def astB (pc : Nat) (W : List Nat) (L S : List AV) (I : MM) : STP := match S with
  | .inl x :: .inl i :: .inr (.inr a) :: S' => match cT a with
    | (3, n) => if 0 ≤ i ∧ i < n ∧ W.contains a = true ∧ (x = 0 ∨ x = 1) then lcc (pc + 1) L S' (mset I a i x) else none
    | _ => none
  | _ => none
def astL (pc : Nat) (W : List Nat) (L S : List AV) (I : MM) : STP := match S with
  | .inr (.inl x) :: .inl i :: .inr (.inr a) :: S' => match cT a with
    | (2, n) => if 0 ≤ i ∧ i < n ∧ W.contains a = true then lcc (pc + 1) L S' (mset I a i x) else none
    | _ => none
  | _ => none
def alen (a : Nat) (W : List Nat) (I : MM) : Option Int := match cT a with
  | (1, n) => if W.contains a = true then some n else none
  | (2, n) => if W.contains a = true then some n else none
  | (3, n) => if W.contains a = true then some n else none
  | (4, r) => some (roT.getD r []).length
  | (6, r) => some (strT.getD r []).length
  | (8, _) => if W.length = 88 then some (I a (-1)) else none
  | _ => none
def pushR (r : Option AV) (S : List AV) : List AV := match r with | some v => v :: S | none => S
def catA (v : AV) : Nat := match v with | .inr (.inl _) => 2 | _ => 1
def recvOK (z y : Nat) (a : Nat) : Bool := clsOf a == mC y && (mC y == 12 || (Wd z).contains a)
def callOK (z y : Nat) (st : Bool) (S : List AV) : Bool := mS y == st && (S.take (mN y)).length == mN y && decide (((S.drop (mN y)).map catA).sum ≤ 8) && (mS y || (match (S.take (mN y)).reverse with | .inr (.inr a) :: _ => recvOK z y a | _ => false)) && (wid z == wid y || wid z == 2)
def invV (cal : Nat → List AV → MM → Option RES) (z pc i : Nat) (st : Bool) (L S : List AV) (I : MM) : STP :=
  match mres (mC z) i with
  | some y =>
    if y = 9999 then (if st = true then (match S with
      | .inl n :: .inl dp :: .inr (.inr b) :: .inl sp :: .inr (.inr a) :: S' => if (cT a).1 = 1 ∧ (cT b).1 = 1 ∧ (Wd z).contains a = true ∧ (Wd z).contains b = true ∧ S'.length ≤ 3 ∧ 0 ≤ sp ∧ 0 ≤ dp ∧ 0 ≤ n ∧ sp + n ≤ (cT a).2 ∧ dp + n ≤ (cT b).2 then lcc (pc + 3) L S' (mcpy I a sp b dp n) else none
      | _ => none) else none)
    else if callOK z y st S = true then
      (match cal y (S.take (mN y)).reverse I with
      | some (r, I') => lcc (pc + 3) L (pushR r (S.drop (mN y))) I'
      | none => none)
    else none
  | none => none
def retOK (t : Option FieldType) (v : Option AV) : Bool := match t, v with
  | some .int, some (.inl _) => true
  | some .boolean, some (.inl x) => x == 0 || x == 1
  | some .byte, some (.inl x) => x == 0 || x == 1
  | some .char, some (.inl x) => decide (0 ≤ x) && decide (x < 65536)
  | some .long, some (.inr (.inl _)) => true
  | some (.object _), some (.inr (.inr a)) => a != 99
  | none, none => true
  | _, _ => false
def retV (z : Nat) (k : Nat) (L S : List AV) (I : MM) : STP := match k, S with
  | 0, [.inl x] => if retOK (mR z) (some (vI x)) then some (.inl (some (vI x), I)) else none
  | 1, [.inr (.inl x)] => if retOK (mR z) (some (vL x)) then some (.inl (some (vL x), I)) else none
  | 2, [.inr (.inr a)] => if retOK (mR z) (some (vR a)) then some (.inl (some (vR a), I)) else none
  | 3, [] => if retOK (mR z) none then some (.inl (none, I)) else none
  | _, _ => none
def tsw (pc : Nat) (d lo hi : Int) (offs : Array Int) (x : Int) : Int := if lo ≤ x ∧ x ≤ hi then offs.getD (x - lo).toNat d else d
def lsw (d : Int) (ps : List (Int × Int)) (x : Int) : Int := match ps with
  | [] => d
  | q :: r => if q.1 = x then q.2 else lsw d r x
def goV (pc : Nat) (off : Int) (L S : List AV) (I : MM) : STP := if 0 ≤ (pc : Int) + off then lcc (tg pc off) L S I else none
def ok8 (k : Int) : Bool := decide (-128 ≤ k) && decide (k ≤ 127)
def ok16 (k : Int) : Bool := decide (-32768 ≤ k) && decide (k ≤ 32767)
def lenI (i : Instr) : Nat := match i with
  | .bipush _ => 2
  | .sipush _ => 3
  | .ldc _ => 2
  | .ldc2_w _ => 3
  | .iload _ => 2
  | .lload _ => 2
  | .aload _ => 2
  | .istore _ => 2
  | .lstore _ => 2
  | .astore _ => 2
  | .iinc _ _ => 3
  | .getfield _ => 3
  | .putfield _ => 3
  | .getstatic _ => 3
  | .goto _ => 3
  | .ifCond _ _ => 3
  | .if_icmp _ _ => 3
  | .invokevirtual _ => 3
  | .invokestatic _ => 3
  | _ => 1
def nz (y : Int) : Bool := y != 0
def yes (_ : Int) : Bool := true
def ldk (z i pc : Nat) (L S : List AV) (I : MM) : STP := match sres (mC z) i with
  | some a => lcc (pc + 2) L (vR a :: S) I
  | none => match kres (mC z) i with
    | some (false, v) => lcc (pc + 2) L (vI v :: S) I
    | _ => none
def ldk2 (z i pc : Nat) (L S : List AV) (I : MM) : STP := match kres (mC z) i with
  | some (true, v) => lcc (pc + 3) L (vL v :: S) I
  | _ => none
def gstV (z i pc : Nat) (L S : List AV) (I : MM) : STP :=
  if mC z = 0 ∧ i = 59 then lcc (pc + 3) L (vR 97 :: S) I
  else if mC z = 0 ∧ i = 70 then lcc (pc + 3) L (vR 98 :: S) I
  else if mC z = 12 ∧ i = 38 then lcc (pc + 3) L (vI 1 :: S) I
  else if mC z = 12 ∧ i = 1053 then lcc (pc + 3) L (vR 99 :: S) I
  else none
def stkV (k : Nat) (pc : Nat) (L S : List AV) (I : MM) : STP := match k, S with
  | 0, v :: S' => if catA v = 1 then lcc (pc + 1) L (v :: v :: S') I else none
  | 1, .inl x :: S' => lcc (pc + 1) L S' I
  | 2, .inl x :: .inr (.inr a) :: S' => lcc (pc + 1) L (vI x :: vR a :: vI x :: vR a :: S') I
  | 2, .inr (.inl x) :: S' => lcc (pc + 1) L (vL x :: vL x :: S') I
  | _, _ => none
def stepI (cal : Nat → List AV → MM → Option RES) (z pc : Nat) (i : Instr) (L S : List AV) (I : MM) : STP := match i with
  | .iconst k => if ok8 k then lcc (pc + 1) L (vI k :: S) I else none
  | .bipush k => if ok8 k then lcc (pc + 2) L (vI k :: S) I else none
  | .sipush k => if ok16 k then lcc (pc + 3) L (vI k :: S) I else none
  | .lconst k => lcc (pc + 1) L (vL k.val :: S) I
  | .ldc k => ldk z k pc L S I
  | .ldc2_w k => ldk2 z k pc L S I
  | .iload k => ldV (pc + 2) L S I 0 k
  | .iload_n k => ldV (pc + 1) L S I 0 k.val
  | .lload k => ldV (pc + 2) L S I 1 k
  | .lload_n k => ldV (pc + 1) L S I 1 k.val
  | .aload k => ldV (pc + 2) L S I 2 k
  | .aload_n k => ldV (pc + 1) L S I 2 k.val
  | .istore k => stV (pc + 2) L S I 0 k
  | .istore_n k => stV (pc + 1) L S I 0 k.val
  | .lstore k => stV (pc + 2) L S I 1 k
  | .lstore_n k => stV (pc + 1) L S I 1 k.val
  | .astore k => stV (pc + 2) L S I 2 k
  | .astore_n k => stV (pc + 1) L S I 2 k.val
  | .iinc k d => match L[k]? with
    | some (.inl x) => if k < L.length ∧ ok16 d = true then lcc (pc + 3) (lset1 L k (vI (iadd x d))) S I else none
    | _ => none
  | .iadd => oI (pc + 1) L S I iadd yes
  | .isub => oI (pc + 1) L S I isub yes
  | .imul => oI (pc + 1) L S I imul yes
  | .idiv => oI (pc + 1) L S I idiv nz
  | .irem => oI (pc + 1) L S I irem nz
  | .iand => oI (pc + 1) L S I iand yes
  | .ior => oI (pc + 1) L S I ior yes
  | .ixor => oI (pc + 1) L S I ixor yes
  | .ishl => oI (pc + 1) L S I ishl yes
  | .ishr => oI (pc + 1) L S I ishr yes
  | .ineg => oU (pc + 1) L S I ineg
  | .i2c => oU (pc + 1) L S I i2c
  | .ladd => oL (pc + 1) L S I ladd yes
  | .lsub => oL (pc + 1) L S I lsub yes
  | .lmul => oL (pc + 1) L S I lmul yes
  | .ldiv => oL (pc + 1) L S I ldiv nz
  | .lrem => oL (pc + 1) L S I lrem nz
  | .land => oL (pc + 1) L S I land yes
  | .lor => oL (pc + 1) L S I lor yes
  | .lxor => oL (pc + 1) L S I lxor yes
  | .lneg => oV (pc + 1) L S I lneg
  | .lshl => oH (pc + 1) L S I lshl
  | .lshr => oH (pc + 1) L S I lshr
  | .lushr => oH (pc + 1) L S I lushr
  | .lcmp => match S with
    | .inr (.inl y) :: .inr (.inl x) :: S' => lcc (pc + 1) L (vI (lcmp x y) :: S') I
    | _ => none
  | .i2l => match S with
    | .inl x :: S' => lcc (pc + 1) L (vL x :: S') I
    | _ => none
  | .l2i => match S with
    | .inr (.inl x) :: S' => lcc (pc + 1) L (vI (l2i x) :: S') I
    | _ => none
  | .dup => stkV 0 pc L S I
  | .pop => stkV 1 pc L S I
  | .dup2 => stkV 2 pc L S I
  | .iaload => aldI pc (Wd z) L S I
  | .baload => aldB pc (Wd z) L S I
  | .laload => aldL pc (Wd z) L S I
  | .iastore => astI pc (Wd z) L S I
  | .bastore => astB pc (Wd z) L S I
  | .lastore => astL pc (Wd z) L S I
  | .arraylength => match S with
    | .inr (.inr a) :: S' => (match alen a (Wd z) I with
      | some n => lcc (pc + 1) L (vI n :: S') I
      | none => none)
    | _ => none
  | .getfield k => getV z pc k (Wd z) L S I
  | .putfield k => putV z pc k (Wd z) L S I
  | .getstatic k => gstV z k pc L S I
  | .goto off => goV pc off L S I
  | .ifCond c off => ifV c pc off L S I
  | .if_icmp c off => ifC c pc off L S I
  | .tableswitch d lo hi offs => match S with
    | .inl x :: S' => if (hi - lo).toNat < offs.size then goV pc (tsw pc d lo hi offs x) L S' I else none
    | _ => none
  | .lookupswitch d ps => match S with
    | .inl x :: S' => if (ps.toList.zip (ps.toList.drop 1)).all (fun (a, next) => a.1 < next.1) = true then goV pc (lsw d ps.toList x) L S' I else none
    | _ => none
  | .invokevirtual k => invV cal z pc k false L S I
  | .invokestatic k => invV cal z pc k true L S I
  | .ireturn => retV z 0 L S I
  | .lreturn => retV z 1 L S I
  | .areturn => retV z 2 L S I
  | .return_ => retV z 3 L S I
  | _ => none
def isSw (i : Instr) : Bool := match i with
  | .tableswitch _ _ _ _ => true
  | .lookupswitch _ _ => true
  | _ => false
def stepD (cal : Nat → List AV → MM → Option RES) (z pc : Nat) (L S : List AV) (I : MM) : STP := match ins z pc with
  | some (i, n) => if (isSw i || n == lenI i) = true then stepI cal z pc i L S I else none
  | none => none
/-- n steps -/
def exec (cal : Nat → List AV → MM → Option RES) (z : Nat) : Nat → CFG → Option RES
  | 0, _ => none
  | n + 1, c => match stepD cal z c.1 c.2.1 c.2.2.1 c.2.2.2 with
    | none => none
    | some (.inl r) => some r
    | some (.inr c') => exec cal z n c'
theorem exec_mono {cal : Nat → List AV → MM → Option RES} {z : Nat} {r : RES} : ∀ (n k : Nat) (c : CFG), exec cal z n c = some r → exec cal z (n + k) c = some r
  | 0, _, _, h => by simp [exec] at h
  | n + 1, k, c, h => by
    rw [Nat.add_right_comm]
    rw [exec] at h ⊢
    split at h
    · cases h
    · exact h
    · exact exec_mono n k _ h
/-- the limit over all numbers of steps -/
noncomputable def runC (cal : Nat → List AV → MM → Option RES) (z : Nat) (c : CFG) : Option RES :=
  @dite _ (∃ r n, exec cal z n c = some r) (Classical.propDecidable _) (fun h => some (Classical.choose h)) (fun _ => none)
theorem runC_iff {cal : Nat → List AV → MM → Option RES} {z : Nat} {c : CFG} {r : RES} : runC cal z c = some r ↔ ∃ n, exec cal z n c = some r := by
  unfold runC
  by_cases h : ∃ r n, exec cal z n c = some r
  · rw [dif_pos h]
    obtain ⟨n, hn⟩ := Classical.choose_spec h
    constructor
    · intro e
      cases e
      exact ⟨n, hn⟩
    · rintro ⟨k, hk⟩
      have h1 := exec_mono n k c hn
      have h2 := exec_mono k n c hk
      rw [Nat.add_comm] at h2
      rw [h1] at h2
      exact h2
  · rw [dif_neg h]
    constructor
    · intro e; cases e
    · rintro ⟨n, hn⟩; exact absurd ⟨r, n, hn⟩ h
theorem runC_eq (cal : Nat → List AV → MM → Option RES) (z : Nat) (c : CFG) : runC cal z c = match stepD cal z c.1 c.2.1 c.2.2.1 c.2.2.2 with
    | none => none
    | some (.inl r) => some r
    | some (.inr c') => runC cal z c' := by
  apply Option.ext
  intro r
  rw [runC_iff]
  constructor
  · rintro ⟨n, hn⟩
    cases n with
    | zero => cases hn
    | succ n =>
      rw [exec] at hn
      split at hn
      · cases hn
      · exact hn
      · exact runC_iff.mpr ⟨n, hn⟩
  · intro h
    split at h
    · cases h
    · next q => exact ⟨1, by rw [exec, q]; exact h⟩
    · next q =>
      obtain ⟨n, hn⟩ := runC_iff.mp h
      exact ⟨n + 1, by rw [exec, q]; exact hn⟩
noncomputable def runs (cal : Nat → List AV → MM → Option RES) (z pc : Nat) (L S : List AV) (I : MM) : Option RES := runC cal z (pc, L, S, I)
/-- the locals at a method's entry -/
def flat : List AV → List AV
  | [] => []
  | .inr (.inl x) :: r => vL x :: vR 0 :: flat r
  | v :: r => v :: flat r
def entL (n : Nat) (args : List AV) : List AV := flat args ++ List.replicate (n - (flat args).length) (vR 0)
/-- what a method answers, in d levels of calls -/
noncomputable def call : Nat → Nat → List AV → MM → Option RES
  | 0, _, _, _ => none
  | d + 1, z, args, I => if (flat args).length ≤ mL z then runs (call d) z 0 (entL (mL z) args) [] I else none
