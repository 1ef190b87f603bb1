abbrev mm_Ce : Type := (Nat × vp_A) ⊕ (Nat × List Value)
/-- the world: which addresses are met, and what lies there -/
abbrev mm_S : Type := List Nat × (Nat → mm_Ce)
/-- how a method ends: with a value or none, or with a throw of a class -/
abbrev mm_Re : Type := (Option Value ⊕ String) × mm_S
abbrev mm_L : Type := List (Nat × Value)
abbrev mm_F : Type := Nat × List Value × mm_L × mm_S
def mm_get : mm_L → Nat → Option Value
  | [], _ => none
  | q :: l, i => if q.1 = i then some q.2 else mm_get l i
def mm_set (l : mm_L) (i : Nat) (v : Value) : mm_L := (i, v) :: l.filter (fun q => !(q.1 == i) && !(q.1 + 1 == i && q.2.category == 2))
def mm_set2 (l : mm_L) (i : Nat) (v : Value) : mm_L := (i, v) :: l.filter (fun q => !(q.1 == i) && (!(q.1 == i + 1) && !(q.1 + 1 == i && q.2.category == 2)))
abbrev mm_O : Type := Option (Option Prop × mm_F)
def mm_cm (c : Jvm.ClassFile.Cond) (x y : Int32) (F G : mm_F) : mm_F := match c with
  | .eq => if x = y then F else G
  | .ne => if x ≠ y then F else G
  | .lt => if x < y then F else G
  | .ge => if y ≤ x then F else G
  | .gt => if y < x then F else G
  | .le => if x ≤ y then F else G
def mm_to (pc : Nat) (off : Int) : Nat := ((pc : Int) + off).toNat
def mm_i1 (st : List Value) (k : Int32 → List Value → mm_O) : mm_O := match st with
  | .int x :: r => k x r
  | _ => none
def mm_i2 (st : List Value) (k : Int32 → Int32 → List Value → mm_O) : mm_O := match st with
  | .int y :: .int x :: r => k x y r
  | _ => none
def mm_l1 (st : List Value) (k : Int64 → List Value → mm_O) : mm_O := match st with
  | .long x :: r => k x r
  | _ => none
def mm_l2 (st : List Value) (k : Int64 → Int64 → List Value → mm_O) : mm_O := match st with
  | .long y :: .long x :: r => k x y r
  | _ => none
def mm_li (st : List Value) (k : Int64 → Int32 → List Value → mm_O) : mm_O := match st with
  | .int y :: .long x :: r => k x y r
  | _ => none
def mm_ild (ls : mm_L) (i : Nat) (k : Int32 → mm_O) : mm_O := match mm_get ls i with
  | some (.int x) => k x
  | _ => none
def mm_lld (ls : mm_L) (i : Nat) (k : Int64 → mm_O) : mm_O := match mm_get ls i with
  | some (.long x) => k x
  | _ => none
def mm_ald (ls : mm_L) (i : Nat) (k : Nat → mm_O) : mm_O := match mm_get ls i with
  | some (.ref x) => k x
  | _ => none
def mm_a1 (st : List Value) (k : Nat → List Value → mm_O) : mm_O := match st with
  | .ref q :: r => k q r
  | _ => none
def mm_ai (st : List Value) (k : Nat → Int32 → List Value → mm_O) : mm_O := match st with
  | .int j :: .ref q :: r => k q j r
  | _ => none
def mm_obj (c : mm_Ce) (k : Nat → List Value → mm_O) : mm_O := match c with
  | .inr (a, fs) => k a fs
  | _ => none
def mm_arI (c : mm_Ce) (k : Nat → Nat → (Nat → Int32) → mm_O) : mm_O := match c with
  | .inl (t, n, .inl g) => k t n g
  | _ => none
def mm_arL (c : mm_Ce) (k : Nat → Nat → (Nat → Int64) → mm_O) : mm_O := match c with
  | .inl (t, n, .inr (.inl g)) => k t n g
  | _ => none
def mm_arD (c : mm_Ce) (k : Nat → Nat → (Nat → UInt64) → mm_O) : mm_O := match c with
  | .inl (t, n, .inr (.inr (.inr (.inl g)))) => k t n g
  | _ => none
def mm_arR (c : mm_Ce) (k : Nat → Nat → (Nat → Option Nat) → mm_O) : mm_O := match c with
  | .inl (t, n, .inr (.inr (.inr (.inr g)))) => k t n g
  | _ => none
/-- a value that fits a field of a type -/
def mm_fit (ty : FieldType) (v : Value) : Prop := narrow ty v = v ∧ fits ty v = true
def mm_put (h : mm_S) (q : Nat) (c : mm_Ce) : mm_S := (h.1, va_up h.2 q c)
/-- one instruction without a call, an end, or a new thing: what must hold, and where it goes -/
def mm_st (ins : Instr) (a b pc : Nat) (st : List Value) (ls : mm_L) (h : mm_S) : mm_O := match ins with
  | .iconst n => some (none, pc + 1, .int (Int32.ofInt n) :: st, ls, h)
  | .bipush n => some (none, pc + 2, .int (Int8.ofInt n).toInt32 :: st, ls, h)
  | .sipush n => some (none, pc + 3, .int (Int16.ofInt n).toInt32 :: st, ls, h)
  | .lconst n => some (none, pc + 1, .long (Int64.ofNat (n : Nat)) :: st, ls, h)
  | .ldc _ => if b = 11 then some (none, pc + 2, .int (Int32.ofNat a) :: st, ls, h) else none
  | .ldc_w _ => if b = 11 then some (none, pc + 3, .int (Int32.ofNat a) :: st, ls, h) else none
  | .ldc2_w _ => if b = 12 then some (none, pc + 3, .long (Int64.ofNat a) :: st, ls, h) else none
  | .iload i => mm_ild ls i fun x => some (none, pc + 2, .int x :: st, ls, h)
  | .iload_n i => mm_ild ls i fun x => some (none, pc + 1, .int x :: st, ls, h)
  | .lload i => mm_lld ls i fun x => some (none, pc + 2, .long x :: st, ls, h)
  | .lload_n i => mm_lld ls i fun x => some (none, pc + 1, .long x :: st, ls, h)
  | .aload i => mm_ald ls i fun x => some (none, pc + 2, .ref x :: st, ls, h)
  | .aload_n i => mm_ald ls i fun x => some (none, pc + 1, .ref x :: st, ls, h)
  | .istore i => mm_i1 st fun x r => some (none, pc + 2, r, mm_set ls i (.int x), h)
  | .istore_n i => mm_i1 st fun x r => some (none, pc + 1, r, mm_set ls i (.int x), h)
  | .lstore i => mm_l1 st fun x r => some (none, pc + 2, r, mm_set2 ls i (.long x), h)
  | .lstore_n i => mm_l1 st fun x r => some (none, pc + 1, r, mm_set2 ls i (.long x), h)
  | .astore i => mm_a1 st fun x r => some (none, pc + 2, r, mm_set ls i (.ref x), h)
  | .astore_n i => mm_a1 st fun x r => some (none, pc + 1, r, mm_set ls i (.ref x), h)
  | .iinc i n => mm_ild ls i fun x => some (none, pc + 3, st, mm_set ls i (.int (x + Int32.ofInt n)), h)
  | .iadd => mm_i2 st fun x y r => some (none, pc + 1, .int (x + y) :: r, ls, h)
  | .isub => mm_i2 st fun x y r => some (none, pc + 1, .int (x - y) :: r, ls, h)
  | .imul => mm_i2 st fun x y r => some (none, pc + 1, .int (x * y) :: r, ls, h)
  | .iand => mm_i2 st fun x y r => some (none, pc + 1, .int (x &&& y) :: r, ls, h)
  | .ior => mm_i2 st fun x y r => some (none, pc + 1, .int (x ||| y) :: r, ls, h)
  | .idiv => mm_i2 st fun x y r => some (some (¬ y = 0), pc + 1, .int (x / y) :: r, ls, h)
  | .irem => mm_i2 st fun x y r => some (some (¬ y = 0), pc + 1, .int (x - x / y * y) :: r, ls, h)
  | .ineg => mm_i1 st fun x r => some (none, pc + 1, .int (-x) :: r, ls, h)
  | .ishl => mm_i2 st fun x y r => some (none, pc + 1, .int (x <<< (y &&& 31)) :: r, ls, h)
  | .ishr => mm_i2 st fun x y r => some (none, pc + 1, .int (x >>> (y &&& 31)) :: r, ls, h)
  | .iushr => mm_i2 st fun x y r => some (none, pc + 1, .int (x.toUInt32 >>> (y.toUInt32 &&& Int32.toUInt32 31)).toInt32 :: r, ls, h)
  | .land => mm_l2 st fun x y r => some (none, pc + 1, .long (x &&& y) :: r, ls, h)
  | .lor => mm_l2 st fun x y r => some (none, pc + 1, .long (x ||| y) :: r, ls, h)
  | .lshl => mm_li st fun x y r => some (none, pc + 1, .long (x <<< (y.toInt64 &&& 63)) :: r, ls, h)
  | .lshr => mm_li st fun x y r => some (none, pc + 1, .long (x >>> (y.toInt64 &&& 63)) :: r, ls, h)
  | .lcmp => mm_l2 st fun x y r => some (none, pc + 1, .int (lg_cmp x y) :: r, ls, h)
  | .i2l => mm_i1 st fun x r => some (none, pc + 1, .long x.toInt64 :: r, ls, h)
  | .l2i => mm_l1 st fun x r => some (none, pc + 1, .int x.toInt32 :: r, ls, h)
  | .i2c => mm_i1 st fun x r => some (none, pc + 1, .int (x.toUInt32 % 65536).toInt32 :: r, ls, h)
  | .i2b => mm_i1 st fun x r => some (none, pc + 1, .int x.toInt8.toInt32 :: r, ls, h)
  | .dup => match st with
    | v :: r => some (some (v.category = 1), pc + 1, v :: v :: r, ls, h)
    | _ => none
  | .dup2 => match st with
    | v :: w :: r => some (some (v.category = 1 ∧ w.category = 1), pc + 1, v :: w :: v :: w :: r, ls, h)
    | _ => none
  | .dup_x1 => match st with
    | v :: w :: r => some (some (v.category = 1 ∧ w.category = 1), pc + 1, v :: w :: v :: r, ls, h)
    | _ => none
  | .pop => match st with
    | v :: r => some (some (v.category = 1), pc + 1, r, ls, h)
    | _ => none
  | .goto off => some (some (0 ≤ (pc : Int) + off), mm_to pc off, st, ls, h)
  | .ifCond c off => mm_i1 st fun x r => some (some (0 ≤ (pc : Int) + off), mm_cm c x 0 (mm_to pc off, r, ls, h) (pc + 3, r, ls, h))
  | .if_icmp c off => mm_i2 st fun x y r => some (some (0 ≤ (pc : Int) + off), mm_cm c x y (mm_to pc off, r, ls, h) (pc + 3, r, ls, h))
  | .getfield _ => mm_a1 st fun q r => mm_obj (h.2 q) fun c fs => if c = a then match fs[b]? with
      | some v => some (some (q ∈ h.1), pc + 3, v :: r, ls, h)
      | none => none
      else none
  | .putfield _ => match st with
    | v :: .ref q :: r => mm_obj (h.2 q) fun c fs => if c = a then some (some (q ∈ h.1 ∧ b < fs.length ∧ mm_fit (mm_fty a b) v), pc + 3, r, ls, mm_put h q (.inr (a, fs.set b v))) else none
    | _ => none
  | .iaload => mm_ai st fun q j r => mm_arI (h.2 q) fun t n g => some (some (q ∈ h.1 ∧ t = 0 ∧ vp_in j n), pc + 1, .int (g j.toNatClampNeg) :: r, ls, h)
  | .baload => mm_ai st fun q j r => mm_arI (h.2 q) fun t n g => some (some (q ∈ h.1 ∧ (t = 1 ∨ t = 4) ∧ vp_in j n), pc + 1, .int (g j.toNatClampNeg) :: r, ls, h)
  | .laload => mm_ai st fun q j r => mm_arL (h.2 q) fun t n g => some (some (q ∈ h.1 ∧ t = 2 ∧ vp_in j n), pc + 1, .long (g j.toNatClampNeg) :: r, ls, h)
  | .daload => mm_ai st fun q j r => mm_arD (h.2 q) fun t n g => some (some (q ∈ h.1 ∧ t = 3 ∧ vp_in j n), pc + 1, .double (g j.toNatClampNeg) :: r, ls, h)
  | .aaload => mm_ai st fun q j r => mm_arR (h.2 q) fun t n g => some (some (q ∈ h.1 ∧ 5 ≤ t ∧ t < 9 ∧ vp_in j n), pc + 1, va_rf (g j.toNatClampNeg) :: r, ls, h)
  | .iastore => match st with
    | .int x :: .int j :: .ref q :: r => mm_arI (h.2 q) fun t n g => some (some (q ∈ h.1 ∧ t = 0 ∧ vp_in j n), pc + 1, r, ls, mm_put h q (.inl (t, n, .inl (upd g j.toNatClampNeg x))))
    | _ => none
  | .bastore => match st with
    | .int x :: .int j :: .ref q :: r => mm_arI (h.2 q) fun t n g => if t = 1 then some (some (q ∈ h.1 ∧ vp_in j n), pc + 1, r, ls, mm_put h q (.inl (t, n, .inl (upd g j.toNatClampNeg (vp_nar .boolean x)))))
      else if t = 4 then some (some (q ∈ h.1 ∧ vp_in j n), pc + 1, r, ls, mm_put h q (.inl (t, n, .inl (upd g j.toNatClampNeg (vp_nar .byte x))))) else none
    | _ => none
  | .lastore => match st with
    | .long x :: .int j :: .ref q :: r => mm_arL (h.2 q) fun t n g => some (some (q ∈ h.1 ∧ t = 2 ∧ vp_in j n), pc + 1, r, ls, mm_put h q (.inl (t, n, .inr (.inl (vp_updL g j.toNatClampNeg x)))))
    | _ => none
  | .aastore => match st with
    | .ref v :: .int j :: .ref q :: r => mm_arR (h.2 q) fun t n g => mm_obj (h.2 v) fun c fs => some (some (q ∈ h.1 ∧ v ∈ h.1 ∧ mm_tyl[t]? = some (.object (mm_C c).1) ∧ c < 8 ∧ vp_in j n), pc + 1, r, ls, mm_put h q (.inl (t, n, .inr (.inr (.inr (.inr (va_up g j.toNatClampNeg (some v))))))))
    | _ => none
  | .arraylength => mm_a1 st fun q r => match h.2 q with
    | .inl (t, x) => some (some (q ∈ h.1 ∧ t < 9), pc + 1, .int (Int32.ofNat x.1) :: r, ls, h)
    | _ => none
  | .tableswitch d lo hi offs => mm_i1 st fun x r => some (some (0 ≤ (pc : Int) + d ∧ (∀ o ∈ offs.toList, 0 ≤ (pc : Int) + o) ∧ (offs.size : Int) = hi - lo + 1), mm_to pc (if x.toInt < lo ∨ hi < x.toInt then d else (offs[(x.toInt - lo).toNat]?).getD d), r, ls, h)
  | .i2d => mm_i1 st fun x r => some (none, pc + 1, .double (FP.i2d x) :: r, ls, h)
  | .i2f => mm_i1 st fun x r => some (none, pc + 1, .float (FP.i2f x) :: r, ls, h)
  | .ddiv => match st with
    | .double y :: .double x :: r => some (some (vf_n64 (FP.ddiv x y)), pc + 1, .double (FP.ddiv x y) :: r, ls, h)
    | _ => none
  | .fdiv => match st with
    | .float y :: .float x :: r => some (some (vf_n32 (FP.fdiv x y)), pc + 1, .float (FP.fdiv x y) :: r, ls, h)
    | _ => none
  | .f2d => match st with
    | .float x :: r => some (some (vf_n64 (FP.f2d x)), pc + 1, .double (FP.f2d x) :: r, ls, h)
    | _ => none
  | .dcmp op => match st with
    | .double y :: .double x :: r => some (none, pc + 1, .int (Op.cmpValue (FP.dcmp x y) op) :: r, ls, h)
    | _ => none
  | .fcmp op => match st with
    | .float y :: .float x :: r => some (none, pc + 1, .int (Op.cmpValue (FP.fcmp x y) op) :: r, ls, h)
    | _ => none
  | .dload i => match mm_get ls i with
    | some (.double x) => some (none, pc + 2, .double x :: st, ls, h)
    | _ => none
  | .fload i => match mm_get ls i with
    | some (.float x) => some (none, pc + 2, .float x :: st, ls, h)
    | _ => none
  | .dstore i => match st with
    | .double x :: r => some (none, pc + 2, r, mm_set2 ls i (.double x), h)
    | _ => none
  | .fstore i => match st with
    | .float x :: r => some (none, pc + 2, r, mm_set ls i (.float x), h)
    | _ => none
  | .dconst d => if d = 0 then some (none, pc + 1, .double FP.dconst0 :: st, ls, h) else none
  | .fconst d => if d = 0 then some (none, pc + 1, .float FP.fconst0 :: st, ls, h) else none
  | .dastore => match st with
    | .double x :: .int j :: .ref q :: r => mm_arD (h.2 q) fun t n g => some (some (q ∈ h.1 ∧ t = 3 ∧ vp_in j n), pc + 1, r, ls, mm_put h q (.inl (t, n, .inr (.inr (.inr (.inl (vf_upd g j.toNatClampNeg x)))))))
    | _ => none
  | _ => none
/-- how long an instruction is -/
def mm_len (ins : Instr) (b : Nat) : Nat := match ins with
  | .bipush _ => 2
  | .sipush _ => 3
  | .ldc _ => 2
  | .ldc_w _ => 3
  | .ldc2_w _ => 3
  | .iload _ => 2
  | .lload _ => 2
  | .fload _ => 2
  | .dload _ => 2
  | .aload _ => 2
  | .istore _ => 2
  | .lstore _ => 2
  | .fstore _ => 2
  | .dstore _ => 2
  | .astore _ => 2
  | .iinc _ _ => 3
  | .goto _ => 3
  | .ifCond _ _ => 3
  | .if_icmp _ _ => 3
  | .ifnonnull _ => 3
  | .ifnull _ => 3
  | .getfield _ => 3
  | .putfield _ => 3
  | .getstatic _ => 3
  | .invokevirtual _ => 3
  | .invokespecial _ => 3
  | .invokestatic _ => 3
  | .new _ => 3
  | .anewarray _ => 3
  | .newarray _ => 2
  | .multianewarray _ _ => 4
  | .checkcast _ => 3
  | .tableswitch _ _ _ _ => b
  | _ => 1
def mm_lk (o nL : Nat) (ini : Bool) (ins : Instr) (a b : Nat) : Bool := match ins with
  | .istore i => decide (i < nL)
  | .istore_n i => decide ((i : Nat) < nL)
  | .astore i => decide (i < nL)
  | .astore_n i => decide ((i : Nat) < nL)
  | .lstore i => decide (i + 1 < nL)
  | .lstore_n i => decide ((i : Nat) + 1 < nL)
  | .fstore i => decide (i < nL)
  | .dstore i => decide (i + 1 < nL)
  | .iinc i _ => decide (i < nL)
  | .ldc i => decide (mm_look (mm_lnk o) i = some (11, a, 0)) || decide (b ≠ 11)
  | .ldc_w i => decide (mm_look (mm_lnk o) i = some (11, a, 0)) || decide (b ≠ 11)
  | .ldc2_w i => decide (mm_look (mm_lnk o) i = some (12, a, 0))
  | .getfield i => (decide (mm_look (mm_lnk o) i = some (0, a, b)) || decide (mm_look (mm_lnk o) i = some (1, a, b))) && (decide (a < 8) && decide (b < (mm_C a).2.2))
  | .putfield i => ((decide (mm_look (mm_lnk o) i = some (0, a, b)) && (!((mm_C a).2.1 b).2.2.2 || (ini && decide (((mm_C a).2.1 b).1 = mm_R o)))) || (decide (mm_look (mm_lnk o) i = some (1, a, b)) && !((mm_C a).2.1 b).2.2.2)) && (decide (a < 8) && decide (b < (mm_C a).2.2))
  | .invokestatic i => b == 999 || ((b / 16 == 2 || b / 16 == 3 || b / 16 == 15 || b / 16 == 16 || b / 16 == 17) && decide (mm_look (mm_lnk o) i = some (b / 16, a, b)))
  | .anewarray i => decide (mm_look (mm_lnk o) i = some (9, a, 9)) && decide (a < 8)
  | .multianewarray i _ => decide (mm_look (mm_lnk o) i = some (18, 8, 18))
  | .invokevirtual i => b == 999 || ((b / 16 == 4 || b / 16 == 5 || b / 16 == 13) && decide (mm_look (mm_lnk o) i = some (b / 16, a, b)))
  | .invokespecial i => b == 999 || (b == 128 && decide (mm_look (mm_lnk o) i = some (8, 0, 0))) || ((b / 16 == 6 || b / 16 == 7 || b / 16 == 14) && decide (mm_look (mm_lnk o) i = some (b / 16, a, b)))
  | .new i => b != 9 || (decide (mm_look (mm_lnk o) i = some (9, a, 9)) && decide (a < 8))
  | _ => true
