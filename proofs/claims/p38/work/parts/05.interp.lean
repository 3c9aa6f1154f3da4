/-! what a method of the block does, as a function: one step of each instruction, a run between labels, and the least function that keeps to both -/
abbrev Act : Type := (List (Bool × St) × St) ⊕ ((Nat × List Value × Mm × Nat × (List Value → Mm → St)) ⊕ Rs)
def gd (b : Bool) (x : Option Rs) : Option Rs := bif b then x else none
def nx (q : Nat × Nat) (pc : Nat) (lv : List (Nat × Value)) (st : List Value) (μ : Mm) : Option (Bool × Act) := some (true, .inl ([], (q, pc, lv, st, μ)))
def ng (g : Bool) (q : Nat × Nat) (pc : Nat) (lv : List (Nat × Value)) (st : List Value) (μ : Mm) : Option (Bool × Act) := some (g, .inl ([], (q, pc, lv, st, μ)))
def lget (i : Nat) : List (Nat × Value) → Option Value
  | [] => none
  | q :: r => bif Nat.beq i q.1 then some q.2 else lget i r
def lw1_ (i : Nat) (v : Value) (lv : List (Nat × Value)) : List (Nat × Value) := (i, v) :: lv.filter (fun q => !(q.1 == i) && !(q.1 + 1 == i && q.2.category == 2))
def lw2_ (i : Nat) (v : Value) (lv : List (Nat × Value)) : List (Nat × Value) := (i, v) :: lv.filter (fun q => !(q.1 == i) && (!(q.1 == i + 1) && !(q.1 + 1 == i && q.2.category == 2)))
def kpL : List Nat → List (Nat × Value) → List (Nat × Value)
  | [], _ => []
  | i :: r, lv => match lget i lv with
    | some v => (i, v) :: kpL r lv
    | none => kpL r lv
def inb (i : Int32) (n : Nat) : Bool := !(decide (i < 0) || decide (n ≤ i.toNatClampNeg))
def isb (x : Int32) : Bool := decide (x = 0) || decide (x = 1)
def n32 (r : UInt32) : Bool := decide (r &&& 0x7fffffff ≤ 0x7f800000)
def n64 (r : UInt64) : Bool := decide (r &&& 0x7fffffffffffffff ≤ 0x7ff0000000000000)
def cpyOk (sp dp n : Int32) (k0 k1 : Nat) : Bool := (!decide (sp < 0) && !decide (dp < 0) && !decide (n < 0)) && (decide (sp.toNatClampNeg + n.toNatClampNeg ≤ lnI k0) && decide (dp.toNatClampNeg + n.toNatClampNeg ≤ lnI k1)) && (Nat.beq (shK k0) 0 && Nat.beq (shK k1) 0)
section POPS
variable {β : Type}
def pI (st : List Value) (k : Int32 → List Value → Option β) : Option β := match st with
  | .int x :: r => k x r
  | _ => none
def pJ (st : List Value) (k : Int64 → List Value → Option β) : Option β := match st with
  | .long x :: r => k x r
  | _ => none
def pF4 (st : List Value) (k : UInt32 → List Value → Option β) : Option β := match st with
  | .float x :: r => k x r
  | _ => none
def pD8 (st : List Value) (k : UInt64 → List Value → Option β) : Option β := match st with
  | .double x :: r => k x r
  | _ => none
def pA (st : List Value) (k : Nat → List Value → Option β) : Option β := match st with
  | .ref x :: r => k x r
  | _ => none
/-- a reference to the block, or the table -/
def pT (st : List Value) (kt : List Value → Option β) (k : Nat → List Value → Option β) : Option β := match st with
  | .retAddr _ :: r => kt r
  | .ref x :: r => k x r
  | _ => none
def pN (st : List Value) (kn : List Value → Option β) (k : Nat → List Value → Option β) : Option β := match st with
  | .null :: r => kn r
  | .ref x :: r => k x r
  | _ => none
theorem pI_e {st : List Value} {k : Int32 → List Value → Option β} {b : β} (h : pI st k = some b) : ∃ x r, st = .int x :: r ∧ k x r = some b := by
  unfold pI at h; split at h
  · exact ⟨_, _, rfl, h⟩
  · cases h
theorem pJ_e {st : List Value} {k : Int64 → List Value → Option β} {b : β} (h : pJ st k = some b) : ∃ x r, st = .long x :: r ∧ k x r = some b := by
  unfold pJ at h; split at h
  · exact ⟨_, _, rfl, h⟩
  · cases h
theorem pF4_e {st : List Value} {k : UInt32 → List Value → Option β} {b : β} (h : pF4 st k = some b) : ∃ x r, st = .float x :: r ∧ k x r = some b := by
  unfold pF4 at h; split at h
  · exact ⟨_, _, rfl, h⟩
  · cases h
theorem pD8_e {st : List Value} {k : UInt64 → List Value → Option β} {b : β} (h : pD8 st k = some b) : ∃ x r, st = .double x :: r ∧ k x r = some b := by
  unfold pD8 at h; split at h
  · exact ⟨_, _, rfl, h⟩
  · cases h
theorem pA_e {st : List Value} {k : Nat → List Value → Option β} {b : β} (h : pA st k = some b) : ∃ x r, st = .ref x :: r ∧ k x r = some b := by
  unfold pA at h; split at h
  · exact ⟨_, _, rfl, h⟩
  · cases h
theorem pT_e {st : List Value} {kt : List Value → Option β} {k : Nat → List Value → Option β} {b : β} (h : pT st kt k = some b) : (∃ z r, st = .retAddr z :: r ∧ kt r = some b) ∨ ∃ x r, st = .ref x :: r ∧ k x r = some b := by
  unfold pT at h; split at h
  · exact Or.inl ⟨_, _, rfl, h⟩
  · exact Or.inr ⟨_, _, rfl, h⟩
  · cases h
theorem pN_e {st : List Value} {kn : List Value → Option β} {k : Nat → List Value → Option β} {b : β} (h : pN st kn k = some b) : (∃ r, st = .null :: r ∧ kn r = some b) ∨ ∃ x r, st = .ref x :: r ∧ k x r = some b := by
  unfold pN at h; split at h
  · exact Or.inl ⟨_, rfl, h⟩
  · exact Or.inr ⟨_, _, rfl, h⟩
  · cases h
end POPS
/-- a branch: where it goes if it holds, and if not -/
def cjmp (c : Jvm.ClassFile.Cond) (x y : Int32) (a b : St) : Option (Bool × Act) := match c with
  | .eq => some (true, .inl ([(decide (x = y), a)], b))
  | .ne => some (true, .inl ([(decide (x = y), b)], a))
  | .lt => some (true, .inl ([(decide (x < y), a)], b))
  | .ge => some (true, .inl ([(decide (x < y), b)], a))
  | .gt => some (true, .inl ([(decide (y < x), a)], b))
  | .le => some (true, .inl ([(decide (y < x), b)], a))
def swl (x lo : Int32) (k : Nat → St) : List Nat → List (Bool × St)
  | [] => []
  | t :: r => (decide (x = lo), k t) :: swl x (lo + 1) k r
/-- the arguments of a call, off the stack -/
def takeA : Nat → List Value → List Value → Option (List Value × List Value)
  | 0, acc, st => some (acc, st)
  | n + 1, acc, v :: st => takeA n (v :: acc) st
  | _ + 1, _, [] => none
def csum (st : List Value) : Nat := match st with
  | [] => 0
  | v :: r => v.category + csum r
def bitOr (b : Bool) (x : Int32) : Bool := bif b then isb x else true
def stp (E : Nat → Bool) (q : Nat × Nat) (pc : Nat) (lv : List (Nat × Value)) (μ : Mm) (len : Nat) (ops : List Nat) (v : Value) (i : Instr) (st : List Value) : Option (Bool × Act) :=
  match i with
  | .iconst _ | .bipush _ | .sipush _ | .lconst _ | .fconst _ | .dconst _ | .ldc _ | .ldc_w _ | .ldc2_w _ => nx q (pc + len) lv (v :: st) μ
  | .aconst_null => nx q (pc + len) lv (.null :: st) μ
  | .iload_n _ | .iload _ => match lget (o0 ops) lv with
    | some (.int x) => nx q (pc + len) lv (.int x :: st) μ
    | _ => none
  | .lload_n _ | .lload _ => match lget (o0 ops) lv with
    | some (.long x) => nx q (pc + len) lv (.long x :: st) μ
    | _ => none
  | .fload_n _ | .fload _ => match lget (o0 ops) lv with
    | some (.float x) => nx q (pc + len) lv (.float x :: st) μ
    | _ => none
  | .dload_n _ | .dload _ => match lget (o0 ops) lv with
    | some (.double x) => nx q (pc + len) lv (.double x :: st) μ
    | _ => none
  | .aload_n _ | .aload _ => match lget (o0 ops) lv with
    | some (.ref x) => nx q (pc + len) lv (.ref x :: st) μ
    | some .null => nx q (pc + len) lv (.null :: st) μ
    | _ => none
  | .istore_n _ | .istore _ => pI st fun x st => nx q (pc + len) (lw1_ (o0 ops) (.int x) lv) st μ
  | .lstore_n _ | .lstore _ => pJ st fun x st => nx q (pc + len) (lw2_ (o0 ops) (.long x) lv) st μ
  | .fstore_n _ | .fstore _ => pF4 st fun x st => nx q (pc + len) (lw1_ (o0 ops) (.float x) lv) st μ
  | .dstore_n _ | .dstore _ => pD8 st fun x st => nx q (pc + len) (lw2_ (o0 ops) (.double x) lv) st μ
  | .astore_n _ | .astore _ => pN st (fun st => nx q (pc + len) (lw1_ (o0 ops) .null lv) st μ) fun x st => nx q (pc + len) (lw1_ (o0 ops) (.ref x) lv) st μ
  | .iinc _ _ => match lget (o0 ops) lv with
    | some (.int x) => match v with
      | .int y => nx q (pc + len) (lw1_ (o0 ops) (.int (x + y)) lv) st μ
      | _ => none
    | _ => none
  | .iadd => pI st fun y st => pI st fun x st => nx q (pc + len) lv (.int (x + y) :: st) μ
  | .isub => pI st fun y st => pI st fun x st => nx q (pc + len) lv (.int (x - y) :: st) μ
  | .imul => pI st fun y st => pI st fun x st => nx q (pc + len) lv (.int (x * y) :: st) μ
  | .iand => pI st fun y st => pI st fun x st => nx q (pc + len) lv (.int (x &&& y) :: st) μ
  | .ior => pI st fun y st => pI st fun x st => nx q (pc + len) lv (.int (x ||| y) :: st) μ
  | .idiv => pI st fun y st => pI st fun x st => ng (!decide (y = 0)) q (pc + len) lv (.int (x / y) :: st) μ
  | .irem => pI st fun y st => pI st fun x st => ng (!decide (y = 0)) q (pc + len) lv (.int (x - x / y * y) :: st) μ
  | .ishl => pI st fun y st => pI st fun x st => nx q (pc + len) lv (.int (x <<< (y &&& 31)) :: st) μ
  | .ladd => pJ st fun y st => pJ st fun x st => nx q (pc + len) lv (.long (x + y) :: st) μ
  | .lsub => pJ st fun y st => pJ st fun x st => nx q (pc + len) lv (.long (x - y) :: st) μ
  | .lmul => pJ st fun y st => pJ st fun x st => nx q (pc + len) lv (.long (x * y) :: st) μ
  | .land => pJ st fun y st => pJ st fun x st => nx q (pc + len) lv (.long (x &&& y) :: st) μ
  | .lor => pJ st fun y st => pJ st fun x st => nx q (pc + len) lv (.long (x ||| y) :: st) μ
  | .lxor => pJ st fun y st => pJ st fun x st => nx q (pc + len) lv (.long (x ^^^ y) :: st) μ
  | .lrem => pJ st fun y st => pJ st fun x st => ng (!decide (y = 0)) q (pc + len) lv (.long (x - x / y * y) :: st) μ
  | .lshl => pI st fun y st => pJ st fun x st => nx q (pc + len) lv (.long (x <<< (y.toInt64 &&& 63)) :: st) μ
  | .lshr => pI st fun y st => pJ st fun x st => nx q (pc + len) lv (.long (x >>> (y.toInt64 &&& 63)) :: st) μ
  | .lushr => pI st fun y st => pJ st fun x st => nx q (pc + len) lv (.long ((x.toUInt64 >>> (y.toInt64.toUInt64 &&& Int64.toUInt64 63)).toInt64) :: st) μ
  | .i2l => pI st fun x st => nx q (pc + len) lv (.long x.toInt64 :: st) μ
  | .l2i => pJ st fun x st => nx q (pc + len) lv (.int x.toInt32 :: st) μ
  | .i2f => pI st fun x st => nx q (pc + len) lv (.float (FP.i2f x) :: st) μ
  | .i2d => pI st fun x st => nx q (pc + len) lv (.double (FP.i2d x) :: st) μ
  | .l2d => pJ st fun x st => nx q (pc + len) lv (.double (FP.l2d x) :: st) μ
  | .d2l => pD8 st fun x st => nx q (pc + len) lv (.long (FP.d2l x) :: st) μ
  | .d2i => pD8 st fun x st => nx q (pc + len) lv (.int (FP.d2i x) :: st) μ
  | .f2i => pF4 st fun x st => nx q (pc + len) lv (.int (FP.f2i x) :: st) μ
  | .f2d => pF4 st fun x st => ng (n64 (FP.f2d x)) q (pc + len) lv (.double (FP.f2d x) :: st) μ
  | .dneg => pD8 st fun x st => nx q (pc + len) lv (.double (FP.dneg x) :: st) μ
  | .lcmp => pJ st fun y st => pJ st fun x st => nx q (pc + len) lv (.int (lg_cmp x y) :: st) μ
  | .fcmp op => pF4 st fun y st => pF4 st fun x st => nx q (pc + len) lv (.int (Op.cmpValue (FP.fcmp x y) op) :: st) μ
  | .dcmp op => pD8 st fun y st => pD8 st fun x st => nx q (pc + len) lv (.int (Op.cmpValue (FP.dcmp x y) op) :: st) μ
  | .fadd => pF4 st fun y st => pF4 st fun x st => ng (n32 (FP.fadd x y)) q (pc + len) lv (.float (FP.fadd x y) :: st) μ
  | .fmul => pF4 st fun y st => pF4 st fun x st => ng (n32 (FP.fmul x y)) q (pc + len) lv (.float (FP.fmul x y) :: st) μ
  | .fdiv => pF4 st fun y st => pF4 st fun x st => ng (n32 (FP.fdiv x y)) q (pc + len) lv (.float (FP.fdiv x y) :: st) μ
  | .dadd => pD8 st fun y st => pD8 st fun x st => ng (n64 (FP.dadd x y)) q (pc + len) lv (.double (FP.dadd x y) :: st) μ
  | .dsub => pD8 st fun y st => pD8 st fun x st => ng (n64 (FP.dsub x y)) q (pc + len) lv (.double (FP.dsub x y) :: st) μ
  | .dmul => pD8 st fun y st => pD8 st fun x st => ng (n64 (FP.dmul x y)) q (pc + len) lv (.double (FP.dmul x y) :: st) μ
  | .ddiv => pD8 st fun y st => pD8 st fun x st => ng (n64 (FP.ddiv x y)) q (pc + len) lv (.double (FP.ddiv x y) :: st) μ
  | .dup => match st with
    | a :: st => ng (Nat.beq a.category 1) q (pc + len) lv (a :: a :: st) μ
    | _ => none
  | .dup2 => match st with
    | .long x :: st => nx q (pc + len) lv (.long x :: .long x :: st) μ
    | .int x :: .ref a :: st => nx q (pc + len) lv (.int x :: .ref a :: .int x :: .ref a :: st) μ
    | _ => none
  | .ifCond c _ => pI st fun x st => cjmp c x 0 (q, o0 ops, lv, st, μ) (q, pc + len, lv, st, μ)
  | .if_icmp c _ => pI st fun y st => pI st fun x st => cjmp c x y (q, o0 ops, lv, st, μ) (q, pc + len, lv, st, μ)
  | .goto _ => nx q (o0 ops) lv st μ
  | .ifnull _ => pN st (fun st => nx q (o0 ops) lv st μ) fun _ st => nx q (pc + len) lv st μ
  | .ifnonnull _ => pN st (fun st => nx q (pc + len) lv st μ) fun _ st => nx q (o0 ops) lv st μ
  | .tableswitch _ _ _ _ => pI st fun x st => match v, ops with
    | .int lo, d :: ts => some (true, .inl (swl x lo (fun t => (q, t, lv, st, μ)) ts, (q, d, lv, st, μ)))
    | _, _ => none
  | .getfield _ => pA st fun k st => ng (E k && isO k (o0 ops)) q (pc + len) lv ((bif Nat.beq (o3 ops) 1 then .ref (sub k (o1 ops)) else .int (μ.1 k (o1 ops))) :: st) μ
  | .putfield _ => pI st fun x st => pA st fun k st => ng ((E k && isO k (o0 ops)) && bitOr (Nat.beq (o3 ops) 1) x) q (pc + len) lv st (sI μ k (o1 ops) x)
  | .getstatic _ => nx q (pc + len) lv (.retAddr 0 :: st) μ
  | .iaload => pI st fun i st => pT st (fun st => ng (inb i 19) q (pc + len) lv (.int (nums i.toNatClampNeg) :: st) μ) fun k st => ng (E k && inb i (lnI k)) q (pc + len) lv (.int (μ.1 k i.toNatClampNeg) :: st) μ
  | .baload => pI st fun i st => pA st fun k st => ng (E k && inb i (lnZ k)) q (pc + len) lv (.int (μ.1 k i.toNatClampNeg) :: st) μ
  | .laload => pI st fun i st => pA st fun k st => ng (E k && inb i (lnL k)) q (pc + len) lv (.long (μ.2 k i.toNatClampNeg) :: st) μ
  | .aaload => pI st fun i st => pA st fun k st => ng (E k && inb i (lnQ k)) q (pc + len) lv (.ref (sub k i.toNatClampNeg) :: st) μ
  | .iastore => pI st fun x st => pI st fun i st => pA st fun k st => ng (E k && inb i (lnI k)) q (pc + len) lv st (sI μ k i.toNatClampNeg x)
  | .bastore => pI st fun x st => pI st fun i st => pA st fun k st => ng ((E k && inb i (lnZ k)) && isb x) q (pc + len) lv st (sI μ k i.toNatClampNeg x)
  | .lastore => pJ st fun x st => pI st fun i st => pA st fun k st => ng (E k && inb i (lnL k)) q (pc + len) lv st (sL μ k i.toNatClampNeg x)
  | .arraylength => pT st (fun st => nx q (pc + len) lv (.int 19 :: st) μ) fun k st => ng (E k && Nat.ble (shK k) 5) q (pc + len) lv (.int (Int32.ofNat (shN k)) :: st) μ
  | .invokevirtual _ => match takeA (o1 ops) [] st with
    | some (as, st) => pA st fun k st => some ((E k && isO k (o3 ops)) && (Nat.ble (csum st) 8 && Nat.ble (1 + csum as) (o4 ops)), .inr (.inl (o0 ops, .ref k :: as, μ, o2 ops, fun w μ' => (q, pc + len, lv, w ++ st, μ'))))
    | none => none
  | .invokestatic _ => bif Nat.ble 1000 (o0 ops) then
      (bif Nat.beq (o0 ops) 1000 then pI st fun n st => pI st fun dp st => pA st fun k1 st => pI st fun sp st => pA st fun k0 st => ng ((E k0 && (E k1 && cpyOk sp dp n k0 k1)) && (Nat.ble (csum st) 8 && Nat.ble 1 q.2)) q (pc + len) lv st (sR μ k1 (va_cpy (μ.1 k0) (μ.1 k1) sp.toNatClampNeg dp.toNatClampNeg n.toNatClampNeg))
      else bif Nat.beq (o0 ops) 1001 then pF4 st fun x st => ng (Nat.ble (csum st) 8 && Nat.ble 1 q.2) q (pc + len) lv (.int x.toInt32 :: st) μ
      else pD8 st fun x st => ng (Nat.ble (csum st) 8 && Nat.ble 1 q.2) q (pc + len) lv (.long x.toInt64 :: st) μ)
    else match takeA (o1 ops) [] st with
    | some (as, st) => some (Nat.ble (csum st) 8 && Nat.ble (csum as) (o4 ops), .inr (.inl (o0 ops, as, μ, o2 ops, fun w μ' => (q, pc + len, lv, w ++ st, μ'))))
    | none => none
  | .ireturn => match st with
    | [.int x] => some (bitOr (Nat.beq (o0 ops) 1) x, .inr (.inr (some (.int x), μ)))
    | _ => none
  | .lreturn => match st with
    | [.long x] => some (true, .inr (.inr (some (.long x), μ)))
    | _ => none
  | .freturn => match st with
    | [.float x] => some (true, .inr (.inr (some (.float x), μ)))
    | _ => none
  | .dreturn => match st with
    | [.double x] => some (true, .inr (.inr (some (.double x), μ)))
    | _ => none
  | .areturn => match st with
    | [.ref x] => some (true, .inr (.inr (some (.ref x), μ)))
    | [.null] => some (true, .inr (.inr (some .null, μ)))
    | _ => none
  | .return_ => match st with
    | [] => some (true, .inr (.inr (none, μ)))
    | _ => none
  | _ => none
def brs (l : List (Bool × St)) (d : St) (f : St → Option Rs) : Option Rs := match l with
  | [] => f d
  | q :: l => bif q.1 then f q.2 else brs l d f
def cV (o : Option Rs) (k : Mm → Option Rs) : Option Rs := match o with
  | some (none, μ) => k μ
  | _ => none
def cI (o : Option Rs) (k : Int32 → Mm → Option Rs) : Option Rs := match o with
  | some (some (.int x), μ) => k x μ
  | _ => none
def cJ (o : Option Rs) (k : Int64 → Mm → Option Rs) : Option Rs := match o with
  | some (some (.long x), μ) => k x μ
  | _ => none
def cF (o : Option Rs) (k : UInt32 → Mm → Option Rs) : Option Rs := match o with
  | some (some (.float x), μ) => k x μ
  | _ => none
def cD (o : Option Rs) (k : UInt64 → Mm → Option Rs) : Option Rs := match o with
  | some (some (.double x), μ) => k x μ
  | _ => none
def cA (o : Option Rs) (k : Nat → Mm → Option Rs) : Option Rs := match o with
  | some (some (.ref x), μ) => k x μ
  | _ => none
def cNl (o : Option Rs) (kn : Mm → Option Rs) (k : Nat → Mm → Option Rs) : Option Rs := match o with
  | some (some .null, μ) => kn μ
  | some (some (.ref x), μ) => k x μ
  | _ => none
def cal (rt : Nat) (o : Option Rs) (kn : List Value → Mm → Option Rs) : Option Rs := match rt with
  | 0 => cV o fun μ => kn [] μ
  | 1 => cI o fun x μ => kn [.int x] μ
  | 2 => cJ o fun x μ => kn [.long x] μ
  | 3 => cF o fun x μ => kn [.float x] μ
  | 4 => cD o fun x μ => kn [.double x] μ
  | 5 => cA o fun x μ => kn [.ref x] μ
  | _ => cNl o (fun μ => kn [.null] μ) fun x μ => kn [.ref x] μ
theorem cal_e {rt : Nat} {o : Option Rs} {kn : List Value → Mm → Option Rs} {r : Rs} (h : cal rt o kn = some r) : ∃ w μ', o = some (w, μ') ∧ kn w.toList μ' = some r := by
  unfold cal cV cI cJ cF cD cA cNl at h
  split at h <;> split at h <;> first | exact ⟨_, _, rfl, h⟩ | cases h
theorem cal_mono {rt : Nat} {o o' : Option Rs} {kn kn' : List Value → Mm → Option Rs} {r : Rs} (ho : ∀ r, o = some r → o' = some r) (hk : ∀ w μ r, kn w μ = some r → kn' w μ = some r) (h : cal rt o kn = some r) : cal rt o' kn' = some r := by
  unfold cal cV cI cJ cF cD cA cNl at h ⊢
  split at h <;> split at h <;> first | (rw [ho _ rfl]; exact hk _ _ _ h) | cases h
/-- on to a place: labels are cut points, where the dead locals go -/
def gw (rec f : St → Option Rs) (s : St) : Option Rs := match pL s.1.1 s.2.1 with
  | some kp => rec (s.1, s.2.1, kpL kp s.2.2.1, s.2.2.2.1, s.2.2.2.2)
  | none => f s
def ent (c : Nat) (as : List Value) (μ : Mm) : St := ((c, pK c as), 0, lv_args 0 as, [], μ)
def act (rec f : St → Option Rs) (d : Nat) (a : Act) : Option Rs := match a with
  | .inl (l, s) => brs l s (gw rec f)
  | .inr (.inl (c, as, μ, rt, kn)) => gd (Nat.ble (pK c as + 1) d) (cal rt (rec (ent c as μ)) fun w μ' => gw rec f (kn w μ'))
  | .inr (.inr r) => some r
def ex1 (E : Nat → Bool) (rec f : St → Option Rs) (s : St) : Option Rs := match pF s.1.1 s.2.1 with
  | none => none
  | some (i, len, ops, v) => match stp E s.1 s.2.1 s.2.2.1 s.2.2.2.2 len ops v i s.2.2.2.1 with
    | none => none
    | some (g, a) => gd g (act rec f s.1.2 a)
noncomputable def ex (E : Nat → Bool) (rec : St → Option Rs) (n : Nat) : St → Option Rs := @Nat.rec (fun _ => St → Option Rs) (fun _ => none) (fun _ f s => ex1 E rec f s) n
def KK : Nat := 400
noncomputable def exN (E : Nat → Bool) (n : Nat) : St → Option Rs := @Nat.rec (fun _ => St → Option Rs) (fun _ => none) (fun _ f s => ex E f KK s) n
theorem gd_e {b : Bool} {x : Option Rs} {r : Rs} (h : gd b x = some r) : b = true ∧ x = some r := by
  cases b with
  | true => exact ⟨rfl, h⟩
  | false => cases h
section MONO
variable {E : Nat → Bool} {f f' g g' : St → Option Rs}
theorem brs_mono (h : ∀ s r, f s = some r → g s = some r) : ∀ (l : List (Bool × St)) (d : St) (r : Rs), brs l d f = some r → brs l d g = some r
  | [], d, r, q => h d r q
  | (c, s) :: l, d, r, q => by
    cases c with
    | true => exact h s r q
    | false => exact brs_mono h l d r q
theorem gw_mono (hf : ∀ s r, f s = some r → f' s = some r) (hg : ∀ s r, g s = some r → g' s = some r) {s : St} {r : Rs} (h : gw f g s = some r) : gw f' g' s = some r := by
  unfold gw at h ⊢
  split at h
  · exact hf _ _ h
  · exact hg _ _ h
theorem act_mono (hf : ∀ s r, f s = some r → f' s = some r) (hg : ∀ s r, g s = some r → g' s = some r) {d : Nat} {a : Act} {r : Rs} (h : act f g d a = some r) : act f' g' d a = some r := by
  obtain ⟨l, s⟩ | ⟨c, as, μ, rt, kn⟩ | r' := a
  · exact brs_mono (fun s r => gw_mono hf hg) l s r h
  · obtain ⟨h1, h2⟩ := gd_e h
    show gd _ _ = _
    rw [h1]
    exact cal_mono (hf _) (fun w μ r q => gw_mono hf hg q) h2
  · exact h
theorem ex1_mono (hf : ∀ s r, f s = some r → f' s = some r) (hg : ∀ s r, g s = some r → g' s = some r) {s : St} {r : Rs} (h : ex1 E f g s = some r) : ex1 E f' g' s = some r := by
  unfold ex1 at h ⊢
  split at h
  · cases h
  · split at h
    · cases h
    · obtain ⟨h1, h2⟩ := gd_e h
      rename_i e1 _ _ _ e2
      simp only [e1, e2, h1]
      exact act_mono hf hg h2
theorem ex_mono (hf : ∀ s r, f s = some r → f' s = some r) : ∀ (n : Nat) (s : St) (r : Rs), ex E f n s = some r → ex E f' n s = some r
  | 0, _, _, h => by cases h
  | n + 1, _, _, h => ex1_mono hf (ex_mono hf n) h
end MONO
section SEM
variable {E : Nat → Bool}
theorem exN_s (n : Nat) (s : St) : exN E (n + 1) s = ex E (exN E n) KK s := rfl
theorem exN_succ : ∀ (n : Nat) (s : St) (r : Rs), exN E n s = some r → exN E (n + 1) s = some r
  | 0, _, _, h => by cases h
  | n + 1, s, r, h => by
    rw [exN_s] at h ⊢
    exact ex_mono (f := exN E n) (f' := exN E (n + 1)) (exN_succ n) KK s r h
theorem exN_le {n m : Nat} (h : n ≤ m) {s : St} {r : Rs} (e : exN E n s = some r) : exN E m s = some r := by
  induction h with
  | refl => exact e
  | step _ ih => exact exN_succ _ _ _ ih
/-- what a state comes to, if any number of labels leads to an end -/
noncomputable def sem (E : Nat → Bool) (s : St) : Option Rs := @dite _ (∃ r n, exN E n s = some r) (Classical.propDecidable _) (fun h => some h.choose) (fun _ => none)
theorem sem_iff {s : St} {r : Rs} : sem E s = some r ↔ ∃ n, exN E n s = some r := by
  constructor
  · intro h
    unfold sem at h
    split at h
    · rename_i h1
      obtain ⟨n, hn⟩ := h1.choose_spec
      cases h
      exact ⟨n, hn⟩
    · cases h
  · rintro ⟨n, hn⟩
    have h1 : ∃ r n, exN E n s = some r := ⟨r, n, hn⟩
    unfold sem
    rw [dif_pos h1]
    obtain ⟨m, hm⟩ := h1.choose_spec
    have a := exN_le (Nat.le_max_left n m) hn
    have b := exN_le (Nat.le_max_right n m) hm
    rw [a] at b
    exact b.symm
theorem sem_of {n : Nat} {s : St} {r : Rs} (h : exN E n s = some r) : sem E s = some r := sem_iff.mpr ⟨n, h⟩
/-- a finite run over sem needs finitely many labels -/
def Fin_ (f : St → Option Rs) (s : St) (F : Nat → St → Option Rs) : Prop := ∀ r, f s = some r → ∃ n, ∀ m, n ≤ m → F m s = some r
theorem fin_gw {g : St → Option Rs} {G : Nat → St → Option Rs} (hg : ∀ s, Fin_ g s G) (s : St) : Fin_ (gw (sem E) g) s (fun n => gw (exN E n) (G n)) := by
  intro r h
  unfold gw at h
  split at h
  · rename_i kp e
    obtain ⟨n, hn⟩ := sem_iff.mp h
    refine ⟨n, fun m hm => ?_⟩
    show gw _ _ s = _
    unfold gw
    rw [e]
    exact exN_le hm hn
  · rename_i e
    obtain ⟨n, hn⟩ := hg s r h
    refine ⟨n, fun m hm => ?_⟩
    show gw _ _ s = _
    unfold gw
    rw [e]
    exact hn m hm
theorem fin_brs {g : St → Option Rs} {G : Nat → St → Option Rs} (hg : ∀ s, Fin_ g s G) : ∀ (l : List (Bool × St)) (d : St) (r : Rs), brs l d g = some r → ∃ n, ∀ m, n ≤ m → brs l d (G m) = some r
  | [], d, r, q => hg d r q
  | (c, s) :: l, d, r, q => by
    cases c with
    | true => exact hg s r q
    | false => exact fin_brs hg l d r q
theorem fin_act {g : St → Option Rs} {G : Nat → St → Option Rs} (hg : ∀ s, Fin_ g s G) {d : Nat} {a : Act} {r : Rs} (h : act (sem E) g d a = some r) : ∃ n, ∀ m, n ≤ m → act (exN E m) (G m) d a = some r := by
  obtain ⟨l, s⟩ | ⟨c, as, μ, rt, kn⟩ | r' := a
  · exact fin_brs (fin_gw hg) l s r h
  · obtain ⟨h1, h2⟩ := gd_e h
    obtain ⟨w, μ', e, hk⟩ := cal_e h2
    obtain ⟨n1, h3⟩ := sem_iff.mp e
    obtain ⟨n2, h4⟩ := fin_gw hg _ r hk
    refine ⟨max n1 n2, fun m hm => ?_⟩
    have h5 := exN_le (Nat.le_trans (Nat.le_max_left n1 n2) hm) h3
    have h6 := h4 m (Nat.le_trans (Nat.le_max_right n1 n2) hm)
    show gd _ _ = _
    rw [h1]
    show cal rt (exN E m (ent c as μ)) (fun w μ' => gw (exN E m) (G m) (kn w μ')) = some r
    rw [h5]
    have h7 : cal rt (some (w, μ')) (fun w μ' => gw (sem E) g (kn w μ')) = some r := by rw [← e]; exact h2
    unfold cal cV cI cJ cF cD cA cNl at h7 ⊢
    split at h7 <;> split at h7 <;> first | (rename_i e1; cases e1; exact h6) | cases h7
  · exact ⟨0, fun _ _ => h⟩
theorem fin_ex1 {g : St → Option Rs} {G : Nat → St → Option Rs} (hg : ∀ s, Fin_ g s G) (s : St) : Fin_ (ex1 E (sem E) g) s (fun n => ex1 E (exN E n) (G n)) := by
  intro r h
  unfold ex1 at h
  split at h
  · cases h
  · split at h
    · cases h
    · obtain ⟨h1, h2⟩ := gd_e h
      rename_i e1 _ _ _ e2
      obtain ⟨n, hn⟩ := fin_act hg h2
      refine ⟨n, fun m hm => ?_⟩
      show ex1 _ _ _ s = _
      unfold ex1
      simp only [e1, e2, h1]
      exact hn m hm
theorem fin_ex : ∀ (k : Nat) (s : St), Fin_ (ex E (sem E) k) s (fun n => ex E (exN E n) k)
  | 0, _, _, h => by cases h
  | k + 1, s, r, h => fin_ex1 (fin_ex k) s r h
theorem sem_eq (s : St) : sem E s = ex E (sem E) KK s := by
  have a : ∀ r, sem E s = some r → ex E (sem E) KK s = some r := by
    intro r h
    obtain ⟨n, hn⟩ := sem_iff.mp h
    cases n with
    | zero => cases hn
    | succ n =>
      rw [exN_s] at hn
      exact ex_mono (f := exN E n) (fun s r q => sem_of q) KK s r hn
  have b : ∀ r, ex E (sem E) KK s = some r → sem E s = some r := by
    intro r h
    obtain ⟨n, hn⟩ := fin_ex KK s r h
    exact sem_of (n := n + 1) ((exN_s n s).trans (hn n (Nat.le_refl _)))
  cases h1 : sem E s with
  | some r => exact (a r h1).symm
  | none => cases h2 : ex E (sem E) KK s with
    | none => rfl
    | some r => rw [b r h2] at h1; cases h1
end SEM
