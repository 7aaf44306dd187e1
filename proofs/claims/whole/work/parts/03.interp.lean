/-! A plain reading of the machine: states as lists and functions, a run by fuel, in passing style. -/
abbrev Lv : Type := List (Nat × Value)
abbrev Sh : Type := List (Nat × Nat)
abbrev Mr : Type := Nat → Nat → Option Nat
abbrev Mi : Type := Nat → Nat → Int32
abbrev Ml : Type := Nat → Nat → Int64
abbrev GS : Type := Nat × Nat × Sh × Mr
abbrev Ou : Type := Option Value ⊕ Nat
abbrev Rs : Type := Ou × GS × Mi × Ml × Nat
abbrev Kr : Type := Ou → GS → Mi → Ml → Nat → Option Rs
abbrev Kf : Type := Lv → List Value → GS → Mi → Ml → Nat → Kr → Option Rs
abbrev Og : Type := List (Nat × Nat × Kf)
abbrev Act : Type := (Ou × Nat) ⊕ (Nat × Lv × List Value × GS × Mi × Ml) ⊕ (Nat × Nat × List Value × List Value)
noncomputable def ftc (l : List Rw) (pc : Nat) : Option Rw := List.rec none (fun r _ ih => cond (Nat.beq r.1 pc) (some r) ih) l
noncomputable def lk (l : Lv) (k : Nat) : Option Value := List.rec none (fun r _ ih => cond (Nat.beq r.1 k) (some r.2) ih) l
noncomputable def orc (l : Og) (mi pc : Nat) : Option Kf := List.rec none (fun r _ ih => cond (Nat.beq r.1 mi && Nat.beq r.2.1 pc) (some r.2.2) ih) l
def st1 (l : Lv) (i : Nat) (v : Value) : Lv := (i, v) :: l.filter (fun q => !(q.1 == i) && !(q.1 + 1 == i && q.2.category == 2))
def st2 (l : Lv) (i : Nat) (v : Value) : Lv := (i, v) :: l.filter (fun q => !(q.1 == i) && (!(q.1 == i + 1) && !(q.1 + 1 == i && q.2.category == 2)))
def ui (M : Mi) (k j : Nat) (x : Int32) : Mi := fun a => cond (Nat.beq a k) (fun b => cond (Nat.beq b j) x (M a b)) (M a)
def ul (M : Ml) (k j : Nat) (x : Int64) : Ml := fun a => cond (Nat.beq a k) (fun b => cond (Nat.beq b j) x (M a b)) (M a)
def ur (M : Mr) (k j : Nat) (x : Option Nat) : Mr := fun a => cond (Nat.beq a k) (fun b => cond (Nat.beq b j) x (M a b)) (M a)
def ri (M : Mi) (k : Nat) (f : Nat → Int32) : Mi := fun a => cond (Nat.beq a k) f (M a)
def rl (M : Ml) (k : Nat) (f : Nat → Int64) : Ml := fun a => cond (Nat.beq a k) f (M a)
def rr (M : Mr) (k : Nat) (f : Nat → Option Nat) : Mr := fun a => cond (Nat.beq a k) f (M a)
def rfv (r : Option Nat) : Value := match r with | none => .null | some k => .ref k
def shk (sh : Sh) (k : Nat) : Nat × Nat := sh.getD k (99, 0)
def fk (ci j : Nat) : Nat := ((FK.getD ci []).getD j 9)
def rok (n : Nat) (v : Value) : Bool := match v with | .ref k => Nat.blt k n | _ => true
def csm (l : List Value) : Nat := (l.map fun v => v.category).sum
section
variable {α : Type}
def aI2 (f : Int32 → Int32 → Int32) (st : List Value) (k : List Value → α) (b : α) : α := match st with | .int y :: .int x :: r => k (.int (f x y) :: r) | _ => b
def aI2z (f : Int32 → Int32 → Int32) (st : List Value) (k : List Value → α) (b : α) : α := match st with | .int y :: .int x :: r => (if y = 0 then b else k (.int (f x y) :: r)) | _ => b
def aI1 (f : Int32 → Value) (st : List Value) (k : List Value → α) (b : α) : α := match st with | .int x :: r => k (f x :: r) | _ => b
def aL2 (f : Int64 → Int64 → Int64) (st : List Value) (k : List Value → α) (b : α) : α := match st with | .long y :: .long x :: r => k (.long (f x y) :: r) | _ => b
def aL2z (f : Int64 → Int64 → Int64) (st : List Value) (k : List Value → α) (b : α) : α := match st with | .long y :: .long x :: r => (if y = 0 then b else k (.long (f x y) :: r)) | _ => b
def aL1 (f : Int64 → Value) (st : List Value) (k : List Value → α) (b : α) : α := match st with | .long x :: r => k (f x :: r) | _ => b
def aSh (f : Int64 → Int32 → Int64) (st : List Value) (k : List Value → α) (b : α) : α := match st with | .int y :: .long x :: r => k (.long (f x y) :: r) | _ => b
def aDup (st : List Value) (k : List Value → α) (b : α) : α := match st with | v :: r => (cond (Nat.beq v.category 1) (k (v :: v :: r)) b) | _ => b
def aPop (st : List Value) (k : List Value → α) (b : α) : α := match st with | v :: r => (cond (Nat.beq v.category 1) (k r) b) | _ => b
def aDup2 (st : List Value) (k : List Value → α) (b : α) : α := match st with
  | v :: w :: r => (cond (Nat.beq v.category 1 && Nat.beq w.category 1) (k (v :: w :: v :: w :: r)) (cond (Nat.beq v.category 2) (k (v :: v :: w :: r)) b))
  | [v] => (cond (Nat.beq v.category 2) (k [v, v]) b)
  | _ => b
def aLdI (o : Option Value) (k : Value → α) (b : α) : α := match o with | some (.int x) => k (.int x) | _ => b
def aLdL (o : Option Value) (k : Value → α) (b : α) : α := match o with | some (.long x) => k (.long x) | _ => b
def aLdA (o : Option Value) (k : Value → α) (b : α) : α := match o with | some (.ref x) => k (.ref x) | _ => b
def aStI (n : Nat) (ls : Lv) (st : List Value) (k : Lv → List Value → α) (b : α) : α := match st with | .int x :: r => k (st1 ls n (.int x)) r | _ => b
def aStA (n : Nat) (ls : Lv) (st : List Value) (k : Lv → List Value → α) (b : α) : α := match st with | .ref x :: r => k (st1 ls n (.ref x)) r | _ => b
def aStL (n : Nat) (ls : Lv) (st : List Value) (k : Lv → List Value → α) (b : α) : α := match st with | .long x :: r => k (st2 ls n (.long x)) r | _ => b
def aInc (o : Option Value) (n : Nat) (c : Int) (ls : Lv) (k : Lv → α) (b : α) : α := match o with | some (.int x) => k (st1 ls n (.int (x + Int32.ofInt c))) | _ => b
def fvl (g : GS) (I : Mi) (L : Ml) (kd a j : Nat) : Value := match kd with | 0 => .int (I a j) | 1 => .int (I a j) | 2 => .long (L a j) | _ => rfv (g.2.2.2 a j)
def aGet (ci j : Nat) (st : List Value) (g : GS) (I : Mi) (L : Ml) (k : List Value → α) (b : α) : α := match st with
  | .ref a :: r => (cond (Nat.beq (shk g.2.2.1 a).1 ci && Nat.blt a g.1 && Nat.blt 0 a) (k (fvl g I L (fk ci j) a j :: r)) b)
  | _ => b
def aPut (ci j : Nat) (st : List Value) (g : GS) (I : Mi) (L : Ml) (k : List Value → GS → Mi → Ml → α) (b : α) : α := match st with
  | .int x :: .ref a :: r => (cond (Nat.beq (shk g.2.2.1 a).1 ci && Nat.blt a g.1 && Nat.blt 0 a) (match fk ci j with | 0 => k r g (ui I a j x) L | 1 => (if x = 0 then k r g (ui I a j 0) L else if x = 1 then k r g (ui I a j 1) L else b) | _ => b) b)
  | .long x :: .ref a :: r => (cond (Nat.beq (shk g.2.2.1 a).1 ci && Nat.blt a g.1 && Nat.blt 0 a && Nat.beq (fk ci j) 2) (k r g I (ul L a j x)) b)
  | .ref v :: .ref a :: r => (cond (Nat.beq (shk g.2.2.1 a).1 ci && Nat.blt a g.1 && Nat.blt 0 a && Nat.beq (fk ci j) 3 && Nat.blt v g.1) (k r (g.1, g.2.1, g.2.2.1, ur g.2.2.2 a j (some v)) I L) b)
  | _ => b
def aLen (st : List Value) (g : GS) (k : List Value → α) (b : α) : α := match st with
  | .ref a :: r => (cond (Nat.ble 20 (shk g.2.2.1 a).1 && Nat.ble (shk g.2.2.1 a).1 22 && Nat.blt a g.1) (k (.int (Int32.ofNat (shk g.2.2.1 a).2) :: r)) b)
  | _ => b
def inb (i : Int32) (n : Nat) (x b : α) : α := if i < 0 then b else if i.toNatClampNeg < n then x else b
def aIald (st : List Value) (g : GS) (I : Mi) (k : List Value → α) (b : α) : α := match st with
  | .int i :: .ref a :: r => (cond (Nat.beq (shk g.2.2.1 a).1 20 && Nat.blt a g.1) (inb i (shk g.2.2.1 a).2 (k (.int (I a i.toNatClampNeg) :: r)) b) b)
  | _ => b
def aLald (st : List Value) (g : GS) (L : Ml) (k : List Value → α) (b : α) : α := match st with
  | .int i :: .ref a :: r => (cond (Nat.beq (shk g.2.2.1 a).1 21 && Nat.blt a g.1 && Nat.blt 0 a) (inb i (shk g.2.2.1 a).2 (k (.long (L a i.toNatClampNeg) :: r)) b) b)
  | _ => b
def aAald (st : List Value) (g : GS) (k : List Value → α) (b : α) : α := match st with
  | .int i :: .ref a :: r => (cond (Nat.beq (shk g.2.2.1 a).1 22 && Nat.blt a g.1 && Nat.blt 0 a) (inb i (shk g.2.2.1 a).2 (k (rfv (g.2.2.2 a i.toNatClampNeg) :: r)) b) b)
  | _ => b
def aIast (st : List Value) (g : GS) (I : Mi) (k : List Value → Mi → α) (b : α) : α := match st with
  | .int x :: .int i :: .ref a :: r => (cond (Nat.beq (shk g.2.2.1 a).1 20 && Nat.blt a g.1 && Nat.blt 0 a) (inb i (shk g.2.2.1 a).2 (k r (ui I a i.toNatClampNeg x)) b) b)
  | _ => b
def aLast (st : List Value) (g : GS) (L : Ml) (k : List Value → Ml → α) (b : α) : α := match st with
  | .long x :: .int i :: .ref a :: r => (cond (Nat.beq (shk g.2.2.1 a).1 21 && Nat.blt a g.1 && Nat.blt 0 a) (inb i (shk g.2.2.1 a).2 (k r (ul L a i.toNatClampNeg x)) b) b)
  | _ => b
def aAast (st : List Value) (g : GS) (k : List Value → GS → α) (b : α) : α := match st with
  | .ref v :: .int i :: .ref a :: r => (cond (Nat.beq (shk g.2.2.1 a).1 22 && Nat.blt a g.1 && Nat.blt 0 a && Nat.beq (shk g.2.2.1 v).1 7 && Nat.blt v g.1 && Nat.blt 0 v) (inb i (shk g.2.2.1 a).2 (k r (g.1, g.2.1, g.2.2.1, ur g.2.2.2 a i.toNatClampNeg (some v))) b) b)
  | _ => b
def aAll (n : Nat) (l : List Value) : Bool := l.all (rok n)
def gnw (kd len : Nat) (g : GS) : GS := (g.1 + 1, g.2.1 + len, g.2.2.1 ++ [(kd, len)], rr g.2.2.2 g.1 (fun _ => none))
def aNew (ci len : Nat) (ls : Lv) (st : List Value) (g : GS) (I : Mi) (L : Ml) (k : List Value → GS → Mi → Ml → α) (b : α) : α :=
  cond (Nat.blt ci 13 && aAll g.1 st && aAll g.1 (ls.map Prod.snd)) (k (.ref g.1 :: st) (gnw ci len g) (ri I g.1 (fun _ => 0)) (rl L g.1 (fun _ => 0))) b
def aNwa (kd : Nat) (ls : Lv) (st : List Value) (g : GS) (I : Mi) (L : Ml) (k : List Value → GS → Mi → Ml → α) (b : α) : α := match st with
  | .int n :: r => (cond (aAll g.1 st && aAll g.1 (ls.map Prod.snd)) (if n < 0 then b else if 1000 < n then b else k (.ref g.1 :: r) (gnw kd n.toNatClampNeg g) (ri I g.1 (fun _ => 0)) (rl L g.1 (fun _ => 0))) b)
  | _ => b
def aOin (st : List Value) (k : List Value → α) (b : α) : α := match st with | .ref _ :: r => (cond (Nat.ble (csm r) 8) (k r) b) | _ => b
def aCpy (st : List Value) (g : GS) (I : Mi) (k : List Value → Mi → α) (b : α) : α := match st with
  | [.int n, .int dp, .ref a1, .int sp, .ref a0] => (cond (Nat.beq (shk g.2.2.1 a0).1 20 && Nat.blt a0 g.1 && Nat.blt 0 a0 && Nat.beq (shk g.2.2.1 a1).1 20 && Nat.blt a1 g.1 && Nat.blt 0 a1)
      (if n < 0 then b else if sp < 0 then b else if dp < 0 then b else if sp.toNatClampNeg + n.toNatClampNeg ≤ (shk g.2.2.1 a0).2 then (if dp.toNatClampNeg + n.toNatClampNeg ≤ (shk g.2.2.1 a1).2 then k [] (ri I a1 (va_cpy (I a0) (I a1) sp.toNatClampNeg dp.toNatClampNeg n.toNatClampNeg)) else b) else b) b)
  | _ => b
def bri (c : Jvm.ClassFile.Cond) (x y : Int32) (t f : α) : α := match c with
  | .eq => if x = y then t else f
  | .ne => if x = y then f else t
  | .lt => if x < y then t else f
  | .ge => if x < y then f else t
  | .gt => if y < x then t else f
  | .le => if y < x then f else t
def brl (c : Jvm.ClassFile.Cond) (x y : Int64) (t f : α) : α := match c with
  | .eq => if x = y then t else f
  | .ne => if x = y then f else t
  | .lt => if x < y then t else f
  | .ge => if x < y then f else t
  | .gt => if y < x then t else f
  | .le => if y < x then f else t
def aBr2 (c : Jvm.ClassFile.Cond) (st : List Value) (t f : List Value → α) (b : α) : α := match st with | .int y :: .int x :: r => bri c x y (t r) (f r) | _ => b
def aBr1 (c : Jvm.ClassFile.Cond) (st : List Value) (t f : List Value → α) (b : α) : α := match st with | .int x :: r => bri c x 0 (t r) (f r) | _ => b
def aBrL (nx : Option Rw) (st : List Value) (t : Nat → List Value → α) (f : List Value → α) (b : α) : α := match nx with
  | some (_, .ifCond c _, _, e1, _, _) => (match st with | .long y :: .long x :: r => brl c x y (t e1 r) (f r) | _ => b)
  | _ => b
noncomputable def swt (x : Int32) (offs : List Int) : Int → (Int → α) → α → α :=
  List.rec (fun _ _ d => d) (fun o _ ih i k d => if x = Int32.ofInt i then k o else ih (i + 1) k d) offs
noncomputable def swl (x : Int32) (ps : List (Int × Int)) : (Int → α) → α → α :=
  List.rec (fun _ d => d) (fun o _ ih k d => if x = Int32.ofInt o.1 then k o.2 else ih k d) ps
noncomputable def aTsw (lo : Int) (offs : List Int) (st : List Value) (k : Int → List Value → α) (d : List Value → α) (b : α) : α := match st with | .int x :: r => swt x offs lo (fun o => k o r) (d r) | _ => b
noncomputable def aLsw (ps : List (Int × Int)) (st : List Value) (k : Int → List Value → α) (d : List Value → α) (b : α) : α := match st with | .int x :: r => swl x ps (fun o => k o r) (d r) | _ => b
def aRtI (bo : Nat) (st : List Value) (k : Int32 → α) (b : α) : α := match st with | [.int x] => (cond (Nat.beq bo 0) (k x) (if x = 0 then k 0 else if x = 1 then k 1 else b)) | _ => b
def aRtL (st : List Value) (k : Int64 → α) (b : α) : α := match st with | [.long x] => k x | _ => b
def aRtV (st : List Value) (k : α) (b : α) : α := match st with | [] => k | _ => b
def aCal (m2 k mx : Nat) (st : List Value) (c : List Value → List Value → α) (b : α) : α := cond (Nat.ble (csm (st.drop k)) 8 && Nat.beq (st.take k).length k && Nat.blt m2 420 && Nat.ble (csm (st.take k)) mx) (c (st.take k).reverse (st.drop k)) b
def rcv (g : GS) (ci : Nat) (l : List Value) : Bool := match l with | .ref a :: _ => Nat.beq (shk g.2.2.1 a).1 ci && Nat.blt a g.1 && Nat.blt 0 a | _ => false
end
/-- one instruction: what it does -/
noncomputable def act {α : Type} (cd : List Rw) (pc : Nat) (ins : Instr) (len e1 e2 : Nat) (e3 : Int) (ls : Lv) (st : List Value) (g : GS) (I : Mi) (L : Ml)
    (fin : Ou → Nat → α) (nxt : Nat → Lv → List Value → GS → Mi → Ml → α) (cal : Nat → Nat → List Value → List Value → α) (b : α) : α :=
  match ins with
  | .iload_n n => aLdI (lk ls n) (fun v => nxt (pc + len) ls (v :: st) g I L) b
  | .lload_n n => aLdL (lk ls n) (fun v => nxt (pc + len) ls (v :: st) g I L) b
  | .aload_n n => aLdA (lk ls n) (fun v => nxt (pc + len) ls (v :: st) g I L) b
  | .iload n => aLdI (lk ls n) (fun v => nxt (pc + len) ls (v :: st) g I L) b
  | .lload n => aLdL (lk ls n) (fun v => nxt (pc + len) ls (v :: st) g I L) b
  | .aload n => aLdA (lk ls n) (fun v => nxt (pc + len) ls (v :: st) g I L) b
  | .istore_n n => aStI n ls st (fun ls st => nxt (pc + len) ls st g I L) b
  | .lstore_n n => aStL n ls st (fun ls st => nxt (pc + len) ls st g I L) b
  | .astore_n n => aStA n ls st (fun ls st => nxt (pc + len) ls st g I L) b
  | .istore n => aStI n ls st (fun ls st => nxt (pc + len) ls st g I L) b
  | .lstore n => aStL n ls st (fun ls st => nxt (pc + len) ls st g I L) b
  | .astore n => aStA n ls st (fun ls st => nxt (pc + len) ls st g I L) b
  | .iinc n c => aInc (lk ls n) n c ls (fun ls => nxt (pc + len) ls st g I L) b
  | .iconst n => nxt (pc + len) ls (.int (Int32.ofInt n) :: st) g I L
  | .lconst n => nxt (pc + len) ls (.long (Int64.ofNat (n : Nat)) :: st) g I L
  | .bipush n => nxt (pc + len) ls (.int (Int8.ofInt n).toInt32 :: st) g I L
  | .sipush n => nxt (pc + len) ls (.int (Int16.ofInt n).toInt32 :: st) g I L
  | .ldc2_w _ => nxt (pc + len) ls (.long (Int64.ofInt e3) :: st) g I L
  | .iadd => aI2 (fun x y => x + y) st (fun st => nxt (pc + len) ls st g I L) b
  | .isub => aI2 (fun x y => x - y) st (fun st => nxt (pc + len) ls st g I L) b
  | .imul => aI2 (fun x y => x * y) st (fun st => nxt (pc + len) ls st g I L) b
  | .idiv => aI2z (fun x y => x / y) st (fun st => nxt (pc + len) ls st g I L) b
  | .irem => aI2z (fun x y => x - x / y * y) st (fun st => nxt (pc + len) ls st g I L) b
  | .ineg => aI1 (fun x => .int (-x)) st (fun st => nxt (pc + len) ls st g I L) b
  | .ishl => aI2 (fun x y => x <<< (y &&& 31)) st (fun st => nxt (pc + len) ls st g I L) b
  | .ishr => aI2 (fun x y => x >>> (y &&& 31)) st (fun st => nxt (pc + len) ls st g I L) b
  | .iand => aI2 (fun x y => x &&& y) st (fun st => nxt (pc + len) ls st g I L) b
  | .ior => aI2 (fun x y => x ||| y) st (fun st => nxt (pc + len) ls st g I L) b
  | .ladd => aL2 (fun x y => x + y) st (fun st => nxt (pc + len) ls st g I L) b
  | .lsub => aL2 (fun x y => x - y) st (fun st => nxt (pc + len) ls st g I L) b
  | .lmul => aL2 (fun x y => x * y) st (fun st => nxt (pc + len) ls st g I L) b
  | .ldiv => aL2z (fun x y => x / y) st (fun st => nxt (pc + len) ls st g I L) b
  | .lrem => aL2z (fun x y => x - x / y * y) st (fun st => nxt (pc + len) ls st g I L) b
  | .lneg => aL1 (fun x => .long (-x)) st (fun st => nxt (pc + len) ls st g I L) b
  | .land => aL2 (fun x y => x &&& y) st (fun st => nxt (pc + len) ls st g I L) b
  | .lxor => aL2 (fun x y => x ^^^ y) st (fun st => nxt (pc + len) ls st g I L) b
  | .lshl => aSh (fun x y => x <<< (y.toInt64 &&& 63)) st (fun st => nxt (pc + len) ls st g I L) b
  | .lshr => aSh (fun x y => x >>> (y.toInt64 &&& 63)) st (fun st => nxt (pc + len) ls st g I L) b
  | .i2l => aI1 (fun x => .long x.toInt64) st (fun st => nxt (pc + len) ls st g I L) b
  | .l2i => aL1 (fun x => .int x.toInt32) st (fun st => nxt (pc + len) ls st g I L) b
  | .dup => aDup st (fun st => nxt (pc + len) ls st g I L) b
  | .pop => aPop st (fun st => nxt (pc + len) ls st g I L) b
  | .dup2 => aDup2 st (fun st => nxt (pc + len) ls st g I L) b
  | .getfield _ => aGet e1 e2 st g I L (fun st => nxt (pc + len) ls st g I L) b
  | .putfield _ => aPut e1 e2 st g I L (fun st g I L => nxt (pc + len) ls st g I L) b
  | .arraylength => aLen st g (fun st => nxt (pc + len) ls st g I L) b
  | .iaload => aIald st g I (fun st => nxt (pc + len) ls st g I L) b
  | .laload => aLald st g L (fun st => nxt (pc + len) ls st g I L) b
  | .aaload => aAald st g (fun st => nxt (pc + len) ls st g I L) b
  | .iastore => aIast st g I (fun st I => nxt (pc + len) ls st g I L) b
  | .lastore => aLast st g L (fun st L => nxt (pc + len) ls st g I L) b
  | .aastore => aAast st g (fun st g => nxt (pc + len) ls st g I L) b
  | .goto _ => nxt e1 ls st g I L
  | .if_icmp c _ => aBr2 c st (fun r => nxt e1 ls r g I L) (fun r => nxt (pc + 3) ls r g I L) b
  | .ifCond c _ => aBr1 c st (fun r => nxt e1 ls r g I L) (fun r => nxt (pc + 3) ls r g I L) b
  | .lcmp => aBrL (ftc cd (pc + 1)) st (fun t r => nxt t ls r g I L) (fun r => nxt (pc + 4) ls r g I L) b
  | .tableswitch d lo _ offs => aTsw lo offs.toList st (fun o r => nxt ((pc : Int) + o).toNat ls r g I L) (fun r => nxt ((pc : Int) + d).toNat ls r g I L) b
  | .lookupswitch d ps => aLsw ps.toList st (fun o r => nxt ((pc : Int) + o).toNat ls r g I L) (fun r => nxt ((pc : Int) + d).toNat ls r g I L) b
  | .ireturn => aRtI e1 st (fun x => fin (.inl (some (.int x))) 0) b
  | .lreturn => aRtL st (fun x => fin (.inl (some (.long x))) 0) b
  | .return_ => aRtV st (fin (.inl none) 0) b
  | .new _ => cond (Nat.ble 101 e1) (aRtV st (fin (.inr e1) 1) b) (aNew e1 e2 ls st g I L (fun st g I L => nxt (pc + len) ls st g I L) b)
  | .newarray _ => aNwa e1 ls st g I L (fun st g I L => nxt (pc + len) ls st g I L) b
  | .anewarray _ => aNwa 22 ls st g I L (fun st g I L => nxt (pc + len) ls st g I L) b
  | .invokevirtual _ => aCal e1 (e2 / 32 % 32 + 1) (e2 / 1024) st (fun a r => cond (rcv g (e2 % 32) a) (cal e1 0 a r) b) b
  | .invokestatic _ => cond (Nat.beq e1 1001) (aCpy st g I (fun st I => nxt (pc + len) ls st g I L) b) (aCal e1 (e2 % 1024) (e2 / 1024) st (fun a r => cal e1 0 a r) b)
  | .invokespecial _ => cond (Nat.beq e1 1000) (aOin st (fun st => nxt (pc + len) ls st g I L) b) (aCal e1 (e2 / 32 % 32 + 1) (e2 / 1024) st (fun a r => cond (rcv g (e2 % 32) a && aAll g.1 r && aAll g.1 (ls.map Prod.snd)) (cal e1 1 a r) b) b)
  | _ => b
noncomputable def kcl (f : Nat → Kf) (mi pc sp : Nat) (ls : Lv) (n : Nat) (rest : List Value) (K : Kr) : Kr := fun o g I L e => match o with
  | .inl v => cond (Nat.beq sp 1 || Nat.beq g.1 n) (f (pc + 3) ls (v.toList ++ rest) g I L e K) none
  | .inr x => match hnd mi x with | some (some c) => K (.inl (some (.int c))) g I L e | some none => none | none => K (.inr x) g I L e
noncomputable def body (f : Nat → List Rw → Nat → Kf) (mi : Nat) (cd : List Rw) (pc : Nat) : Kf := fun ls st g I L e K =>
  match ftc cd pc with
  | none => none
  | some (_, ins, len, e1, e2, e3) => act cd pc ins len e1 e2 e3 ls st g I L (fun o x => K o g I L (e + x)) (fun pc ls st g I L => f mi cd pc ls st g I L e K)
      (fun m2 sp a r => f m2 (PT m2) 0 (lv_args 0 a) [] g I L e (kcl (f mi cd) mi pc sp ls g.1 r K)) none
noncomputable def run (O : Og) (n : Nat) : Nat → List Rw → Nat → Kf :=
  Nat.rec (fun _ _ _ _ _ _ _ _ _ _ => none) (fun _ f mi cd pc ls st g I L e K => match orc O mi pc with | some G => G ls st g I L e K | none => body f mi cd pc ls st g I L e K) n
