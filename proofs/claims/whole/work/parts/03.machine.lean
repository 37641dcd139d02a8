/-! ===== am: a small machine of our own. Heap: a function of addresses; top address; slots made so far ===== -/
abbrev AC : Type := (Nat × (Nat × (Nat → Int32))) ⊕ ((Nat × (Nat × (Nat → Option Nat))) ⊕ (Nat × List Value))
abbrev AH : Type := (Nat → Option AC) × (Nat × Nat)
abbrev RV : Type := Option Value × AH
abbrev aI (t n : Nat) (f : Nat → Int32) : AC := .inl (t, (n, f))
abbrev aQ (t n : Nat) (g : Nat → Option Nat) : AC := .inr (.inl (t, (n, g)))
abbrev oB (ci : Nat) (fs : List Value) : AC := .inr (.inr (ci, fs))
def hS (h : AH) (a : Nat) (e : AC) : AH := (fun q => if q = a then some e else h.1 q, h.2)
def hN (h : AH) (e : AC) (n : Nat) : AH := (fun q => if q = h.2.1 then some e else h.1 q, (h.2.1 + 1, h.2.2 + n))
/-- objects' fields when new -/
def dfl (ci : Nat) : List Value := match ci with
  | 0 => [.null, .null, .null, .int 0, .int 0, .int 0, .null, .int 0]
  | 1 => [.null, .int 0]
  | 2 => [.null, .null, .int 0]
  | 3 => [.int 0, .null, .null, .int 0, .int 0]
  | 4 => [.null, .int 0, .int 0]
  | 5 => [.null, .null, .null, .null, .int 0, .int 0, .int 0, .int 0, .null, .null, .null, .null, .null, .null, .null, .null, .null, .null]
  | 6 => [.null, .null, .int 0, .int 0]
  | 7 => [.null, .null, .int 0, .null, .int 0, .null, .null, .null, .null, .null, .null, .int 0, .int 0, .int 0, .int 0, .int 0]
  | 8 => [.int 0, .null, .null, .int 0, .null, .null, .null, .null, .null, .null, .null, .null, .int 0, .null, .null, .null, .int 0, .null, .null, .null, .null, .null, .int 0, .int 0, .int 0, .null, .null, .null, .int 0, .int 0, .null, .int 0, .null, .null, .null, .null, .null, .null, .null, .null, .null, .null]
  | _ => []
/-- the class of an array of references, by its tag -/
def qcl (t : Nat) : Nat := match t with
  | 2 => 0
  | 3 => 6
  | _ => 4
def pI (st : List Value) (f : Int32 → List Value → Option RV) : Option RV := match st with
  | .int x :: r => f x r
  | _ => none
def pL (st : List Value) (f : Int64 → List Value → Option RV) : Option RV := match st with
  | .long x :: r => f x r
  | _ => none
def pR (st : List Value) (f : Nat → List Value → Option RV) : Option RV := match st with
  | .ref x :: r => f x r
  | _ => none
/-- a reference or null -/
def pQ (st : List Value) (fn : List Value → Option RV) (fr : Nat → List Value → Option RV) : Option RV := match st with
  | .ref x :: r => fr x r
  | .null :: r => fn r
  | _ => none
def gLI (L : List (Option Value)) (i : Nat) (f : Int32 → Option RV) : Option RV := match L[i]? with
  | some (some (.int x)) => f x
  | _ => none
def gLL (L : List (Option Value)) (i : Nat) (f : Int64 → Option RV) : Option RV := match L[i]? with
  | some (some (.long x)) => f x
  | _ => none
def gLQ (L : List (Option Value)) (i : Nat) (fn : Option RV) (fr : Nat → Option RV) : Option RV := match L[i]? with
  | some (some (.ref x)) => fr x
  | some (some .null) => fn
  | _ => none
/-- no long stands just ahead -/
def noL (L : List (Option Value)) (i : Nat) : Bool := match i with
  | 0 => true
  | j + 1 => match L[j]? with
    | some (some (.long _)) => false
    | some (some (.double _)) => false
    | _ => true
def sL (L : List (Option Value)) (i : Nat) (v : Value) (f : List (Option Value) → Option RV) : Option RV :=
  bif Nat.blt i L.length && noL L i then f (L.set i (some v)) else none
def sLL (L : List (Option Value)) (i : Nat) (v : Value) (f : List (Option Value) → Option RV) : Option RV :=
  bif Nat.blt (i + 1) L.length && noL L i then f ((L.set i (some v)).set (i + 1) none) else none
def jmp (pc : Nat) (off : Int) (f : Nat → Option RV) : Option RV := match (pc : Int) + off with
  | .ofNat t => f t
  | .negSucc _ => none
def gfI (h : AH) (a ci k : Nat) (f : Int32 → Option RV) : Option RV := match h.1 a with
  | some (.inr (.inr (c, fs))) => if c = ci then (match fs[k]? with
    | some (.int x) => f x
    | _ => none) else none
  | _ => none
def gfQ (h : AH) (a ci k : Nat) (fn : Option RV) (fr : Nat → Option RV) : Option RV := match h.1 a with
  | some (.inr (.inr (c, fs))) => if c = ci then (match fs[k]? with
    | some (.ref x) => fr x
    | some .null => fn
    | _ => none) else none
  | _ => none
def pfV (h : AH) (a ci k : Nat) (v : Value) (f : AH → Option RV) : Option RV := match h.1 a with
  | some (.inr (.inr (c, fs))) => if c = ci ∧ k < fs.length then f (hS h a (oB c (fs.set k v))) else none
  | _ => none
def isZ (x : Int32) (f : Option RV) : Option RV := if x = 0 ∨ x = 1 then f else none
def ldI (h : AH) (a : Nat) (i : Int32) (f : Int32 → Option RV) : Option RV := match h.1 a with
  | some (.inl (t, (n, g))) => if t = 1 ∨ (i < 0 ∨ n ≤ i.toNatClampNeg) then none else f (g i.toNatClampNeg)
  | _ => none
def ldZ (h : AH) (a : Nat) (i : Int32) (f : Int32 → Option RV) : Option RV := match h.1 a with
  | some (.inl (t, (n, g))) => if ¬ t = 1 ∨ (i < 0 ∨ n ≤ i.toNatClampNeg) then none else f (g i.toNatClampNeg)
  | _ => none
def ldQ (h : AH) (a : Nat) (i : Int32) (fn : Option RV) (fr : Nat → Option RV) : Option RV := match h.1 a with
  | some (.inr (.inl (_, (n, g)))) => if i < 0 ∨ n ≤ i.toNatClampNeg then none else (match g i.toNatClampNeg with
    | some b => fr b
    | none => fn)
  | _ => none
def stI (h : AH) (a : Nat) (i x : Int32) (f : AH → Option RV) : Option RV := match h.1 a with
  | some (.inl (t, (n, g))) => if ¬ t = 0 ∨ (i < 0 ∨ n ≤ i.toNatClampNeg) then none else f (hS h a (aI t n (upd g i.toNatClampNeg x)))
  | _ => none
def stZ (h : AH) (a : Nat) (i x : Int32) (f : AH → Option RV) : Option RV := match h.1 a with
  | some (.inl (t, (n, g))) => if ¬ t = 1 ∨ (i < 0 ∨ n ≤ i.toNatClampNeg) then none else f (hS h a (aI t n (upd g i.toNatClampNeg (vp_nar .boolean x))))
  | _ => none
def isO (h : AH) (a ci : Nat) (f : Option RV) : Option RV := match h.1 a with
  | some (.inr (.inr (c, _))) => if c = ci then f else none
  | _ => none
def stQ (h : AH) (a : Nat) (i : Int32) (v : Nat) (f : AH → Option RV) : Option RV := match h.1 a with
  | some (.inr (.inl (t, (n, g)))) => if i < 0 ∨ n ≤ i.toNatClampNeg then none else isO h v (qcl t) (f (hS h a (aQ t n (va_up g i.toNatClampNeg (some v)))))
  | _ => none
def lnA (h : AH) (a : Nat) (f : Int32 → Option RV) : Option RV := match h.1 a with
  | some (.inl (_, (n, _))) => f (Int32.ofNat n)
  | some (.inr (.inl (_, (n, _)))) => f (Int32.ofNat n)
  | _ => none
def cpA (h : AH) (s : Nat) (sp : Int32) (d : Nat) (dp n : Int32) (f : AH → Option RV) : Option RV := match h.1 s with
  | some (.inl (t0, (n0, g0))) => (match h.1 d with
    | some (.inl (t1, (n1, g1))) => if s = d ∨ ¬ t0 = 0 ∨ ¬ t1 = 0 ∨ sp < 0 ∨ dp < 0 ∨ n < 0 ∨ n0 < sp.toNatClampNeg + n.toNatClampNeg ∨ n1 < dp.toNatClampNeg + n.toNatClampNeg then none
        else f (hS h d (aI t1 n1 (va_cpy g0 g1 sp.toNatClampNeg dp.toNatClampNeg n.toNatClampNeg)))
    | _ => none)
  | _ => none
/-- a result that is void, an int, a reference or null -/
def rV (q : RV) (f : AH → Option RV) : Option RV := match q.1 with
  | none => f q.2
  | _ => none
def rI (q : RV) (f : Int32 → AH → Option RV) : Option RV := match q.1 with
  | some (.int x) => f x q.2
  | _ => none
def rQ (q : RV) (fn : AH → Option RV) (fr : Nat → AH → Option RV) : Option RV := match q.1 with
  | some (.ref x) => fr x q.2
  | some .null => fn q.2
  | _ => none
def roomOk (rest : List Value) : Bool := Nat.ble (rest.map fun v => v.category).sum 8
abbrev Kt : Type := Nat → List (Option Value) → List Value → AH → Option RV
/-- what comes behind a call -/
def aft (k : Nat) (q : RV) (pc : Nat) (L : List (Option Value)) (rest : List Value) (K : Kt) : Option RV := match k with
  | 0 => rV q fun h => K (pc + 3) L rest h
  | 2 => rQ q (fun h => K (pc + 3) L (.null :: rest) h) (fun a h => K (pc + 3) L (.ref a :: rest) h)
  | _ => rI q fun x h => K (pc + 3) L (.int x :: rest) h
def cmpC (c : ClassFile.Cond) (x y : Int32) (t f : Option RV) : Option RV := match c with
  | .eq => if x = y then t else f
  | .ne => if x = y then f else t
  | .lt => if x < y then t else f
  | .ge => if y ≤ x then t else f
  | .gt => if y < x then t else f
  | .le => if x ≤ y then t else f
def swt (x : Int32) (lo : Int) (offs : List Int) (f : Int → Option RV) (dflt : Option RV) : Option RV := match offs with
  | [] => dflt
  | o :: r => if x.toInt = lo then f o else swt x (lo + 1) r f dflt
abbrev Ct : Type := Nat → List Value → AH → Option RV
def clsOf (y : Nat) : Nat := match mtab[y]? with
  | some q => q.2.1
  | none => 99
/-- one instruction -/
def stp (c : Ct) (dd : Bool) (rt : Option FieldType) (i : Instr) (r : Nat × (Nat × Nat)) (pc : Nat) (L : List (Option Value)) (st : List Value) (h : AH) (K : Kt) : Option RV := match i with
  | .aconst_null => K (pc + 1) L (.null :: st) h
  | .iconst n => K (pc + 1) L (.int (Int32.ofInt n) :: st) h
  | .bipush n => K (pc + 2) L (.int (Int8.ofInt n).toInt32 :: st) h
  | .sipush n => K (pc + 3) L (.int (Int16.ofInt n).toInt32 :: st) h
  | .lconst n => K (pc + 1) L (.long (Int64.ofNat n.val) :: st) h
  | .ldc2_w _ => K (pc + 3) L (.long (Int64.ofNat r.1) :: st) h
  | .iload_n k => gLI L k.val fun x => K (pc + 1) L (.int x :: st) h
  | .iload k => gLI L k fun x => K (pc + 2) L (.int x :: st) h
  | .lload_n k => gLL L k.val fun x => K (pc + 1) L (.long x :: st) h
  | .lload k => gLL L k fun x => K (pc + 2) L (.long x :: st) h
  | .aload_n k => gLQ L k.val (K (pc + 1) L (.null :: st) h) fun x => K (pc + 1) L (.ref x :: st) h
  | .aload k => gLQ L k (K (pc + 2) L (.null :: st) h) fun x => K (pc + 2) L (.ref x :: st) h
  | .istore_n k => pI st fun x r => sL L k.val (.int x) fun L => K (pc + 1) L r h
  | .istore k => pI st fun x r => sL L k (.int x) fun L => K (pc + 2) L r h
  | .lstore k => pL st fun x r => sLL L k (.long x) fun L => K (pc + 2) L r h
  | .astore_n k => pQ st (fun r => sL L k.val .null fun L => K (pc + 1) L r h) fun x r => sL L k.val (.ref x) fun L => K (pc + 1) L r h
  | .astore k => pQ st (fun r => sL L k .null fun L => K (pc + 2) L r h) fun x r => sL L k (.ref x) fun L => K (pc + 2) L r h
  | .iinc k n => gLI L k fun x => sL L k (.int (x + Int32.ofInt n)) fun L => K (pc + 3) L st h
  | .iadd => pI st fun y r => pI r fun x r => K (pc + 1) L (.int (x + y) :: r) h
  | .isub => pI st fun y r => pI r fun x r => K (pc + 1) L (.int (x - y) :: r) h
  | .imul => pI st fun y r => pI r fun x r => K (pc + 1) L (.int (x * y) :: r) h
  | .iand => pI st fun y r => pI r fun x r => K (pc + 1) L (.int (x &&& y) :: r) h
  | .ior => pI st fun y r => pI r fun x r => K (pc + 1) L (.int (x ||| y) :: r) h
  | .ishl => pI st fun y r => pI r fun x r => K (pc + 1) L (.int (x <<< (y &&& 31)) :: r) h
  | .ishr => pI st fun y r => pI r fun x r => K (pc + 1) L (.int (x >>> (y &&& 31)) :: r) h
  | .idiv => pI st fun y r => pI r fun x r => if y = 0 then none else K (pc + 1) L (.int (x / y) :: r) h
  | .irem => pI st fun y r => pI r fun x r => if y = 0 then none else K (pc + 1) L (.int (x - x / y * y) :: r) h
  | .i2l => pI st fun x r => K (pc + 1) L (.long x.toInt64 :: r) h
  | .l2i => pL st fun x r => K (pc + 1) L (.int x.toInt32 :: r) h
  | .i2b => pI st fun x r => K (pc + 1) L (.int x.toInt8.toInt32 :: r) h
  | .i2s => pI st fun x r => K (pc + 1) L (.int x.toInt16.toInt32 :: r) h
  | .ladd => pL st fun y r => pL r fun x r => K (pc + 1) L (.long (x + y) :: r) h
  | .lcmp => pL st fun y r => pL r fun x r => K (pc + 1) L (.int (lg_cmp x y) :: r) h
  | .dup => pQ st (fun _ => none) fun x r => K (pc + 1) L (.ref x :: .ref x :: r) h
  | .dup2 => pI st fun x r => pR r fun a r => K (pc + 1) L (.int x :: .ref a :: .int x :: .ref a :: r) h
  | .pop => pI st fun _ r => K (pc + 1) L r h
  | .goto off => jmp pc off fun t => K t L st h
  | .if_icmp cd off => pI st fun y r => pI r fun x r => jmp pc off fun t => cmpC cd x y (K t L r h) (K (pc + 3) L r h)
  | .ifCond cd off => pI st fun x r => jmp pc off fun t => cmpC cd x 0 (K t L r h) (K (pc + 3) L r h)
  | .ifnull off => jmp pc off fun t => pQ st (fun r => K t L r h) fun _ r => K (pc + 3) L r h
  | .ifnonnull off => jmp pc off fun t => pQ st (fun r => K (pc + 3) L r h) fun _ r => K t L r h
  | .tableswitch d lo hi offs => pI st fun x s => bif (hi - lo + 1 == (offs.toList.length : Int)) then swt x lo offs.toList (fun o => jmp pc o fun t => K t L s h) (jmp pc d fun t => K t L s h) else none
  | .getfield _ => pR st fun a s => (match r.2.2 with
    | 1 => gfQ h a r.1 r.2.1 none fun b => K (pc + 3) L (.ref b :: s) h
    | 4 => gfQ h a r.1 r.2.1 (K (pc + 3) L (.null :: s) h) fun b => K (pc + 3) L (.ref b :: s) h
    | _ => gfI h a r.1 r.2.1 fun x => K (pc + 3) L (.int x :: s) h)
  | .putfield _ => (match r.2.2 with
    | 1 => pQ st (fun s => pR s fun a s => pfV h a r.1 r.2.1 .null fun h => K (pc + 3) L s h) fun b s => pR s fun a s => pfV h a r.1 r.2.1 (.ref b) fun h => K (pc + 3) L s h
    | 0 => pI st fun x s => pR s fun a s => pfV h a r.1 r.2.1 (.int x) fun h => K (pc + 3) L s h
    | _ => pI st fun x s => pR s fun a s => isZ x (pfV h a r.1 r.2.1 (.int x) fun h => K (pc + 3) L s h))
  | .iaload => pI st fun i s => pR s fun a s => ldI h a i fun x => K (pc + 1) L (.int x :: s) h
  | .baload => pI st fun i s => pR s fun a s => ldZ h a i fun x => K (pc + 1) L (.int x :: s) h
  | .aaload => pI st fun i s => pR s fun a s => ldQ h a i none fun b => K (pc + 1) L (.ref b :: s) h
  | .iastore => pI st fun x s => pI s fun i s => pR s fun a s => stI h a i x fun h => K (pc + 1) L s h
  | .bastore => pI st fun x s => pI s fun i s => pR s fun a s => stZ h a i x fun h => K (pc + 1) L s h
  | .aastore => pR st fun v s => pI s fun i s => pR s fun a s => stQ h a i v fun h => K (pc + 1) L s h
  | .arraylength => pR st fun a s => lnA h a fun n => K (pc + 1) L (.int n :: s) h
  | .new _ => K (pc + 3) L (.ref h.2.1 :: st) (hN h (oB r.1 (dfl r.1)) (dfl r.1).length)
  | .newarray ty => pI st fun n s => if n < 0 ∨ 100000 < n.toNatClampNeg then none else (match ty with
    | .int => K (pc + 2) L (.ref h.2.1 :: s) (hN h (aI 0 n.toNatClampNeg fun _ => 0) n.toNatClampNeg)
    | .boolean => K (pc + 2) L (.ref h.2.1 :: s) (hN h (aI 1 n.toNatClampNeg fun _ => 0) n.toNatClampNeg)
    | _ => none)
  | .anewarray _ => pI st fun n s => if n < 0 ∨ 100000 < n.toNatClampNeg then none else K (pc + 3) L (.ref h.2.1 :: s) (hN h (aQ r.1 n.toNatClampNeg fun _ => none) n.toNatClampNeg)
  | .invokevirtual _ => pR (st.drop r.2.1) fun b rest => bif roomOk rest then isO h b (clsOf r.1) ((c r.1 (.ref b :: (st.take r.2.1).reverse) h).bind fun q => aft r.2.2 q pc L rest K) else none
  | .invokespecial _ => bif Nat.beq r.1 1000 then (pR st fun _ rest => bif roomOk rest && dd then K (pc + 3) L rest h else none)
    else pR (st.drop r.2.1) fun b rest => bif roomOk rest then (c r.1 (.ref b :: (st.take r.2.1).reverse) h).bind fun q => aft r.2.2 q pc L rest K else none
  | .invokestatic _ => bif Nat.beq r.1 1000 then (pI st fun n s => pI s fun dp s => pR s fun d s => pI s fun sp s => pR s fun a s => bif roomOk s && dd then cpA h a sp d dp n fun h => K (pc + 3) L s h else none)
    else bif Nat.beq r.1 1001 then (pI st fun y s => pI s fun x s => bif roomOk s && dd then K (pc + 3) L (.int (if x < y then y else x) :: s) h else none)
    else bif Nat.beq r.1 1002 then (pI st fun y s => pI s fun x s => bif roomOk s && dd then K (pc + 3) L (.int (if y < x then y else x) :: s) h else none)
    else bif Nat.ble r.2.1 st.length && roomOk (st.drop r.2.1) then (c r.1 (st.take r.2.1).reverse h).bind fun q => aft r.2.2 q pc L (st.drop r.2.1) K else none
  | .ireturn => pI st fun x s => (match s with
    | [] => (match rt with
      | some .boolean => isZ x (some (some (.int x), h))
      | some .int => some (some (.int x), h)
      | _ => none)
    | _ => none)
  | .areturn => (match rt with
    | some (.object _) => pQ st (fun s => (match s with
      | [] => some (some .null, h)
      | _ => none)) fun a s => (match s with
      | [] => some (some (.ref a), h)
      | _ => none)
    | _ => none)
  | .return_ => (match rt with
    | none => (match st with
      | [] => some (none, h)
      | _ => none)
    | _ => none)
  | _ => none
/-- dead locals are forgotten where ways meet -/
def msk (mk : List (Nat × List Nat)) (pc : Nat) (L : List (Option Value)) : List (Option Value) := match mk.lookup pc with
  | some lv => L.zipIdx.map fun q => bif lv.elem q.2 then q.1 else none
  | none => L
def rAt (c : Ct) (dd : Bool) (q : MT) : Nat → Nat → List (Option Value) → List Value → AH → Option RV
  | 0, _, _, _, _ => none
  | n + 1, pc, L, st, h => match q.2.2.1[pc]? with
    | some (some (i, r)) => stp c dd q.1.2.2.2 i r pc L st h fun pc L st h => rAt c dd q n pc (msk q.2.2.2 pc L) st h
    | _ => none
