/-! ===== laws of one instruction, for whatever runs by our steps ===== -/
def St (c : Ct) (dd : Bool) (q : MT) (ρ : Kt) : Prop := ∀ (pc : Nat) (L : List (Option Value)) (st : List Value) (h : AH) (i : Instr) (r : Nat × (Nat × Nat)), q.2.2.1[pc]? = some (some (i, r)) → ρ pc L st h = stp c dd q.1.2.2.2 i r pc L st h fun pc L st h => ρ pc (msk q.2.2.2 pc L) st h
theorem St_run (d : Nat) (q : MT) : St (call d) (Nat.blt 0 d) q (run d q) := fun _ _ _ _ i r hi => run_step i r hi
theorem msk0 {mk : List (Nat × List Nat)} {pc : Nat} (h : mk.lookup pc = none) (L : List (Option Value)) : msk mk pc L = L := by
  unfold msk
  rw [h]
theorem T1 {mk : List (Nat × List Nat)} {ρ : Kt} {X B : Option RV} {pc : Nat} {L : List (Option Value)} {st : List Value} {h : AH} (h1 : X = ρ pc (msk mk pc L) st h) (hm : mk.lookup pc = none) (h2 : ρ pc L st h = B) : X = B := by
  rw [h1, msk0 hm]
  exact h2
theorem T2 {ρ : Kt} {X B : Option RV} {pc : Nat} {L : List (Option Value)} {st : List Value} {h : AH} (L' : List (Option Value)) (h1 : X = ρ pc L st h) (hL : L = L') (h2 : ρ pc L' st h = B) : X = B := by
  rw [h1, hL]
  exact h2
theorem U1 {mk : List (Nat × List Nat)} {ρ : Kt} {B : Option RV} {pc : Nat} {L : List (Option Value)} {st : List Value} {h : AH} (hm : mk.lookup pc = none) (h2 : ρ pc L st h = B) : ρ pc (msk mk pc L) st h = B := by
  rw [msk0 hm]
  exact h2
theorem U2 {ρ : Kt} {B : Option RV} {pc : Nat} {L : List (Option Value)} {st : List Value} {h : AH} (L' : List (Option Value)) (hL : L = L') (h2 : ρ pc L' st h = B) : ρ pc L st h = B := by
  rw [hL]
  exact h2
theorem bi_c {o : Option RV} {f g : RV → Option RV} (h : ∀ q, f q = g q) : o.bind f = o.bind g := by
  cases o with
  | none => rfl
  | some q => exact h q
theorem if_c {p : Prop} [Decidable p] {a a' b b' : Option RV} (h1 : a = a') (h2 : b = b') : (if p then a else b) = if p then a' else b' := by rw [h1, h2]
theorem gfI_c {h : AH} {a ci k : Nat} {f g : Int32 → Option RV} (e : ∀ x, f x = g x) : gfI h a ci k f = gfI h a ci k g := by rw [funext e]
theorem gfQ_c {h : AH} {a ci k : Nat} {n n' : Option RV} {f g : Nat → Option RV} (e0 : n = n') (e : ∀ x, f x = g x) : gfQ h a ci k n f = gfQ h a ci k n' g := by rw [funext e, e0]
theorem pfV_c {h : AH} {a ci k : Nat} {v : Value} {f g : AH → Option RV} (e : ∀ x, f x = g x) : pfV h a ci k v f = pfV h a ci k v g := by rw [funext e]
theorem isZ_c {x : Int32} {f g : Option RV} (e : f = g) : isZ x f = isZ x g := by rw [e]
theorem ldI_c {h : AH} {a : Nat} {i : Int32} {f g : Int32 → Option RV} (e : ∀ x, f x = g x) : ldI h a i f = ldI h a i g := by rw [funext e]
theorem ldZ_c {h : AH} {a : Nat} {i : Int32} {f g : Int32 → Option RV} (e : ∀ x, f x = g x) : ldZ h a i f = ldZ h a i g := by rw [funext e]
theorem ldQ_c {h : AH} {a : Nat} {i : Int32} {n n' : Option RV} {f g : Nat → Option RV} (e0 : n = n') (e : ∀ x, f x = g x) : ldQ h a i n f = ldQ h a i n' g := by rw [funext e, e0]
theorem stI_c {h : AH} {a : Nat} {i x : Int32} {f g : AH → Option RV} (e : ∀ x, f x = g x) : stI h a i x f = stI h a i x g := by rw [funext e]
theorem stZ_c {h : AH} {a : Nat} {i x : Int32} {f g : AH → Option RV} (e : ∀ x, f x = g x) : stZ h a i x f = stZ h a i x g := by rw [funext e]
theorem stQ_c {h : AH} {a : Nat} {i : Int32} {v : Nat} {f g : AH → Option RV} (e : ∀ x, f x = g x) : stQ h a i v f = stQ h a i v g := by rw [funext e]
theorem isO_c {h : AH} {a ci : Nat} {f g : Option RV} (e : f = g) : isO h a ci f = isO h a ci g := by rw [e]
theorem lnA_c {h : AH} {a : Nat} {f g : Int32 → Option RV} (e : ∀ x, f x = g x) : lnA h a f = lnA h a g := by rw [funext e]
theorem cpA_c {h : AH} {a d : Nat} {sp dp n : Int32} {f g : AH → Option RV} (e : ∀ x, f x = g x) : cpA h a sp d dp n f = cpA h a sp d dp n g := by rw [funext e]
theorem rV_c {q : RV} {f g : AH → Option RV} (e : ∀ h, f h = g h) : rV q f = rV q g := by rw [funext e]
theorem rI_c {q : RV} {f g : Int32 → AH → Option RV} (e : ∀ x h, f x h = g x h) : rI q f = rI q g := by rw [funext fun x => funext (e x)]
theorem rQ_c {q : RV} {m n : AH → Option RV} {f g : Nat → AH → Option RV} (e0 : ∀ h, m h = n h) (e : ∀ x h, f x h = g x h) : rQ q m f = rQ q n g := by rw [funext e0, funext fun x => funext (e x)]
section XL
variable {c : Ct} {dd : Bool} {q : MT} {ρ : Kt} {pc t : Nat} {L : List (Option Value)} {st rest : List Value} {h : AH} {r : Nat × (Nat × Nat)}
theorem nb00 : Nat.beq 1000 1000 = true := by decide +kernel
theorem nb10 : Nat.beq 1001 1000 = false := by decide +kernel
theorem nb11 : Nat.beq 1001 1001 = true := by decide +kernel
theorem nb20 : Nat.beq 1002 1000 = false := by decide +kernel
theorem nb21 : Nat.beq 1002 1001 = false := by decide +kernel
theorem nb22 : Nat.beq 1002 1002 = true := by decide +kernel
theorem x_null (H : St c dd q ρ) (hi : q.2.2.1[pc]? = some (some (.aconst_null, r))) : ρ pc L (st) h = ρ (pc + 1) (msk q.2.2.2 (pc + 1) L) (.null :: st) h := by
  exact H pc L _ h _ _ hi
theorem x_iconst (H : St c dd q ρ) {n : Int} {v : Int32} (hi : q.2.2.1[pc]? = some (some (.iconst n, r))) (hv : Int32.ofInt n = v) : ρ pc L (st) h = ρ (pc + 1) (msk q.2.2.2 (pc + 1) L) (.int v :: st) h := by
  subst hv; exact H pc L _ h _ _ hi
theorem x_bipush (H : St c dd q ρ) {n : Int} {v : Int32} (hi : q.2.2.1[pc]? = some (some (.bipush n, r))) (hv : (Int8.ofInt n).toInt32 = v) : ρ pc L (st) h = ρ (pc + 2) (msk q.2.2.2 (pc + 2) L) (.int v :: st) h := by
  subst hv; exact H pc L _ h _ _ hi
theorem x_sipush (H : St c dd q ρ) {n : Int} {v : Int32} (hi : q.2.2.1[pc]? = some (some (.sipush n, r))) (hv : (Int16.ofInt n).toInt32 = v) : ρ pc L (st) h = ρ (pc + 3) (msk q.2.2.2 (pc + 3) L) (.int v :: st) h := by
  subst hv; exact H pc L _ h _ _ hi
theorem x_lconst (H : St c dd q ρ) {n : Fin 2} {v : Int64} (hi : q.2.2.1[pc]? = some (some (.lconst n, r))) (hv : Int64.ofNat n.val = v) : ρ pc L (st) h = ρ (pc + 1) (msk q.2.2.2 (pc + 1) L) (.long v :: st) h := by
  subst hv; exact H pc L _ h _ _ hi
theorem x_ldc2 (H : St c dd q ρ) {n k : Nat} {v : Int64} (hi : q.2.2.1[pc]? = some (some (.ldc2_w n, (k, (0, 0))))) (hv : Int64.ofNat k = v) : ρ pc L (st) h = ρ (pc + 3) (msk q.2.2.2 (pc + 3) L) (.long v :: st) h := by
  subst hv; exact H pc L _ h _ _ hi
theorem x_iload_n (H : St c dd q ρ) {k : Fin 4} {x : Int32} (hi : q.2.2.1[pc]? = some (some (.iload_n k, r))) (hl : L[k.val]? = some (some (.int x))) : ρ pc L (st) h = ρ (pc + 1) (msk q.2.2.2 (pc + 1) L) (.int x :: st) h := by
  rw [H pc L _ h _ _ hi]; show gLI L k.val _ = _; unfold gLI; rw [hl]
theorem x_iload (H : St c dd q ρ) {k : Nat} {x : Int32} (hi : q.2.2.1[pc]? = some (some (.iload k, r))) (hl : L[k]? = some (some (.int x))) : ρ pc L (st) h = ρ (pc + 2) (msk q.2.2.2 (pc + 2) L) (.int x :: st) h := by
  rw [H pc L _ h _ _ hi]; show gLI L k _ = _; unfold gLI; rw [hl]
theorem x_lload_n (H : St c dd q ρ) {k : Fin 4} {x : Int64} (hi : q.2.2.1[pc]? = some (some (.lload_n k, r))) (hl : L[k.val]? = some (some (.long x))) : ρ pc L (st) h = ρ (pc + 1) (msk q.2.2.2 (pc + 1) L) (.long x :: st) h := by
  rw [H pc L _ h _ _ hi]; show gLL L k.val _ = _; unfold gLL; rw [hl]
theorem x_lload (H : St c dd q ρ) {k : Nat} {x : Int64} (hi : q.2.2.1[pc]? = some (some (.lload k, r))) (hl : L[k]? = some (some (.long x))) : ρ pc L (st) h = ρ (pc + 2) (msk q.2.2.2 (pc + 2) L) (.long x :: st) h := by
  rw [H pc L _ h _ _ hi]; show gLL L k _ = _; unfold gLL; rw [hl]
theorem x_aload_n (H : St c dd q ρ) {k : Fin 4} {x : Nat} (hi : q.2.2.1[pc]? = some (some (.aload_n k, r))) (hl : L[k.val]? = some (some (.ref x))) : ρ pc L (st) h = ρ (pc + 1) (msk q.2.2.2 (pc + 1) L) (.ref x :: st) h := by
  rw [H pc L _ h _ _ hi]; show gLQ L k.val _ _ = _; unfold gLQ; rw [hl]
theorem x_aload_nN (H : St c dd q ρ) {k : Fin 4} (hi : q.2.2.1[pc]? = some (some (.aload_n k, r))) (hl : L[k.val]? = some (some .null)) : ρ pc L (st) h = ρ (pc + 1) (msk q.2.2.2 (pc + 1) L) (.null :: st) h := by
  rw [H pc L _ h _ _ hi]; show gLQ L k.val _ _ = _; unfold gLQ; rw [hl]
theorem x_aload (H : St c dd q ρ) {k : Nat} {x : Nat} (hi : q.2.2.1[pc]? = some (some (.aload k, r))) (hl : L[k]? = some (some (.ref x))) : ρ pc L (st) h = ρ (pc + 2) (msk q.2.2.2 (pc + 2) L) (.ref x :: st) h := by
  rw [H pc L _ h _ _ hi]; show gLQ L k _ _ = _; unfold gLQ; rw [hl]
theorem x_aloadN (H : St c dd q ρ) {k : Nat} (hi : q.2.2.1[pc]? = some (some (.aload k, r))) (hl : L[k]? = some (some .null)) : ρ pc L (st) h = ρ (pc + 2) (msk q.2.2.2 (pc + 2) L) (.null :: st) h := by
  rw [H pc L _ h _ _ hi]; show gLQ L k _ _ = _; unfold gLQ; rw [hl]
theorem x_istore_n (H : St c dd q ρ) {k : Fin 4} {x : Int32} (hi : q.2.2.1[pc]? = some (some (.istore_n k, r))) (hl : (Nat.blt k.val L.length && noL L k.val) = true) : ρ pc L (.int x :: st) h = ρ (pc + 1) (msk q.2.2.2 (pc + 1) (L.set k.val (some (.int x)))) (st) h := by
  rw [H pc L _ h _ _ hi]; simp only [stp, pI, pQ, sL, hl, cond_true]
theorem x_istore (H : St c dd q ρ) {k : Nat} {x : Int32} (hi : q.2.2.1[pc]? = some (some (.istore k, r))) (hl : (Nat.blt k L.length && noL L k) = true) : ρ pc L (.int x :: st) h = ρ (pc + 2) (msk q.2.2.2 (pc + 2) (L.set k (some (.int x)))) (st) h := by
  rw [H pc L _ h _ _ hi]; simp only [stp, pI, pQ, sL, hl, cond_true]
theorem x_astore_n (H : St c dd q ρ) {k : Fin 4} {x : Nat} (hi : q.2.2.1[pc]? = some (some (.astore_n k, r))) (hl : (Nat.blt k.val L.length && noL L k.val) = true) : ρ pc L (.ref x :: st) h = ρ (pc + 1) (msk q.2.2.2 (pc + 1) (L.set k.val (some (.ref x)))) (st) h := by
  rw [H pc L _ h _ _ hi]; simp only [stp, pI, pQ, sL, hl, cond_true]
theorem x_astore_nN (H : St c dd q ρ) {k : Fin 4} (hi : q.2.2.1[pc]? = some (some (.astore_n k, r))) (hl : (Nat.blt k.val L.length && noL L k.val) = true) : ρ pc L (.null :: st) h = ρ (pc + 1) (msk q.2.2.2 (pc + 1) (L.set k.val (some .null))) (st) h := by
  rw [H pc L _ h _ _ hi]; simp only [stp, pI, pQ, sL, hl, cond_true]
theorem x_astore (H : St c dd q ρ) {k : Nat} {x : Nat} (hi : q.2.2.1[pc]? = some (some (.astore k, r))) (hl : (Nat.blt k L.length && noL L k) = true) : ρ pc L (.ref x :: st) h = ρ (pc + 2) (msk q.2.2.2 (pc + 2) (L.set k (some (.ref x)))) (st) h := by
  rw [H pc L _ h _ _ hi]; simp only [stp, pI, pQ, sL, hl, cond_true]
theorem x_astoreN (H : St c dd q ρ) {k : Nat} (hi : q.2.2.1[pc]? = some (some (.astore k, r))) (hl : (Nat.blt k L.length && noL L k) = true) : ρ pc L (.null :: st) h = ρ (pc + 2) (msk q.2.2.2 (pc + 2) (L.set k (some .null))) (st) h := by
  rw [H pc L _ h _ _ hi]; simp only [stp, pI, pQ, sL, hl, cond_true]
theorem x_lstore (H : St c dd q ρ) {k : Nat} {x : Int64} (hi : q.2.2.1[pc]? = some (some (.lstore k, r))) (hl : (Nat.blt (k + 1) L.length && noL L k) = true) : ρ pc L (.long x :: st) h = ρ (pc + 2) (msk q.2.2.2 (pc + 2) ((L.set k (some (.long x))).set (k + 1) none)) (st) h := by
  rw [H pc L _ h _ _ hi]; simp only [stp, pL, sLL, hl, cond_true]
theorem x_iinc (H : St c dd q ρ) {k : Nat} {n : Int} {x v : Int32} (hi : q.2.2.1[pc]? = some (some (.iinc k n, r))) (hv : Int32.ofInt n = v) (h0 : L[k]? = some (some (.int x))) (hl : (Nat.blt k L.length && noL L k) = true) : ρ pc L (st) h = ρ (pc + 3) (msk q.2.2.2 (pc + 3) (L.set k (some (.int (x + v))))) (st) h := by
  subst hv; rw [H pc L _ h _ _ hi]; simp only [stp, gLI, h0, sL, hl, cond_true]
theorem x_iadd (H : St c dd q ρ) {x y : Int32} (hi : q.2.2.1[pc]? = some (some (.iadd, r))) : ρ pc L (.int y :: .int x :: st) h = ρ (pc + 1) (msk q.2.2.2 (pc + 1) L) (.int (x + y) :: st) h := by
  exact H pc L _ h _ _ hi
theorem x_isub (H : St c dd q ρ) {x y : Int32} (hi : q.2.2.1[pc]? = some (some (.isub, r))) : ρ pc L (.int y :: .int x :: st) h = ρ (pc + 1) (msk q.2.2.2 (pc + 1) L) (.int (x - y) :: st) h := by
  exact H pc L _ h _ _ hi
theorem x_imul (H : St c dd q ρ) {x y : Int32} (hi : q.2.2.1[pc]? = some (some (.imul, r))) : ρ pc L (.int y :: .int x :: st) h = ρ (pc + 1) (msk q.2.2.2 (pc + 1) L) (.int (x * y) :: st) h := by
  exact H pc L _ h _ _ hi
theorem x_iand (H : St c dd q ρ) {x y : Int32} (hi : q.2.2.1[pc]? = some (some (.iand, r))) : ρ pc L (.int y :: .int x :: st) h = ρ (pc + 1) (msk q.2.2.2 (pc + 1) L) (.int (x &&& y) :: st) h := by
  exact H pc L _ h _ _ hi
theorem x_ior (H : St c dd q ρ) {x y : Int32} (hi : q.2.2.1[pc]? = some (some (.ior, r))) : ρ pc L (.int y :: .int x :: st) h = ρ (pc + 1) (msk q.2.2.2 (pc + 1) L) (.int (x ||| y) :: st) h := by
  exact H pc L _ h _ _ hi
theorem x_ishl (H : St c dd q ρ) {x y : Int32} (hi : q.2.2.1[pc]? = some (some (.ishl, r))) : ρ pc L (.int y :: .int x :: st) h = ρ (pc + 1) (msk q.2.2.2 (pc + 1) L) (.int (x <<< (y &&& 31)) :: st) h := by
  exact H pc L _ h _ _ hi
theorem x_ishr (H : St c dd q ρ) {x y : Int32} (hi : q.2.2.1[pc]? = some (some (.ishr, r))) : ρ pc L (.int y :: .int x :: st) h = ρ (pc + 1) (msk q.2.2.2 (pc + 1) L) (.int (x >>> (y &&& 31)) :: st) h := by
  exact H pc L _ h _ _ hi
theorem x_idiv (H : St c dd q ρ) {x y : Int32} (hi : q.2.2.1[pc]? = some (some (.idiv, r))) (h0 : ¬ y = 0) : ρ pc L (.int y :: .int x :: st) h = ρ (pc + 1) (msk q.2.2.2 (pc + 1) L) (.int (x / y) :: st) h := by
  rw [H pc L _ h _ _ hi]; exact if_neg h0
theorem x_irem (H : St c dd q ρ) {x y : Int32} (hi : q.2.2.1[pc]? = some (some (.irem, r))) (h0 : ¬ y = 0) : ρ pc L (.int y :: .int x :: st) h = ρ (pc + 1) (msk q.2.2.2 (pc + 1) L) (.int (x - x / y * y) :: st) h := by
  rw [H pc L _ h _ _ hi]; exact if_neg h0
theorem x_idivC (H : St c dd q ρ) {x y : Int32} (hi : q.2.2.1[pc]? = some (some (.idiv, r))) : ρ pc L (.int y :: .int x :: st) h = if y = 0 then none else ρ (pc + 1) (msk q.2.2.2 (pc + 1) L) (.int (x / y) :: st) h := by
  exact H pc L _ h _ _ hi
theorem x_iremC (H : St c dd q ρ) {x y : Int32} (hi : q.2.2.1[pc]? = some (some (.irem, r))) : ρ pc L (.int y :: .int x :: st) h = if y = 0 then none else ρ (pc + 1) (msk q.2.2.2 (pc + 1) L) (.int (x - x / y * y) :: st) h := by
  exact H pc L _ h _ _ hi
theorem x_i2l (H : St c dd q ρ) {x : Int32} (hi : q.2.2.1[pc]? = some (some (.i2l, r))) : ρ pc L (.int x :: st) h = ρ (pc + 1) (msk q.2.2.2 (pc + 1) L) (.long x.toInt64 :: st) h := by
  exact H pc L _ h _ _ hi
theorem x_l2i (H : St c dd q ρ) {x : Int64} (hi : q.2.2.1[pc]? = some (some (.l2i, r))) : ρ pc L (.long x :: st) h = ρ (pc + 1) (msk q.2.2.2 (pc + 1) L) (.int x.toInt32 :: st) h := by
  exact H pc L _ h _ _ hi
theorem x_i2b (H : St c dd q ρ) {x : Int32} (hi : q.2.2.1[pc]? = some (some (.i2b, r))) : ρ pc L (.int x :: st) h = ρ (pc + 1) (msk q.2.2.2 (pc + 1) L) (.int x.toInt8.toInt32 :: st) h := by
  exact H pc L _ h _ _ hi
theorem x_i2s (H : St c dd q ρ) {x : Int32} (hi : q.2.2.1[pc]? = some (some (.i2s, r))) : ρ pc L (.int x :: st) h = ρ (pc + 1) (msk q.2.2.2 (pc + 1) L) (.int x.toInt16.toInt32 :: st) h := by
  exact H pc L _ h _ _ hi
theorem x_ladd (H : St c dd q ρ) {x y : Int64} (hi : q.2.2.1[pc]? = some (some (.ladd, r))) : ρ pc L (.long y :: .long x :: st) h = ρ (pc + 1) (msk q.2.2.2 (pc + 1) L) (.long (x + y) :: st) h := by
  exact H pc L _ h _ _ hi
theorem x_lcmp (H : St c dd q ρ) {x y : Int64} (hi : q.2.2.1[pc]? = some (some (.lcmp, r))) : ρ pc L (.long y :: .long x :: st) h = ρ (pc + 1) (msk q.2.2.2 (pc + 1) L) (.int (lg_cmp x y) :: st) h := by
  exact H pc L _ h _ _ hi
theorem x_dup (H : St c dd q ρ) {x : Nat} (hi : q.2.2.1[pc]? = some (some (.dup, r))) : ρ pc L (.ref x :: st) h = ρ (pc + 1) (msk q.2.2.2 (pc + 1) L) (.ref x :: .ref x :: st) h := by
  exact H pc L _ h _ _ hi
theorem x_dup2 (H : St c dd q ρ) {x : Int32} {a : Nat} (hi : q.2.2.1[pc]? = some (some (.dup2, r))) : ρ pc L (.int x :: .ref a :: st) h = ρ (pc + 1) (msk q.2.2.2 (pc + 1) L) (.int x :: .ref a :: .int x :: .ref a :: st) h := by
  exact H pc L _ h _ _ hi
theorem x_pop (H : St c dd q ρ) {x : Int32} (hi : q.2.2.1[pc]? = some (some (.pop, r))) : ρ pc L (.int x :: st) h = ρ (pc + 1) (msk q.2.2.2 (pc + 1) L) (st) h := by
  exact H pc L _ h _ _ hi
theorem x_goto (H : St c dd q ρ) {off : Int} (hi : q.2.2.1[pc]? = some (some (.goto off, r))) (ht : (pc : Int) + off = (t : Int)) : ρ pc L (st) h = ρ (t) (msk q.2.2.2 (t) L) (st) h := by
  rw [H pc L _ h _ _ hi]; show jmp pc off _ = _; unfold jmp; rw [ht] <;> rfl
theorem x_icmp_eq (H : St c dd q ρ) {off : Int} {x y : Int32} (hi : q.2.2.1[pc]? = some (some (.if_icmp .eq off, r))) (ht : (pc : Int) + off = (t : Int)) : ρ pc L (.int y :: .int x :: st) h = if x = y then ρ (t) (msk q.2.2.2 (t) L) (st) h else ρ (pc + 3) (msk q.2.2.2 (pc + 3) L) (st) h := by
  rw [H pc L _ h _ _ hi]; show jmp pc off _ = _; unfold jmp; rw [ht] <;> rfl
theorem x_if_eq (H : St c dd q ρ) {off : Int} {x : Int32} (hi : q.2.2.1[pc]? = some (some (.ifCond .eq off, r))) (ht : (pc : Int) + off = (t : Int)) : ρ pc L (.int x :: st) h = if x = 0 then ρ (t) (msk q.2.2.2 (t) L) (st) h else ρ (pc + 3) (msk q.2.2.2 (pc + 3) L) (st) h := by
  rw [H pc L _ h _ _ hi]; show jmp pc off _ = _; unfold jmp; rw [ht] <;> rfl
theorem x_icmp_ne (H : St c dd q ρ) {off : Int} {x y : Int32} (hi : q.2.2.1[pc]? = some (some (.if_icmp .ne off, r))) (ht : (pc : Int) + off = (t : Int)) : ρ pc L (.int y :: .int x :: st) h = if x = y then ρ (pc + 3) (msk q.2.2.2 (pc + 3) L) (st) h else ρ (t) (msk q.2.2.2 (t) L) (st) h := by
  rw [H pc L _ h _ _ hi]; show jmp pc off _ = _; unfold jmp; rw [ht] <;> rfl
theorem x_if_ne (H : St c dd q ρ) {off : Int} {x : Int32} (hi : q.2.2.1[pc]? = some (some (.ifCond .ne off, r))) (ht : (pc : Int) + off = (t : Int)) : ρ pc L (.int x :: st) h = if x = 0 then ρ (pc + 3) (msk q.2.2.2 (pc + 3) L) (st) h else ρ (t) (msk q.2.2.2 (t) L) (st) h := by
  rw [H pc L _ h _ _ hi]; show jmp pc off _ = _; unfold jmp; rw [ht] <;> rfl
theorem x_icmp_lt (H : St c dd q ρ) {off : Int} {x y : Int32} (hi : q.2.2.1[pc]? = some (some (.if_icmp .lt off, r))) (ht : (pc : Int) + off = (t : Int)) : ρ pc L (.int y :: .int x :: st) h = if x < y then ρ (t) (msk q.2.2.2 (t) L) (st) h else ρ (pc + 3) (msk q.2.2.2 (pc + 3) L) (st) h := by
  rw [H pc L _ h _ _ hi]; show jmp pc off _ = _; unfold jmp; rw [ht] <;> rfl
theorem x_if_lt (H : St c dd q ρ) {off : Int} {x : Int32} (hi : q.2.2.1[pc]? = some (some (.ifCond .lt off, r))) (ht : (pc : Int) + off = (t : Int)) : ρ pc L (.int x :: st) h = if x < 0 then ρ (t) (msk q.2.2.2 (t) L) (st) h else ρ (pc + 3) (msk q.2.2.2 (pc + 3) L) (st) h := by
  rw [H pc L _ h _ _ hi]; show jmp pc off _ = _; unfold jmp; rw [ht] <;> rfl
theorem x_icmp_ge (H : St c dd q ρ) {off : Int} {x y : Int32} (hi : q.2.2.1[pc]? = some (some (.if_icmp .ge off, r))) (ht : (pc : Int) + off = (t : Int)) : ρ pc L (.int y :: .int x :: st) h = if y ≤ x then ρ (t) (msk q.2.2.2 (t) L) (st) h else ρ (pc + 3) (msk q.2.2.2 (pc + 3) L) (st) h := by
  rw [H pc L _ h _ _ hi]; show jmp pc off _ = _; unfold jmp; rw [ht] <;> rfl
theorem x_if_ge (H : St c dd q ρ) {off : Int} {x : Int32} (hi : q.2.2.1[pc]? = some (some (.ifCond .ge off, r))) (ht : (pc : Int) + off = (t : Int)) : ρ pc L (.int x :: st) h = if 0 ≤ x then ρ (t) (msk q.2.2.2 (t) L) (st) h else ρ (pc + 3) (msk q.2.2.2 (pc + 3) L) (st) h := by
  rw [H pc L _ h _ _ hi]; show jmp pc off _ = _; unfold jmp; rw [ht] <;> rfl
theorem x_icmp_gt (H : St c dd q ρ) {off : Int} {x y : Int32} (hi : q.2.2.1[pc]? = some (some (.if_icmp .gt off, r))) (ht : (pc : Int) + off = (t : Int)) : ρ pc L (.int y :: .int x :: st) h = if y < x then ρ (t) (msk q.2.2.2 (t) L) (st) h else ρ (pc + 3) (msk q.2.2.2 (pc + 3) L) (st) h := by
  rw [H pc L _ h _ _ hi]; show jmp pc off _ = _; unfold jmp; rw [ht] <;> rfl
theorem x_if_gt (H : St c dd q ρ) {off : Int} {x : Int32} (hi : q.2.2.1[pc]? = some (some (.ifCond .gt off, r))) (ht : (pc : Int) + off = (t : Int)) : ρ pc L (.int x :: st) h = if 0 < x then ρ (t) (msk q.2.2.2 (t) L) (st) h else ρ (pc + 3) (msk q.2.2.2 (pc + 3) L) (st) h := by
  rw [H pc L _ h _ _ hi]; show jmp pc off _ = _; unfold jmp; rw [ht] <;> rfl
theorem x_icmp_le (H : St c dd q ρ) {off : Int} {x y : Int32} (hi : q.2.2.1[pc]? = some (some (.if_icmp .le off, r))) (ht : (pc : Int) + off = (t : Int)) : ρ pc L (.int y :: .int x :: st) h = if x ≤ y then ρ (t) (msk q.2.2.2 (t) L) (st) h else ρ (pc + 3) (msk q.2.2.2 (pc + 3) L) (st) h := by
  rw [H pc L _ h _ _ hi]; show jmp pc off _ = _; unfold jmp; rw [ht] <;> rfl
theorem x_if_le (H : St c dd q ρ) {off : Int} {x : Int32} (hi : q.2.2.1[pc]? = some (some (.ifCond .le off, r))) (ht : (pc : Int) + off = (t : Int)) : ρ pc L (.int x :: st) h = if x ≤ 0 then ρ (t) (msk q.2.2.2 (t) L) (st) h else ρ (pc + 3) (msk q.2.2.2 (pc + 3) L) (st) h := by
  rw [H pc L _ h _ _ hi]; show jmp pc off _ = _; unfold jmp; rw [ht] <;> rfl
theorem x_ifnull (H : St c dd q ρ) {off : Int} {x : Nat} (hi : q.2.2.1[pc]? = some (some (.ifnull off, r))) (ht : (pc : Int) + off = (t : Int)) : ρ pc L (.ref x :: st) h = ρ (pc + 3) (msk q.2.2.2 (pc + 3) L) (st) h := by
  rw [H pc L _ h _ _ hi]; show jmp pc off _ = _; unfold jmp; rw [ht] <;> rfl
theorem x_ifnullN (H : St c dd q ρ) {off : Int} (hi : q.2.2.1[pc]? = some (some (.ifnull off, r))) (ht : (pc : Int) + off = (t : Int)) : ρ pc L (.null :: st) h = ρ (t) (msk q.2.2.2 (t) L) (st) h := by
  rw [H pc L _ h _ _ hi]; show jmp pc off _ = _; unfold jmp; rw [ht] <;> rfl
theorem x_ifnonnull (H : St c dd q ρ) {off : Int} {x : Nat} (hi : q.2.2.1[pc]? = some (some (.ifnonnull off, r))) (ht : (pc : Int) + off = (t : Int)) : ρ pc L (.ref x :: st) h = ρ (t) (msk q.2.2.2 (t) L) (st) h := by
  rw [H pc L _ h _ _ hi]; show jmp pc off _ = _; unfold jmp; rw [ht] <;> rfl
theorem x_ifnonnullN (H : St c dd q ρ) {off : Int} (hi : q.2.2.1[pc]? = some (some (.ifnonnull off, r))) (ht : (pc : Int) + off = (t : Int)) : ρ pc L (.null :: st) h = ρ (pc + 3) (msk q.2.2.2 (pc + 3) L) (st) h := by
  rw [H pc L _ h _ _ hi]; show jmp pc off _ = _; unfold jmp; rw [ht] <;> rfl
theorem x_switch (H : St c dd q ρ) {d lo hi : Int} {offs : Array Int} {x : Int32} (hi0 : q.2.2.1[pc]? = some (some (.tableswitch d lo hi offs, r))) (hl : (hi - lo + 1 == (offs.toList.length : Int)) = true) : ρ pc L (.int x :: st) h = swt x lo offs.toList (fun o => jmp pc o fun t => ρ t (msk q.2.2.2 t L) st h) (jmp pc d fun t => ρ t (msk q.2.2.2 t L) st h) := by
  rw [H pc L _ h _ _ hi0]; simp only [stp, pI, hl, cond_true]
theorem jmp_eq {pc t : Nat} {off : Int} {f : Nat → Option RV} (ht : (pc : Int) + off = (t : Int)) : jmp pc off f = f t := by unfold jmp; rw [ht]
theorem swt_c {x : Int32} {lo lo1 : Int} {o : Int} {rs : List Int} {f : Int → Option RV} {d a b : Option RV} (hlo : lo + 1 = lo1) (h1 : f o = a) (h2 : swt x lo1 rs f d = b) : swt x lo (o :: rs) f d = if x.toInt = lo then a else b := by subst hlo; unfold swt; rw [h1, h2]
theorem swt_0 {x : Int32} {lo : Int} {f : Int → Option RV} {d b : Option RV} (h : d = b) : swt x lo [] f d = b := h
theorem x_getI (H : St c dd q ρ) {n ci k a : Nat} (hi : q.2.2.1[pc]? = some (some (.getfield n, (ci, (k, 0))))) : ρ pc L (.ref a :: st) h = gfI h a ci k fun x => ρ (pc + 3) (msk q.2.2.2 (pc + 3) L) (.int x :: st) h := by
  exact H pc L _ h _ _ hi
theorem x_getZ (H : St c dd q ρ) {n ci k a : Nat} (hi : q.2.2.1[pc]? = some (some (.getfield n, (ci, (k, 2))))) : ρ pc L (.ref a :: st) h = gfI h a ci k fun x => ρ (pc + 3) (msk q.2.2.2 (pc + 3) L) (.int x :: st) h := by
  exact H pc L _ h _ _ hi
theorem x_getR (H : St c dd q ρ) {n ci k a : Nat} (hi : q.2.2.1[pc]? = some (some (.getfield n, (ci, (k, 1))))) : ρ pc L (.ref a :: st) h = gfQ h a ci k none fun b => ρ (pc + 3) (msk q.2.2.2 (pc + 3) L) (.ref b :: st) h := by
  exact H pc L _ h _ _ hi
theorem x_getQ (H : St c dd q ρ) {n ci k a : Nat} (hi : q.2.2.1[pc]? = some (some (.getfield n, (ci, (k, 4))))) : ρ pc L (.ref a :: st) h = gfQ h a ci k (ρ (pc + 3) (msk q.2.2.2 (pc + 3) L) (.null :: st) h) fun b => ρ (pc + 3) (msk q.2.2.2 (pc + 3) L) (.ref b :: st) h := by
  exact H pc L _ h _ _ hi
theorem x_putI (H : St c dd q ρ) {n ci k a : Nat} {x : Int32} (hi : q.2.2.1[pc]? = some (some (.putfield n, (ci, (k, 0))))) : ρ pc L (.int x :: .ref a :: st) h = pfV h a ci k (.int x) fun h => ρ (pc + 3) (msk q.2.2.2 (pc + 3) L) (st) h := by
  exact H pc L _ h _ _ hi
theorem x_putZ (H : St c dd q ρ) {n ci k a : Nat} {x : Int32} (hi : q.2.2.1[pc]? = some (some (.putfield n, (ci, (k, 2))))) : ρ pc L (.int x :: .ref a :: st) h = isZ x (pfV h a ci k (.int x) fun h => ρ (pc + 3) (msk q.2.2.2 (pc + 3) L) (st) h) := by
  exact H pc L _ h _ _ hi
theorem x_putR (H : St c dd q ρ) {n ci k a b : Nat} (hi : q.2.2.1[pc]? = some (some (.putfield n, (ci, (k, 1))))) : ρ pc L (.ref b :: .ref a :: st) h = pfV h a ci k (.ref b) fun h => ρ (pc + 3) (msk q.2.2.2 (pc + 3) L) (st) h := by
  exact H pc L _ h _ _ hi
theorem x_putN (H : St c dd q ρ) {n ci k a : Nat} (hi : q.2.2.1[pc]? = some (some (.putfield n, (ci, (k, 1))))) : ρ pc L (.null :: .ref a :: st) h = pfV h a ci k .null fun h => ρ (pc + 3) (msk q.2.2.2 (pc + 3) L) (st) h := by
  exact H pc L _ h _ _ hi
theorem x_iaload (H : St c dd q ρ) {a : Nat} {i : Int32} (hi : q.2.2.1[pc]? = some (some (.iaload, r))) : ρ pc L (.int i :: .ref a :: st) h = ldI h a i fun x => ρ (pc + 1) (msk q.2.2.2 (pc + 1) L) (.int x :: st) h := by
  exact H pc L _ h _ _ hi
theorem x_baload (H : St c dd q ρ) {a : Nat} {i : Int32} (hi : q.2.2.1[pc]? = some (some (.baload, r))) : ρ pc L (.int i :: .ref a :: st) h = ldZ h a i fun x => ρ (pc + 1) (msk q.2.2.2 (pc + 1) L) (.int x :: st) h := by
  exact H pc L _ h _ _ hi
theorem x_aaload (H : St c dd q ρ) {a : Nat} {i : Int32} (hi : q.2.2.1[pc]? = some (some (.aaload, r))) : ρ pc L (.int i :: .ref a :: st) h = ldQ h a i none fun b => ρ (pc + 1) (msk q.2.2.2 (pc + 1) L) (.ref b :: st) h := by
  exact H pc L _ h _ _ hi
theorem x_iastore (H : St c dd q ρ) {a : Nat} {i x : Int32} (hi : q.2.2.1[pc]? = some (some (.iastore, r))) : ρ pc L (.int x :: .int i :: .ref a :: st) h = stI h a i x fun h => ρ (pc + 1) (msk q.2.2.2 (pc + 1) L) (st) h := by
  exact H pc L _ h _ _ hi
theorem x_bastore (H : St c dd q ρ) {a : Nat} {i x : Int32} (hi : q.2.2.1[pc]? = some (some (.bastore, r))) : ρ pc L (.int x :: .int i :: .ref a :: st) h = stZ h a i x fun h => ρ (pc + 1) (msk q.2.2.2 (pc + 1) L) (st) h := by
  exact H pc L _ h _ _ hi
theorem x_aastore (H : St c dd q ρ) {a v : Nat} {i : Int32} (hi : q.2.2.1[pc]? = some (some (.aastore, r))) : ρ pc L (.ref v :: .int i :: .ref a :: st) h = stQ h a i v fun h => ρ (pc + 1) (msk q.2.2.2 (pc + 1) L) (st) h := by
  exact H pc L _ h _ _ hi
theorem x_alen (H : St c dd q ρ) {a : Nat} (hi : q.2.2.1[pc]? = some (some (.arraylength, r))) : ρ pc L (.ref a :: st) h = lnA h a fun x => ρ (pc + 1) (msk q.2.2.2 (pc + 1) L) (.int x :: st) h := by
  exact H pc L _ h _ _ hi
theorem x_new (H : St c dd q ρ) {n ci k : Nat} (hi : q.2.2.1[pc]? = some (some (.new n, (ci, (k, 0))))) : ρ pc L (st) h = ρ (pc + 3) (msk q.2.2.2 (pc + 3) L) (.ref h.2.1 :: st) (hN h (oB ci (dfl ci)) (dfl ci).length) := by
  exact H pc L _ h _ _ hi
theorem x_newi (H : St c dd q ρ) {n : Int32} {N : Nat} (hi : q.2.2.1[pc]? = some (some (.newarray .int, r))) (hn : n.toNatClampNeg = N) (h0 : ¬ (n < 0 ∨ 100000 < n.toNatClampNeg)) : ρ pc L (.int n :: st) h = ρ (pc + 2) (msk q.2.2.2 (pc + 2) L) (.ref h.2.1 :: st) (hN h (aI 0 N fun _ => 0) N) := by
  subst hn; rw [H pc L _ h _ _ hi]; exact if_neg h0
theorem x_newz (H : St c dd q ρ) {n : Int32} {N : Nat} (hi : q.2.2.1[pc]? = some (some (.newarray .boolean, r))) (hn : n.toNatClampNeg = N) (h0 : ¬ (n < 0 ∨ 100000 < n.toNatClampNeg)) : ρ pc L (.int n :: st) h = ρ (pc + 2) (msk q.2.2.2 (pc + 2) L) (.ref h.2.1 :: st) (hN h (aI 1 N fun _ => 0) N) := by
  subst hn; rw [H pc L _ h _ _ hi]; exact if_neg h0
theorem x_newq (H : St c dd q ρ) {x t0 : Nat} {n : Int32} {N : Nat} (hi : q.2.2.1[pc]? = some (some (.anewarray x, (t0, (0, 0))))) (hn : n.toNatClampNeg = N) (h0 : ¬ (n < 0 ∨ 100000 < n.toNatClampNeg)) : ρ pc L (.int n :: st) h = ρ (pc + 3) (msk q.2.2.2 (pc + 3) L) (.ref h.2.1 :: st) (hN h (aQ t0 N fun _ => none) N) := by
  subst hn; rw [H pc L _ h _ _ hi]; exact if_neg h0
theorem x_callV (H : St c dd q ρ) {m n y b ci : Nat} (hi : q.2.2.1[pc]? = some (some (.invokevirtual m, (y, (n, 0))))) (as : List Value) (ha : (st.take n).reverse = as) (hd : st.drop n = .ref b :: rest) (hro : roomOk rest = true) (hc : clsOf y = ci) : ρ pc L (st) h = isO h b ci ((c y (.ref b :: as) h).bind fun q0 => rV q0 fun h => ρ (pc + 3) (msk q.2.2.2 (pc + 3) L) (rest) h) := by
  subst ha hc; rw [H pc L _ h _ _ hi]; show (pR (st.drop n) fun b rest => bif roomOk rest then isO h b (clsOf y) ((c y (.ref b :: (st.take n).reverse) h).bind fun q => aft 0 q pc L rest _) else none) = _; rw [hd]; show (bif roomOk rest then _ else none) = _; rw [hro]; rfl
theorem x_statV (H : St c dd q ρ) {m n y : Nat} (hi : q.2.2.1[pc]? = some (some (.invokestatic m, (y, (n, 0))))) (as : List Value) (ha : (st.take n).reverse = as) (hd : st.drop n = rest) (hle : Nat.ble n st.length = true) (hro : roomOk rest = true) (hy : (Nat.beq y 1000 || (Nat.beq y 1001 || Nat.beq y 1002)) = false) : ρ pc L (st) h = (c y as h).bind fun q0 => rV q0 fun h => ρ (pc + 3) (msk q.2.2.2 (pc + 3) L) (rest) h := by
  subst ha; simp only [Bool.or_eq_false_iff] at hy; rw [H pc L _ h _ _ hi]; show (bif Nat.beq y 1000 then _ else bif Nat.beq y 1001 then _ else bif Nat.beq y 1002 then _ else bif Nat.ble n st.length && roomOk (st.drop n) then (c y (st.take n).reverse h).bind fun q => aft 0 q pc L (st.drop n) _ else none) = _; rw [hy.1, hy.2.1, hy.2.2, hd, hle, hro]; rfl
theorem x_callI (H : St c dd q ρ) {m n y b ci : Nat} (hi : q.2.2.1[pc]? = some (some (.invokevirtual m, (y, (n, 1))))) (as : List Value) (ha : (st.take n).reverse = as) (hd : st.drop n = .ref b :: rest) (hro : roomOk rest = true) (hc : clsOf y = ci) : ρ pc L (st) h = isO h b ci ((c y (.ref b :: as) h).bind fun q0 => rI q0 fun x h => ρ (pc + 3) (msk q.2.2.2 (pc + 3) L) (.int x :: rest) h) := by
  subst ha hc; rw [H pc L _ h _ _ hi]; show (pR (st.drop n) fun b rest => bif roomOk rest then isO h b (clsOf y) ((c y (.ref b :: (st.take n).reverse) h).bind fun q => aft 1 q pc L rest _) else none) = _; rw [hd]; show (bif roomOk rest then _ else none) = _; rw [hro]; rfl
theorem x_statI (H : St c dd q ρ) {m n y : Nat} (hi : q.2.2.1[pc]? = some (some (.invokestatic m, (y, (n, 1))))) (as : List Value) (ha : (st.take n).reverse = as) (hd : st.drop n = rest) (hle : Nat.ble n st.length = true) (hro : roomOk rest = true) (hy : (Nat.beq y 1000 || (Nat.beq y 1001 || Nat.beq y 1002)) = false) : ρ pc L (st) h = (c y as h).bind fun q0 => rI q0 fun x h => ρ (pc + 3) (msk q.2.2.2 (pc + 3) L) (.int x :: rest) h := by
  subst ha; simp only [Bool.or_eq_false_iff] at hy; rw [H pc L _ h _ _ hi]; show (bif Nat.beq y 1000 then _ else bif Nat.beq y 1001 then _ else bif Nat.beq y 1002 then _ else bif Nat.ble n st.length && roomOk (st.drop n) then (c y (st.take n).reverse h).bind fun q => aft 1 q pc L (st.drop n) _ else none) = _; rw [hy.1, hy.2.1, hy.2.2, hd, hle, hro]; rfl
theorem x_callZ (H : St c dd q ρ) {m n y b ci : Nat} (hi : q.2.2.1[pc]? = some (some (.invokevirtual m, (y, (n, 3))))) (as : List Value) (ha : (st.take n).reverse = as) (hd : st.drop n = .ref b :: rest) (hro : roomOk rest = true) (hc : clsOf y = ci) : ρ pc L (st) h = isO h b ci ((c y (.ref b :: as) h).bind fun q0 => rI q0 fun x h => ρ (pc + 3) (msk q.2.2.2 (pc + 3) L) (.int x :: rest) h) := by
  subst ha hc; rw [H pc L _ h _ _ hi]; show (pR (st.drop n) fun b rest => bif roomOk rest then isO h b (clsOf y) ((c y (.ref b :: (st.take n).reverse) h).bind fun q => aft 3 q pc L rest _) else none) = _; rw [hd]; show (bif roomOk rest then _ else none) = _; rw [hro]; rfl
theorem x_statZ (H : St c dd q ρ) {m n y : Nat} (hi : q.2.2.1[pc]? = some (some (.invokestatic m, (y, (n, 3))))) (as : List Value) (ha : (st.take n).reverse = as) (hd : st.drop n = rest) (hle : Nat.ble n st.length = true) (hro : roomOk rest = true) (hy : (Nat.beq y 1000 || (Nat.beq y 1001 || Nat.beq y 1002)) = false) : ρ pc L (st) h = (c y as h).bind fun q0 => rI q0 fun x h => ρ (pc + 3) (msk q.2.2.2 (pc + 3) L) (.int x :: rest) h := by
  subst ha; simp only [Bool.or_eq_false_iff] at hy; rw [H pc L _ h _ _ hi]; show (bif Nat.beq y 1000 then _ else bif Nat.beq y 1001 then _ else bif Nat.beq y 1002 then _ else bif Nat.ble n st.length && roomOk (st.drop n) then (c y (st.take n).reverse h).bind fun q => aft 3 q pc L (st.drop n) _ else none) = _; rw [hy.1, hy.2.1, hy.2.2, hd, hle, hro]; rfl
theorem x_callR (H : St c dd q ρ) {m n y b ci : Nat} (hi : q.2.2.1[pc]? = some (some (.invokevirtual m, (y, (n, 2))))) (as : List Value) (ha : (st.take n).reverse = as) (hd : st.drop n = .ref b :: rest) (hro : roomOk rest = true) (hc : clsOf y = ci) : ρ pc L (st) h = isO h b ci ((c y (.ref b :: as) h).bind fun q0 => rQ q0 (fun h => ρ (pc + 3) (msk q.2.2.2 (pc + 3) L) (.null :: rest) h) (fun a h => ρ (pc + 3) (msk q.2.2.2 (pc + 3) L) (.ref a :: rest) h)) := by
  subst ha hc; rw [H pc L _ h _ _ hi]; show (pR (st.drop n) fun b rest => bif roomOk rest then isO h b (clsOf y) ((c y (.ref b :: (st.take n).reverse) h).bind fun q => aft 2 q pc L rest _) else none) = _; rw [hd]; show (bif roomOk rest then _ else none) = _; rw [hro]; rfl
theorem x_statR (H : St c dd q ρ) {m n y : Nat} (hi : q.2.2.1[pc]? = some (some (.invokestatic m, (y, (n, 2))))) (as : List Value) (ha : (st.take n).reverse = as) (hd : st.drop n = rest) (hle : Nat.ble n st.length = true) (hro : roomOk rest = true) (hy : (Nat.beq y 1000 || (Nat.beq y 1001 || Nat.beq y 1002)) = false) : ρ pc L (st) h = (c y as h).bind fun q0 => rQ q0 (fun h => ρ (pc + 3) (msk q.2.2.2 (pc + 3) L) (.null :: rest) h) (fun a h => ρ (pc + 3) (msk q.2.2.2 (pc + 3) L) (.ref a :: rest) h) := by
  subst ha; simp only [Bool.or_eq_false_iff] at hy; rw [H pc L _ h _ _ hi]; show (bif Nat.beq y 1000 then _ else bif Nat.beq y 1001 then _ else bif Nat.beq y 1002 then _ else bif Nat.ble n st.length && roomOk (st.drop n) then (c y (st.take n).reverse h).bind fun q => aft 2 q pc L (st.drop n) _ else none) = _; rw [hy.1, hy.2.1, hy.2.2, hd, hle, hro]; rfl
theorem x_init (H : St c dd q ρ) {m n y b : Nat} (hi : q.2.2.1[pc]? = some (some (.invokespecial m, (y, (n, 0))))) (as : List Value) (ha : (st.take n).reverse = as) (hd : st.drop n = .ref b :: rest) (hro : roomOk rest = true) (hy : Nat.beq y 1000 = false) : ρ pc L (st) h = (c y (.ref b :: as) h).bind fun q0 => rV q0 fun h => ρ (pc + 3) (msk q.2.2.2 (pc + 3) L) (rest) h := by
  subst ha; rw [H pc L _ h _ _ hi]; show (bif Nat.beq y 1000 then _ else (pR (st.drop n) fun b rest => bif roomOk rest then (c y (.ref b :: (st.take n).reverse) h).bind fun q => aft 0 q pc L rest _ else none)) = _; rw [hy, hd]; show (bif roomOk rest then _ else none) = _; rw [hro]; rfl
theorem x_oinit (H : St c dd q ρ) {m b : Nat} (hi : q.2.2.1[pc]? = some (some (.invokespecial m, (1000, (0, 0))))) (hro : (roomOk rest && dd) = true) : ρ pc L (.ref b :: rest) h = ρ (pc + 3) (msk q.2.2.2 (pc + 3) L) (rest) h := by
  rw [H pc L _ h _ _ hi]; simp only [stp, pI, pR, hro, cond_true, cond_false, nb00, nb10, nb11, nb20, nb21, nb22]
theorem x_acopy (H : St c dd q ρ) {m a d : Nat} {n dp sp : Int32} (hi : q.2.2.1[pc]? = some (some (.invokestatic m, (1000, (0, 0))))) (hro : (roomOk rest && dd) = true) : ρ pc L (.int n :: .int dp :: .ref d :: .int sp :: .ref a :: rest) h = cpA h a sp d dp n fun h => ρ (pc + 3) (msk q.2.2.2 (pc + 3) L) (rest) h := by
  rw [H pc L _ h _ _ hi]; simp only [stp, pI, pR, hro, cond_true, cond_false, nb00, nb10, nb11, nb20, nb21, nb22]
theorem x_max (H : St c dd q ρ) {m : Nat} {x y : Int32} (hi : q.2.2.1[pc]? = some (some (.invokestatic m, (1001, (2, 1))))) (hro : (roomOk rest && dd) = true) : ρ pc L (.int y :: .int x :: rest) h = ρ (pc + 3) (msk q.2.2.2 (pc + 3) L) (.int (if x < y then y else x) :: rest) h := by
  rw [H pc L _ h _ _ hi]; simp only [stp, pI, pR, hro, cond_true, cond_false, nb00, nb10, nb11, nb20, nb21, nb22]
theorem x_min (H : St c dd q ρ) {m : Nat} {x y : Int32} (hi : q.2.2.1[pc]? = some (some (.invokestatic m, (1002, (2, 1))))) (hro : (roomOk rest && dd) = true) : ρ pc L (.int y :: .int x :: rest) h = ρ (pc + 3) (msk q.2.2.2 (pc + 3) L) (.int (if y < x then y else x) :: rest) h := by
  rw [H pc L _ h _ _ hi]; simp only [stp, pI, pR, hro, cond_true, cond_false, nb00, nb10, nb11, nb20, nb21, nb22]
theorem x_ireturn (H : St c dd q ρ) {x : Int32} (hi : q.2.2.1[pc]? = some (some (.ireturn, r))) (hr : q.1.2.2.2 = some .int) : ρ pc L ([.int x]) h = some (some (.int x), h) := by
  rw [H pc L _ h _ _ hi, hr]; rfl
theorem x_zreturn (H : St c dd q ρ) {x : Int32} (hi : q.2.2.1[pc]? = some (some (.ireturn, r))) (hr : q.1.2.2.2 = some .boolean) : ρ pc L ([.int x]) h = isZ x (some (some (.int x), h)) := by
  rw [H pc L _ h _ _ hi, hr]; rfl
theorem x_areturn (H : St c dd q ρ) {a : Nat} {C : String} (hi : q.2.2.1[pc]? = some (some (.areturn, r))) (hr : q.1.2.2.2 = some (.object C)) : ρ pc L ([.ref a]) h = some (some (.ref a), h) := by
  rw [H pc L _ h _ _ hi, hr]; rfl
theorem x_areturnN (H : St c dd q ρ) {C : String} (hi : q.2.2.1[pc]? = some (some (.areturn, r))) (hr : q.1.2.2.2 = some (.object C)) : ρ pc L ([.null]) h = some (some .null, h) := by
  rw [H pc L _ h _ _ hi, hr]; rfl
theorem x_return (H : St c dd q ρ) (hi : q.2.2.1[pc]? = some (some (.return_, r))) (hr : q.1.2.2.2 = none) : ρ pc L ([]) h = some (none, h) := by
  rw [H pc L _ h _ _ hi, hr]; rfl
end XL
