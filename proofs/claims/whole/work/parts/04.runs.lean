/-! ===== what an instruction may do with what comes behind it; runs without fuel ===== -/
def leH (h h' : AH) : Prop := h.2.1 ≤ h'.2.1 ∧ h.2.2 ≤ h'.2.2
theorem leH_rf (h : AH) : leH h h := ⟨Nat.le_refl _, Nat.le_refl _⟩
theorem leH_tr {a b c : AH} (h1 : leH a b) (h2 : leH b c) : leH a c := ⟨Nat.le_trans h1.1 h2.1, Nat.le_trans h1.2 h2.2⟩
theorem leH_S (h : AH) (a : Nat) (e : AC) : leH h (hS h a e) := leH_rf _
theorem leH_N (h : AH) (e : AC) (n : Nat) : leH h (hN h e n) := ⟨Nat.le_succ _, Nat.le_add_right _ _⟩
def Gd (h : AH) (F : Kt → Option RV) : Prop := ∀ (K : Kt) (res : RV), F K = some res → (leH h res.2 ∧ ∀ K', F K' = some res) ∨ ∃ (pc : Nat) (L : List (Option Value)) (st : List Value) (h' : AH), K pc L st h' = some res ∧ leH h h' ∧ ∀ K' : Kt, K' pc L st h' = some res → F K' = some res
theorem Gd_K {h : AH} (pc : Nat) (L : List (Option Value)) (st : List Value) {h' : AH} (hg : leH h h') : Gd h (fun K => K pc L st h') := fun _ _ hs => Or.inr ⟨pc, L, st, h', hs, hg, fun _ q => q⟩
theorem Gd_no {h : AH} : Gd h (fun _ => none) := fun _ _ hs => by cases hs
theorem Gd_ret {h : AH} (q : RV) (hg : leH h q.2) : Gd h (fun _ => some q) := fun _ res hs => Or.inl ⟨by cases hs; exact hg, fun _ => hs⟩
theorem Gd_ite {h : AH} {p : Prop} [Decidable p] {F G : Kt → Option RV} (h1 : Gd h F) (h2 : Gd h G) : Gd h (fun K => if p then F K else G K) := by
  by_cases hp : p
  · simp only [if_pos hp]; exact h1
  · simp only [if_neg hp]; exact h2
theorem Gd_cond {h : AH} {b : Bool} {F G : Kt → Option RV} (h1 : Gd h F) (h2 : Gd h G) : Gd h (fun K => bif b then F K else G K) := by
  cases b
  · exact h2
  · exact h1
theorem Gd_pI {h : AH} {st : List Value} {F : Int32 → List Value → Kt → Option RV} (hf : ∀ x r, Gd h (F x r)) : Gd h (fun K => pI st fun x r => F x r K) := by
  cases st with
  | nil => exact Gd_no
  | cons v r => cases v <;> first | exact hf _ _ | exact Gd_no
theorem Gd_pL {h : AH} {st : List Value} {F : Int64 → List Value → Kt → Option RV} (hf : ∀ x r, Gd h (F x r)) : Gd h (fun K => pL st fun x r => F x r K) := by
  cases st with
  | nil => exact Gd_no
  | cons v r => cases v <;> first | exact hf _ _ | exact Gd_no
theorem Gd_pR {h : AH} {st : List Value} {F : Nat → List Value → Kt → Option RV} (hf : ∀ x r, Gd h (F x r)) : Gd h (fun K => pR st fun x r => F x r K) := by
  cases st with
  | nil => exact Gd_no
  | cons v r => cases v <;> first | exact hf _ _ | exact Gd_no
theorem Gd_pQ {h : AH} {st : List Value} {G : List Value → Kt → Option RV} {F : Nat → List Value → Kt → Option RV} (hg : ∀ r, Gd h (G r)) (hf : ∀ x r, Gd h (F x r)) : Gd h (fun K => pQ st (fun r => G r K) fun x r => F x r K) := by
  cases st with
  | nil => exact Gd_no
  | cons v r => cases v <;> first | exact hf _ _ | exact hg _ | exact Gd_no
theorem Gd_gLI {h : AH} {L : List (Option Value)} {i : Nat} {F : Int32 → Kt → Option RV} (hf : ∀ x, Gd h (F x)) : Gd h (fun K => gLI L i fun x => F x K) := by
  unfold gLI
  generalize L[i]? = o
  rcases o with _ | _ | v
  · exact Gd_no
  · exact Gd_no
  · cases v <;> first | exact hf _ | exact Gd_no
theorem Gd_gLL {h : AH} {L : List (Option Value)} {i : Nat} {F : Int64 → Kt → Option RV} (hf : ∀ x, Gd h (F x)) : Gd h (fun K => gLL L i fun x => F x K) := by
  unfold gLL
  generalize L[i]? = o
  rcases o with _ | _ | v
  · exact Gd_no
  · exact Gd_no
  · cases v <;> first | exact hf _ | exact Gd_no
theorem Gd_gLQ {h : AH} {L : List (Option Value)} {i : Nat} {G : Kt → Option RV} {F : Nat → Kt → Option RV} (hg : Gd h G) (hf : ∀ x, Gd h (F x)) : Gd h (fun K => gLQ L i (G K) fun x => F x K) := by
  unfold gLQ
  generalize L[i]? = o
  rcases o with _ | _ | v
  · exact Gd_no
  · exact Gd_no
  · cases v <;> first | exact hf _ | exact hg | exact Gd_no
theorem Gd_sL {h : AH} {L : List (Option Value)} {i : Nat} {v : Value} {F : List (Option Value) → Kt → Option RV} (hf : ∀ L, Gd h (F L)) : Gd h (fun K => sL L i v fun L => F L K) := Gd_cond (hf _) Gd_no
theorem Gd_sLL {h : AH} {L : List (Option Value)} {i : Nat} {v : Value} {F : List (Option Value) → Kt → Option RV} (hf : ∀ L, Gd h (F L)) : Gd h (fun K => sLL L i v fun L => F L K) := Gd_cond (hf _) Gd_no
theorem Gd_jmp {h : AH} {pc : Nat} {off : Int} {F : Nat → Kt → Option RV} (hf : ∀ t, Gd h (F t)) : Gd h (fun K => jmp pc off fun t => F t K) := by
  unfold jmp
  generalize (pc : Int) + off = o
  cases o
  · exact hf _
  · exact Gd_no
theorem Gd_cmpC {h : AH} {cd : ClassFile.Cond} {x y : Int32} {F G : Kt → Option RV} (hf : Gd h F) (hg : Gd h G) : Gd h (fun K => cmpC cd x y (F K) (G K)) := by
  cases cd
  · exact Gd_ite hf hg
  · exact Gd_ite hg hf
  · exact Gd_ite hf hg
  · exact Gd_ite hf hg
  · exact Gd_ite hf hg
  · exact Gd_ite hf hg
theorem Gd_swt {h : AH} {x : Int32} {F : Int → Kt → Option RV} {G : Kt → Option RV} (hf : ∀ o, Gd h (F o)) (hg : Gd h G) : ∀ (offs : List Int) (lo : Int), Gd h (fun K => swt x lo offs (fun o => F o K) (G K))
  | [], _ => hg
  | _ :: r, lo => Gd_ite (hf _) (Gd_swt hf hg r (lo + 1))
theorem Gd_gfI {h : AH} {a ci k : Nat} {F : Int32 → Kt → Option RV} (hf : ∀ x, Gd h (F x)) : Gd h (fun K => gfI h a ci k fun x => F x K) := by
  unfold gfI
  rcases h.1 a with _ | (⟨t, n, g⟩ | ⟨t, n, g⟩ | ⟨c, fs⟩)
  · exact Gd_no
  · exact Gd_no
  · exact Gd_no
  · refine Gd_ite ?_ Gd_no
    generalize fs[k]? = o
    rcases o with _ | v
    · exact Gd_no
    · cases v <;> first | exact hf _ | exact Gd_no
theorem Gd_gfQ {h : AH} {a ci k : Nat} {G : Kt → Option RV} {F : Nat → Kt → Option RV} (hg : Gd h G) (hf : ∀ x, Gd h (F x)) : Gd h (fun K => gfQ h a ci k (G K) fun x => F x K) := by
  unfold gfQ
  rcases h.1 a with _ | (⟨t, n, g⟩ | ⟨t, n, g⟩ | ⟨c, fs⟩)
  · exact Gd_no
  · exact Gd_no
  · exact Gd_no
  · refine Gd_ite ?_ Gd_no
    generalize fs[k]? = o
    rcases o with _ | v
    · exact Gd_no
    · cases v <;> first | exact hf _ | exact hg | exact Gd_no
theorem Gd_pfV {h : AH} {a ci k : Nat} {v : Value} {F : AH → Kt → Option RV} (hf : ∀ h', leH h h' → Gd h (F h')) : Gd h (fun K => pfV h a ci k v fun x => F x K) := by
  unfold pfV
  rcases h.1 a with _ | (⟨t, n, g⟩ | ⟨t, n, g⟩ | ⟨c, fs⟩)
  · exact Gd_no
  · exact Gd_no
  · exact Gd_no
  · exact Gd_ite (hf _ (leH_S _ _ _)) Gd_no
theorem Gd_isZ {h : AH} {x : Int32} {F : Kt → Option RV} (hf : Gd h F) : Gd h (fun K => isZ x (F K)) := Gd_ite hf Gd_no
theorem Gd_ldI {h : AH} {a : Nat} {i : Int32} {F : Int32 → Kt → Option RV} (hf : ∀ x, Gd h (F x)) : Gd h (fun K => ldI h a i fun x => F x K) := by
  unfold ldI
  rcases h.1 a with _ | (⟨t, n, g⟩ | ⟨t, n, g⟩ | ⟨c, fs⟩)
  · exact Gd_no
  · exact Gd_ite Gd_no (hf _)
  · exact Gd_no
  · exact Gd_no
theorem Gd_ldZ {h : AH} {a : Nat} {i : Int32} {F : Int32 → Kt → Option RV} (hf : ∀ x, Gd h (F x)) : Gd h (fun K => ldZ h a i fun x => F x K) := by
  unfold ldZ
  rcases h.1 a with _ | (⟨t, n, g⟩ | ⟨t, n, g⟩ | ⟨c, fs⟩)
  · exact Gd_no
  · exact Gd_ite Gd_no (hf _)
  · exact Gd_no
  · exact Gd_no
theorem Gd_ldQ {h : AH} {a : Nat} {i : Int32} {G : Kt → Option RV} {F : Nat → Kt → Option RV} (hg : Gd h G) (hf : ∀ x, Gd h (F x)) : Gd h (fun K => ldQ h a i (G K) fun x => F x K) := by
  unfold ldQ
  rcases h.1 a with _ | (⟨t, n, g⟩ | ⟨t, n, g⟩ | ⟨c, fs⟩)
  · exact Gd_no
  · exact Gd_no
  · refine Gd_ite Gd_no ?_
    generalize g i.toNatClampNeg = o
    cases o
    · exact hg
    · exact hf _
  · exact Gd_no
theorem Gd_stI {h : AH} {a : Nat} {i x : Int32} {F : AH → Kt → Option RV} (hf : ∀ h', leH h h' → Gd h (F h')) : Gd h (fun K => stI h a i x fun x => F x K) := by
  unfold stI
  rcases h.1 a with _ | (⟨t, n, g⟩ | ⟨t, n, g⟩ | ⟨c, fs⟩)
  · exact Gd_no
  · exact Gd_ite Gd_no (hf _ (leH_S _ _ _))
  · exact Gd_no
  · exact Gd_no
theorem Gd_stZ {h : AH} {a : Nat} {i x : Int32} {F : AH → Kt → Option RV} (hf : ∀ h', leH h h' → Gd h (F h')) : Gd h (fun K => stZ h a i x fun x => F x K) := by
  unfold stZ
  rcases h.1 a with _ | (⟨t, n, g⟩ | ⟨t, n, g⟩ | ⟨c, fs⟩)
  · exact Gd_no
  · exact Gd_ite Gd_no (hf _ (leH_S _ _ _))
  · exact Gd_no
  · exact Gd_no
theorem Gd_isO {h : AH} {a ci : Nat} {F : Kt → Option RV} (hf : Gd h F) : Gd h (fun K => isO h a ci (F K)) := by
  unfold isO
  rcases h.1 a with _ | (⟨t, n, g⟩ | ⟨t, n, g⟩ | ⟨c, fs⟩)
  · exact Gd_no
  · exact Gd_no
  · exact Gd_no
  · exact Gd_ite hf Gd_no
theorem Gd_stQ {h : AH} {a : Nat} {i : Int32} {v : Nat} {F : AH → Kt → Option RV} (hf : ∀ h', leH h h' → Gd h (F h')) : Gd h (fun K => stQ h a i v fun x => F x K) := by
  unfold stQ
  rcases h.1 a with _ | (⟨t, n, g⟩ | ⟨t, n, g⟩ | ⟨c, fs⟩)
  · exact Gd_no
  · exact Gd_no
  · exact Gd_ite Gd_no (Gd_isO (hf _ (leH_S _ _ _)))
  · exact Gd_no
theorem Gd_lnA {h : AH} {a : Nat} {F : Int32 → Kt → Option RV} (hf : ∀ x, Gd h (F x)) : Gd h (fun K => lnA h a fun x => F x K) := by
  unfold lnA
  rcases h.1 a with _ | (⟨t, n, g⟩ | ⟨t, n, g⟩ | ⟨c, fs⟩)
  · exact Gd_no
  · exact hf _
  · exact hf _
  · exact Gd_no
theorem Gd_cpA {h : AH} {s d : Nat} {sp dp n : Int32} {F : AH → Kt → Option RV} (hf : ∀ h', leH h h' → Gd h (F h')) : Gd h (fun K => cpA h s sp d dp n fun x => F x K) := by
  unfold cpA
  rcases h.1 s with _ | (⟨t, n, g⟩ | ⟨t, n, g⟩ | ⟨c, fs⟩)
  · exact Gd_no
  · rcases h.1 d with _ | (⟨t2, n2, g2⟩ | ⟨t2, n2, g2⟩ | ⟨c2, fs2⟩)
    · exact Gd_no
    · exact Gd_ite Gd_no (hf _ (leH_S _ _ _))
    · exact Gd_no
    · exact Gd_no
  · exact Gd_no
  · exact Gd_no
theorem Gd_aft {h : AH} {k : Nat} {q : RV} {pc : Nat} {L : List (Option Value)} {rest : List Value} (hq : leH h q.2) : Gd h (fun K => aft k q pc L rest K) := by
  obtain ⟨v, h'⟩ := q
  match k with
  | 0 => rcases v with _ | v
         · exact Gd_K _ _ _ hq
         · exact Gd_no
  | 1 => rcases v with _ | v
         · exact Gd_no
         · cases v <;> first | exact Gd_K _ _ _ hq | exact Gd_no
  | 2 => rcases v with _ | v
         · exact Gd_no
         · cases v <;> first | exact Gd_K _ _ _ hq | exact Gd_no
  | k + 3 => rcases v with _ | v
             · exact Gd_no
             · cases v <;> first | exact Gd_K _ _ _ hq | exact Gd_no
theorem Gd_bind {h : AH} {o : Option RV} {F : RV → Kt → Option RV} (hf : ∀ q, o = some q → Gd h (F q)) : Gd h (fun K => o.bind fun q => F q K) := by
  cases o with
  | none => exact Gd_no
  | some q => exact hf q rfl
set_option maxHeartbeats 4000000 in
theorem Gd_stp {c : Ct} (hc : ∀ y a h q, c y a h = some q → leH h q.2) (dd : Bool) (rt : Option FieldType) (i : Instr) (r : Nat × (Nat × Nat)) (pc : Nat) (L : List (Option Value)) (st : List Value) (h : AH) : Gd h (stp c dd rt i r pc L st h) := by
  have rf := leH_rf h
  cases i with
  | aconst_null => exact Gd_K _ _ _ rf
  | iconst n => exact Gd_K _ _ _ rf
  | bipush n => exact Gd_K _ _ _ rf
  | sipush n => exact Gd_K _ _ _ rf
  | lconst n => exact Gd_K _ _ _ rf
  | ldc2_w n => exact Gd_K _ _ _ rf
  | iload_n k => exact Gd_gLI fun _ => Gd_K _ _ _ rf
  | iload k => exact Gd_gLI fun _ => Gd_K _ _ _ rf
  | lload_n k => exact Gd_gLL fun _ => Gd_K _ _ _ rf
  | lload k => exact Gd_gLL fun _ => Gd_K _ _ _ rf
  | aload_n k => exact Gd_gLQ (Gd_K _ _ _ rf) fun _ => Gd_K _ _ _ rf
  | aload k => exact Gd_gLQ (Gd_K _ _ _ rf) fun _ => Gd_K _ _ _ rf
  | istore_n k => exact Gd_pI fun _ _ => Gd_sL fun _ => Gd_K _ _ _ rf
  | istore k => exact Gd_pI fun _ _ => Gd_sL fun _ => Gd_K _ _ _ rf
  | lstore k => exact Gd_pL fun _ _ => Gd_sLL fun _ => Gd_K _ _ _ rf
  | astore_n k => exact Gd_pQ (fun _ => Gd_sL fun _ => Gd_K _ _ _ rf) fun _ _ => Gd_sL fun _ => Gd_K _ _ _ rf
  | astore k => exact Gd_pQ (fun _ => Gd_sL fun _ => Gd_K _ _ _ rf) fun _ _ => Gd_sL fun _ => Gd_K _ _ _ rf
  | iinc k n => exact Gd_gLI fun _ => Gd_sL fun _ => Gd_K _ _ _ rf
  | iadd => exact Gd_pI fun _ _ => Gd_pI fun _ _ => Gd_K _ _ _ rf
  | isub => exact Gd_pI fun _ _ => Gd_pI fun _ _ => Gd_K _ _ _ rf
  | imul => exact Gd_pI fun _ _ => Gd_pI fun _ _ => Gd_K _ _ _ rf
  | iand => exact Gd_pI fun _ _ => Gd_pI fun _ _ => Gd_K _ _ _ rf
  | ior => exact Gd_pI fun _ _ => Gd_pI fun _ _ => Gd_K _ _ _ rf
  | ishl => exact Gd_pI fun _ _ => Gd_pI fun _ _ => Gd_K _ _ _ rf
  | ishr => exact Gd_pI fun _ _ => Gd_pI fun _ _ => Gd_K _ _ _ rf
  | idiv => exact Gd_pI fun _ _ => Gd_pI fun _ _ => Gd_ite Gd_no (Gd_K _ _ _ rf)
  | irem => exact Gd_pI fun _ _ => Gd_pI fun _ _ => Gd_ite Gd_no (Gd_K _ _ _ rf)
  | i2l => exact Gd_pI fun _ _ => Gd_K _ _ _ rf
  | l2i => exact Gd_pL fun _ _ => Gd_K _ _ _ rf
  | i2b => exact Gd_pI fun _ _ => Gd_K _ _ _ rf
  | i2s => exact Gd_pI fun _ _ => Gd_K _ _ _ rf
  | ladd => exact Gd_pL fun _ _ => Gd_pL fun _ _ => Gd_K _ _ _ rf
  | lcmp => exact Gd_pL fun _ _ => Gd_pL fun _ _ => Gd_K _ _ _ rf
  | dup => exact Gd_pQ (fun _ => Gd_no) fun _ _ => Gd_K _ _ _ rf
  | dup2 => exact Gd_pI fun _ _ => Gd_pR fun _ _ => Gd_K _ _ _ rf
  | pop => exact Gd_pI fun _ _ => Gd_K _ _ _ rf
  | goto off => exact Gd_jmp fun _ => Gd_K _ _ _ rf
  | if_icmp cd off => exact Gd_pI fun _ _ => Gd_pI fun _ _ => Gd_jmp fun _ => Gd_cmpC (Gd_K _ _ _ rf) (Gd_K _ _ _ rf)
  | ifCond cd off => exact Gd_pI fun _ _ => Gd_jmp fun _ => Gd_cmpC (Gd_K _ _ _ rf) (Gd_K _ _ _ rf)
  | ifnull off => exact Gd_jmp fun _ => Gd_pQ (fun _ => Gd_K _ _ _ rf) fun _ _ => Gd_K _ _ _ rf
  | ifnonnull off => exact Gd_jmp fun _ => Gd_pQ (fun _ => Gd_K _ _ _ rf) fun _ _ => Gd_K _ _ _ rf
  | tableswitch d lo hi offs => exact Gd_pI fun _ _ => Gd_cond (Gd_swt (fun _ => Gd_jmp fun _ => Gd_K _ _ _ rf) (Gd_jmp fun _ => Gd_K _ _ _ rf) _ _) Gd_no
  | getfield n =>
    obtain ⟨r1, r2, r3⟩ := r
    match r3 with
    | 0 => exact Gd_pR fun _ _ => Gd_gfI fun _ => Gd_K _ _ _ rf
    | 1 => exact Gd_pR fun _ _ => Gd_gfQ Gd_no fun _ => Gd_K _ _ _ rf
    | 2 => exact Gd_pR fun _ _ => Gd_gfI fun _ => Gd_K _ _ _ rf
    | 3 => exact Gd_pR fun _ _ => Gd_gfI fun _ => Gd_K _ _ _ rf
    | 4 => exact Gd_pR fun _ _ => Gd_gfQ (Gd_K _ _ _ rf) fun _ => Gd_K _ _ _ rf
    | k + 5 => exact Gd_pR fun _ _ => Gd_gfI fun _ => Gd_K _ _ _ rf
  | putfield n =>
    obtain ⟨r1, r2, r3⟩ := r
    match r3 with
    | 0 => exact Gd_pI fun _ _ => Gd_pR fun _ _ => Gd_pfV fun _ hl => Gd_K _ _ _ hl
    | 1 => exact Gd_pQ (fun _ => Gd_pR fun _ _ => Gd_pfV fun _ hl => Gd_K _ _ _ hl) fun _ _ => Gd_pR fun _ _ => Gd_pfV fun _ hl => Gd_K _ _ _ hl
    | k + 2 => exact Gd_pI fun _ _ => Gd_pR fun _ _ => Gd_isZ (Gd_pfV fun _ hl => Gd_K _ _ _ hl)
  | iaload => exact Gd_pI fun _ _ => Gd_pR fun _ _ => Gd_ldI fun _ => Gd_K _ _ _ rf
  | baload => exact Gd_pI fun _ _ => Gd_pR fun _ _ => Gd_ldZ fun _ => Gd_K _ _ _ rf
  | aaload => exact Gd_pI fun _ _ => Gd_pR fun _ _ => Gd_ldQ Gd_no fun _ => Gd_K _ _ _ rf
  | iastore => exact Gd_pI fun _ _ => Gd_pI fun _ _ => Gd_pR fun _ _ => Gd_stI fun _ hl => Gd_K _ _ _ hl
  | bastore => exact Gd_pI fun _ _ => Gd_pI fun _ _ => Gd_pR fun _ _ => Gd_stZ fun _ hl => Gd_K _ _ _ hl
  | aastore => exact Gd_pR fun _ _ => Gd_pI fun _ _ => Gd_pR fun _ _ => Gd_stQ fun _ hl => Gd_K _ _ _ hl
  | arraylength => exact Gd_pR fun _ _ => Gd_lnA fun _ => Gd_K _ _ _ rf
  | new n => exact Gd_K _ _ _ (leH_N _ _ _)
  | newarray ty =>
    refine Gd_pI fun _ _ => Gd_ite Gd_no ?_
    cases ty <;> first | exact Gd_K _ _ _ (leH_N _ _ _) | exact Gd_no
  | anewarray n => exact Gd_pI fun _ _ => Gd_ite Gd_no (Gd_K _ _ _ (leH_N _ _ _))
  | invokevirtual n => exact Gd_pR fun _ _ => Gd_cond (Gd_isO (Gd_bind fun q hq => Gd_aft (hc _ _ _ _ hq))) Gd_no
  | invokespecial n => exact Gd_cond (Gd_pR fun _ _ => Gd_cond (Gd_K _ _ _ rf) Gd_no) (Gd_pR fun _ _ => Gd_cond (Gd_bind fun q hq => Gd_aft (hc _ _ _ _ hq)) Gd_no)
  | invokestatic n => exact Gd_cond (Gd_pI fun _ _ => Gd_pI fun _ _ => Gd_pR fun _ _ => Gd_pI fun _ _ => Gd_pR fun _ _ => Gd_cond (Gd_cpA fun _ hl => Gd_K _ _ _ hl) Gd_no) (Gd_cond (Gd_pI fun _ _ => Gd_pI fun _ _ => Gd_cond (Gd_K _ _ _ rf) Gd_no) (Gd_cond (Gd_pI fun _ _ => Gd_pI fun _ _ => Gd_cond (Gd_K _ _ _ rf) Gd_no) (Gd_cond (Gd_bind fun q hq => Gd_aft (hc _ _ _ _ hq)) Gd_no)))
  | ireturn =>
    refine Gd_pI fun x s => ?_
    cases s with
    | nil =>
      cases rt with
      | none => exact Gd_no
      | some t => cases t <;> first | exact Gd_isZ (Gd_ret _ rf) | exact Gd_ret _ rf | exact Gd_no
    | cons v s => exact Gd_no
  | areturn =>
    cases rt with
    | none => exact Gd_no
    | some t =>
      cases t <;> first | exact Gd_no | skip
      refine Gd_pQ (fun s => ?_) fun x s => ?_
      · cases s
        · exact Gd_ret _ rf
        · exact Gd_no
      · cases s
        · exact Gd_ret _ rf
        · exact Gd_no
  | return_ =>
    cases rt with
    | none =>
      cases st
      · exact Gd_ret _ rf
      · exact Gd_no
    | some t => exact Gd_no
  | _ => exact Gd_no
/-- more fuel gives the same -/
theorem rAt_mono {c : Ct} (hc : ∀ y a h q, c y a h = some q → leH h q.2) {dd : Bool} {q : MT} : ∀ (n : Nat) (pc : Nat) (L : List (Option Value)) (st : List Value) (h : AH) (res : RV), rAt c dd q n pc L st h = some res → rAt c dd q (n + 1) pc L st h = some res ∧ leH h res.2
  | 0, _, _, _, _, _, hs => by cases hs
  | n + 1, pc, L, st, h, res, hs => by
    unfold rAt at hs ⊢
    generalize q.2.2.1[pc]? = o at hs ⊢
    rcases o with _ | _ | ⟨i, r⟩
    · cases hs
    · cases hs
    · rcases Gd_stp hc dd q.1.2.2.2 i r pc L st h _ _ hs with ⟨h1, h2⟩ | ⟨pc', L', st', h', k1, k2, k3⟩
      · exact ⟨h2 _, h1⟩
      · obtain ⟨m1, m2⟩ := rAt_mono hc n _ _ _ _ _ k1
        exact ⟨k3 _ m1, leH_tr k2 m2⟩
theorem rAt_add {c : Ct} (hc : ∀ y a h q, c y a h = some q → leH h q.2) {dd : Bool} {q : MT} {n : Nat} (k : Nat) {pc : Nat} {L : List (Option Value)} {st : List Value} {h : AH} {res : RV} (hs : rAt c dd q n pc L st h = some res) : rAt c dd q (n + k) pc L st h = some res := by
  induction k with
  | zero => exact hs
  | succ k ih => exact (rAt_mono hc _ _ _ _ _ _ ih).1
/-- the limit of runs with more and more fuel -/
noncomputable def lim (f : Nat → Option RV) : Option RV := @dite (Option RV) (∃ r n, f n = some r) (Classical.propDecidable _) (fun h => some (Classical.choose h)) (fun _ => none)
theorem lim_some {f : Nat → Option RV} (hf : ∀ n k r, f n = some r → f (n + k) = some r) {r : RV} : lim f = some r ↔ ∃ n, f n = some r := by
  unfold lim
  by_cases h : ∃ r n, f n = some r
  · rw [dif_pos h]
    have hs := Classical.choose_spec h
    constructor
    · intro e
      rw [← Option.some.inj e]
      exact hs
    · rintro ⟨n, hn⟩
      obtain ⟨k, hk⟩ := hs
      have e1 := hf n k r hn
      have e2 := hf k n _ hk
      rw [Nat.add_comm] at e2
      rw [e1] at e2
      exact e2.symm
  · rw [dif_neg h]
    constructor
    · intro e; cases e
    · rintro ⟨n, hn⟩
      exact absurd ⟨r, n, hn⟩ h
noncomputable def rn (c : Ct) (dd : Bool) (q : MT) (pc : Nat) (L : List (Option Value)) (st : List Value) (h : AH) : Option RV := lim fun n => rAt c dd q n pc L st h
theorem rn_some {c : Ct} (hc : ∀ y a h q, c y a h = some q → leH h q.2) {dd : Bool} {q : MT} {pc : Nat} {L : List (Option Value)} {st : List Value} {h : AH} {res : RV} : rn c dd q pc L st h = some res ↔ ∃ n, rAt c dd q n pc L st h = some res := lim_some (f := fun n => rAt c dd q n pc L st h) fun _ k _ hs => rAt_add hc k hs
theorem opt_ext {a b : Option RV} (h : ∀ r, a = some r ↔ b = some r) : a = b := by
  cases a with
  | none =>
    cases b with
    | none => rfl
    | some r => exact ((h r).mpr rfl)
  | some r => exact ((h r).mp rfl).symm
/-- one instruction of a run -/
theorem rn_step {c : Ct} (hc : ∀ y a h q, c y a h = some q → leH h q.2) {dd : Bool} {q : MT} {pc : Nat} {L : List (Option Value)} {st : List Value} {h : AH} {i : Instr} {r : Nat × (Nat × Nat)} (hi : q.2.2.1[pc]? = some (some (i, r))) :
    rn c dd q pc L st h = stp c dd q.1.2.2.2 i r pc L st h fun pc L st h => rn c dd q pc (msk q.2.2.2 pc L) st h := by
  refine opt_ext fun res => ?_
  rw [rn_some hc]
  constructor
  · rintro ⟨n, hn⟩
    cases n with
    | zero => cases hn
    | succ n =>
      unfold rAt at hn
      rw [hi] at hn
      rcases Gd_stp hc dd q.1.2.2.2 i r pc L st h _ _ hn with ⟨h1, h2⟩ | ⟨pc', L', st', h', k1, k2, k3⟩
      · exact h2 _
      · exact k3 _ ((rn_some hc).mpr ⟨n, k1⟩)
  · intro hs
    rcases Gd_stp hc dd q.1.2.2.2 i r pc L st h _ _ hs with ⟨h1, h2⟩ | ⟨pc', L', st', h', k1, k2, k3⟩
    · refine ⟨1, ?_⟩
      unfold rAt
      rw [hi]
      exact h2 _
    · obtain ⟨n, hn⟩ := (rn_some hc).mp k1
      refine ⟨n + 1, ?_⟩
      unfold rAt
      rw [hi]
      exact k3 _ hn
def entL (nL : Nat) (args : List Value) : List (Option Value) :=
  let l := args.flatMap fun v => bif Nat.beq v.category 2 then [some v, none] else [some v]
  l ++ List.replicate (nL - l.length) none
/-- the call of method y at depth d -/
noncomputable def call : Nat → Ct
  | 0 => fun _ _ _ => none
  | d + 1 => fun y args h => match mtab[y]? with
    | some q => bif Nat.ble (entL q.1.2.2.1 args).length q.1.2.2.1 then rn (call d) (Nat.blt 0 d) q 0 (entL q.1.2.2.1 args) [] h else none
    | none => none
theorem call_le : ∀ (d : Nat) (y : Nat) (a : List Value) (h : AH) (q : RV), call d y a h = some q → leH h q.2
  | 0, _, _, _, _, hs => by cases hs
  | d + 1, y, a, h, q, hs => by
    unfold call at hs
    generalize mtab[y]? = o at hs
    cases o with
    | none => cases hs
    | some m =>
      dsimp only at hs
      generalize Nat.ble (entL m.1.2.2.1 a).length m.1.2.2.1 = b at hs
      cases b with
      | false => cases hs
      | true =>
        obtain ⟨n, hn⟩ := (rn_some (call_le d)).mp hs
        exact (rAt_mono (call_le d) _ _ _ _ _ _ hn).2
/-- a run at depth d -/
noncomputable def run (d : Nat) (q : MT) (pc : Nat) (L : List (Option Value)) (st : List Value) (h : AH) : Option RV := rn (call d) (Nat.blt 0 d) q pc L st h
theorem run_step {d : Nat} {q : MT} {pc : Nat} {L : List (Option Value)} {st : List Value} {h : AH} (i : Instr) (r : Nat × (Nat × Nat)) (hi : q.2.2.1[pc]? = some (some (i, r))) :
    run d q pc L st h = stp (call d) (Nat.blt 0 d) q.1.2.2.2 i r pc L st h fun pc L st h => run d q pc (msk q.2.2.2 pc L) st h := rn_step (call_le d) hi
