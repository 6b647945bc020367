/-! ===== the small machine: values, heaps, one step ===== -/
abbrev AV : Type := Int ⊕ (Int64 ⊕ Option Nat)
abbrev AE : Type := (Nat × List AV) ⊕ ((Bool × Nat × (Nat → Int)) ⊕ ((Nat × (Nat → Int64)) ⊕ (Nat × (Nat → Option Nat))))
abbrev AH : Type := Nat → AE
abbrev ARes : Type := Option AV ⊕ String
abbrev AQ : Type := ARes → AH → Nat → Prop
abbrev AC : Type := Nat → List AV → AH → Nat → AQ → Prop
abbrev AL : Type := List (Option AV)
abbrev AJ : Type := Nat → AL → List AV → AH → Nat → Nat → Nat → Prop
abbrev vI (z : Int) : AV := .inl z
abbrev vL (x : Int64) : AV := .inr (.inl x)
abbrev vF (r : Option Nat) : AV := .inr (.inr r)
abbrev vR (k : Nat) : AV := .inr (.inr (some k))
abbrev eO (ci : Nat) (fs : List AV) : AE := .inl (ci, fs)
abbrev eI (n : Nat) (f : Nat → Int) : AE := .inr (.inl (false, n, f))
abbrev eZ (n : Nat) (f : Nat → Int) : AE := .inr (.inl (true, n, f))
abbrev eL (n : Nat) (f : Nat → Int64) : AE := .inr (.inr (.inl (n, f)))
abbrev eR (n : Nat) (f : Nat → Option Nat) : AE := .inr (.inr (.inr (n, f)))
def iI (z : Int) : Int32 := Int32.ofInt z
/-- an int that fits -/
def inR (z : Int) : Prop := -2147483648 ≤ z ∧ z < 2147483648
def lk {α : Type} : List (Nat × α) → Nat → Option α
  | [], _ => none
  | (k, a) :: t, n => cond (Nat.beq k n) (some a) (lk t n)
/-- a row of a method's code: the instruction, the next pc, the targets -/
abbrev ARow : Type := Instr × Nat × List Nat
/-- a call's row: the method's number, its kind (0 virtual, 1 static, 2 special, 3 static nest mate, 4 special nest mate, 5 Object.<init>, 6 arraycopy, 7 static with handlers of its own), how many values it takes with the receiver, the cells and slots that it makes, the receiver's kind of object -/
abbrev AMth : Type := Nat × Nat × Nat × Nat × Nat × Nat
/-- a method: code; fields by pool index (class number, place); calls by pool index; handlers (from, to, pc behind the store, the slot stored to, catch type's name); throw sites; made classes by pool index; cells and slots that it may make; 1 where it answers a boolean -/
abbrev MI : Type := List (Nat × ARow) × List (Nat × Nat × Nat) × List (Nat × AMth) × List (Nat × Nat × Nat × Nat × String) × List (Nat × String) × List (Nat × Nat) × List (Nat × Int64) × Nat × Nat × Nat
abbrev MI.code (I : MI) : List (Nat × ARow) := I.1
abbrev MI.fld (I : MI) : List (Nat × Nat × Nat) := I.2.1
abbrev MI.mth (I : MI) : List (Nat × AMth) := I.2.2.1
abbrev MI.hnd (I : MI) : List (Nat × Nat × Nat × Nat × String) := I.2.2.2.1
abbrev MI.thr (I : MI) : List (Nat × String) := I.2.2.2.2.1
abbrev MI.cls (I : MI) : List (Nat × Nat) := I.2.2.2.2.2.1
abbrev MI.cst (I : MI) : List (Nat × Int64) := I.2.2.2.2.2.2.1
abbrev MI.mc (I : MI) : Nat := I.2.2.2.2.2.2.2.1
abbrev MI.ms (I : MI) : Nat := I.2.2.2.2.2.2.2.2.1
abbrev MI.rt (I : MI) : Nat := I.2.2.2.2.2.2.2.2.2
/-- the first place behind all that is made: the script, the two tables of steps stand behind it -/
def aRO : Nat := 1000
def aRd (N a : Nat) : Prop := a < N ∨ a = aRO ∨ a = aRO + 1 ∨ a = aRO + 2
def aLd (I : AL) (i : Nat) : Option AV := I.getD i none
def aKill (i : Nat) (lv : AL) : AL := match i with
  | 0 => lv
  | j + 1 => match lv.getD j none with
    | some (.inr (.inl _)) => lv.set j none
    | _ => lv
def aSt (i : Nat) (v : AV) (lv : AL) : AL := (aKill i lv).set i (some v)
def aSt2 (i : Nat) (v : AV) (lv : AL) : AL := (aSt i v lv).set (i + 1) none
def aUn (i : Nat) (lv : AL) : AL := (aKill i lv).set i none
def aCat (v : AV) : Nat := match v with
  | .inr (.inl _) => 2
  | _ => 1
def aCats : List AV → Nat
  | [] => 0
  | v :: t => aCat v + aCats t
def wfV (N : Nat) (v : AV) : Prop := match v with
  | .inr (.inr (some k)) => k < N ∨ aRO ≤ k
  | _ => True
def wfE (N : Nat) (e : AE) : Prop := match e with
  | .inl (_, fs) => ∀ v ∈ fs, wfV N v
  | .inr (.inr (.inr (_, f))) => ∀ j k, f j = some k → k < N ∨ aRO ≤ k
  | _ => True
def wfH (N : Nat) (h : AH) : Prop := ∀ k, k < N → wfE N (h k)
def wfS (N : Nat) (lv : AL) (st : List AV) : Prop := (∀ o ∈ lv, ∀ v, o = some v → wfV N v) ∧ ∀ v ∈ st, wfV N v
/-- the values that a new object's fields have -/
def aDef (ty : FieldType) : AV := match ty with
  | .long => vL 0
  | .object _ => vF none
  | .array _ => vF none
  | _ => vI 0
/-- may a field of this type hold the value as it is? -/
def aFit (ty : FieldType) (v : AV) : Prop := match ty, v with
  | .int, .inl _ => True
  | .boolean, .inl z => z = 0 ∨ z = 1
  | .long, .inr (.inl _) => True
  | .object _, .inr (.inr _) => True
  | .array _, .inr (.inr _) => True
  | _, _ => False
def aTy (ci k : Nat) : FieldType := match ci with
  | 0 => tyX1 k
  | 1 => tyX2 k
  | 2 => tyX3 k
  | 3 => tyX4 k
  | 4 => tyX6 k
  | 5 => tyX7 k
  | 6 => tyX8 k
  | _ => tyX9 k
def aNf (ci : Nat) : Nat := match ci with
  | 0 => 4
  | 1 => 7
  | 2 => 5
  | 3 => 10
  | 4 => 10
  | 5 => 4
  | 6 => 6
  | _ => 0
def aFs (ci : Nat) : List AV := (List.range (aNf ci)).map (fun k => aDef (aTy ci k))
def aCmp (c : Jvm.ClassFile.Cond) (a b : Int) : Prop := match c with
  | .eq => a = b
  | .ne => ¬ a = b
  | .lt => a < b
  | .ge => b ≤ a
  | .gt => b < a
  | .le => a ≤ b
/-- the cases of a tableswitch -/
def aSw (J : Nat → Prop) (a : Int) (lo : Int) : List Nat → Prop
  | [] => True
  | t :: ts => (a = lo → J t) ∧ aSw J a (lo + 1) ts
/-- a thrown exception: caught here, or out -/
def aThr (I : MI) (Q : AQ) (J : AJ) (E : String) (pc : Nat) (lv : AL) (h : AH) (N k n : Nat) : Prop :=
  match I.hnd.find? (fun q => decide (q.1 ≤ pc) && decide (pc < q.2.1) && decide (q.2.2.2.2 = E)) with
  | some q => J q.2.2.1 (aUn q.2.2.2.1 lv) [] h N k n
  | none => I.hnd = [] ∧ Q (.inr E) h N ∧ k ≤ I.mc ∧ n ≤ I.ms
/-- what is behind a call -/
def aRes (I : MI) (Q : AQ) (J : AJ) (thr : Bool) (nx pc : Nat) (lv : AL) (rest : List AV) (N k n : Nat) : AQ := fun r h' N' => (N' = N ∨ wfS N lv rest) ∧ match r with
  | .inl o => J nx lv (o.toList ++ rest) h' N' k n
  | .inr E => thr = true ∧ aThr I Q J E pc lv h' N' k n
def aCall (I : MI) (C : AC) (Q : AQ) (J : AJ) (thr : Bool) (y na mc ms nx pc : Nat) (lv : AL) (st : List AV) (h : AH) (N k n : Nat) : Prop :=
  (aCats (st.drop na) ≤ 8 ∧ na ≤ st.length ∧ k + mc ≤ I.mc ∧ n + ms ≤ I.ms) ∧ C y (st.take na).reverse h N (aRes I Q J thr nx pc lv (st.drop na) N (k + mc) (n + ms))
def aRcv (rc : Nat) (as : List AV) (h : AH) (N : Nat) : Prop := match as with
  | .inr (.inr (some a)) :: _ => a < N ∧ ∃ fs, h a = eO rc fs
  | _ => False
def aRecR (as : List AV) : Prop := match as with
  | .inr (.inr (some _)) :: _ => True
  | _ => False
def aCpy (f g : Nat → Int) (sp dp n : Nat) : Nat → Int := fun j => if dp ≤ j ∧ j < dp + n then f (sp + (j - dp)) else g j
def stepI (I : MI) (C : AC) (Q : AQ) (J : AJ) (i : Instr) (nx : Nat) (tg : List Nat) (pc : Nat) (lv : AL) (st : List AV) (h : AH) (N k n : Nat) : Prop :=
  match i with
  | .iconst c => J nx lv (vI c :: st) h N k n
  | .bipush c => J nx lv (vI c :: st) h N k n
  | .sipush c => J nx lv (vI c :: st) h N k n
  | .lconst c => J nx lv (vL (Int64.ofNat c) :: st) h N k n
  | .ldc x => match lk I.cst x with
    | some v => J nx lv (vI v.toInt :: st) h N k n
    | none => False
  | .ldc2_w x => match lk I.cst x with
    | some v => J nx lv (vL v :: st) h N k n
    | none => False
  | .iload a => match aLd lv a with
    | some (.inl z) => J nx lv (vI z :: st) h N k n
    | _ => False
  | .iload_n a => match aLd lv a with
    | some (.inl z) => J nx lv (vI z :: st) h N k n
    | _ => False
  | .lload a => match aLd lv a with
    | some (.inr (.inl z)) => J nx lv (vL z :: st) h N k n
    | _ => False
  | .lload_n a => match aLd lv a with
    | some (.inr (.inl z)) => J nx lv (vL z :: st) h N k n
    | _ => False
  | .aload a => match aLd lv a with
    | some (.inr (.inr (some z))) => J nx lv (vR z :: st) h N k n
    | _ => False
  | .aload_n a => match aLd lv a with
    | some (.inr (.inr (some z))) => J nx lv (vR z :: st) h N k n
    | _ => False
  | .istore a => match st with
    | .inl z :: r => J nx (aSt a (vI z) lv) r h N k n
    | _ => False
  | .istore_n a => match st with
    | .inl z :: r => J nx (aSt a (vI z) lv) r h N k n
    | _ => False
  | .lstore a => match st with
    | .inr (.inl z) :: r => J nx (aSt2 a (vL z) lv) r h N k n
    | _ => False
  | .lstore_n a => match st with
    | .inr (.inl z) :: r => J nx (aSt2 a (vL z) lv) r h N k n
    | _ => False
  | .astore a => match st with
    | .inr (.inr (some z)) :: r => J nx (aSt a (vR z) lv) r h N k n
    | _ => False
  | .astore_n a => match st with
    | .inr (.inr (some z)) :: r => J nx (aSt a (vR z) lv) r h N k n
    | _ => False
  | .iinc a c => match aLd lv a with
    | some (.inl z) => J nx (aSt a (vI (z + c)) lv) st h N k n
    | _ => False
  | .iadd => match st with
    | .inl b :: .inl a :: r => J nx lv (vI (a + b) :: r) h N k n
    | _ => False
  | .isub => match st with
    | .inl b :: .inl a :: r => J nx lv (vI (a - b) :: r) h N k n
    | _ => False
  | .imul => match st with
    | .inl b :: .inl a :: r => J nx lv (vI (a * b) :: r) h N k n
    | _ => False
  | .idiv => match st with
    | .inl b :: .inl a :: r => (0 ≤ a ∧ a < 2147483648 ∧ 0 < b ∧ b < 2147483648) ∧ J nx lv (vI (a / b) :: r) h N k n
    | _ => False
  | .irem => match st with
    | .inl b :: .inl a :: r => (0 ≤ a ∧ a < 2147483648 ∧ 0 < b ∧ b < 2147483648) ∧ J nx lv (vI (a % b) :: r) h N k n
    | _ => False
  | .iand => match st with
    | .inl b :: .inl a :: r => J nx lv (vI (iI a &&& iI b).toInt :: r) h N k n
    | _ => False
  | .ior => match st with
    | .inl b :: .inl a :: r => J nx lv (vI (iI a ||| iI b).toInt :: r) h N k n
    | _ => False
  | .ixor => match st with
    | .inl b :: .inl a :: r => J nx lv (vI (iI a ^^^ iI b).toInt :: r) h N k n
    | _ => False
  | .ishl => match st with
    | .inl b :: .inl a :: r => J nx lv (vI (iI a <<< (iI b &&& 31)).toInt :: r) h N k n
    | _ => False
  | .ishr => match st with
    | .inl b :: .inl a :: r => J nx lv (vI (iI a >>> (iI b &&& 31)).toInt :: r) h N k n
    | _ => False
  | .ladd => match st with
    | .inr (.inl b) :: .inr (.inl a) :: r => J nx lv (vL (a + b) :: r) h N k n
    | _ => False
  | .lsub => match st with
    | .inr (.inl b) :: .inr (.inl a) :: r => J nx lv (vL (a - b) :: r) h N k n
    | _ => False
  | .lmul => match st with
    | .inr (.inl b) :: .inr (.inl a) :: r => J nx lv (vL (a * b) :: r) h N k n
    | _ => False
  | .ldiv => match st with
    | .inr (.inl b) :: .inr (.inl a) :: r => (¬ b = 0) ∧ J nx lv (vL (a / b) :: r) h N k n
    | _ => False
  | .lrem => match st with
    | .inr (.inl b) :: .inr (.inl a) :: r => (¬ b = 0) ∧ J nx lv (vL (a - a / b * b) :: r) h N k n
    | _ => False
  | .land => match st with
    | .inr (.inl b) :: .inr (.inl a) :: r => J nx lv (vL (a &&& b) :: r) h N k n
    | _ => False
  | .lor => match st with
    | .inr (.inl b) :: .inr (.inl a) :: r => J nx lv (vL (a ||| b) :: r) h N k n
    | _ => False
  | .lxor => match st with
    | .inr (.inl b) :: .inr (.inl a) :: r => J nx lv (vL (a ^^^ b) :: r) h N k n
    | _ => False
  | .lshl => match st with
    | .inl b :: .inr (.inl a) :: r => J nx lv (vL (a <<< ((iI b).toInt64 &&& 63)) :: r) h N k n
    | _ => False
  | .lshr => match st with
    | .inl b :: .inr (.inl a) :: r => J nx lv (vL (a >>> ((iI b).toInt64 &&& 63)) :: r) h N k n
    | _ => False
  | .lushr => match st with
    | .inl b :: .inr (.inl a) :: r => J nx lv (vL (a.toUInt64 >>> ((iI b).toInt64.toUInt64 &&& Int64.toUInt64 63)).toInt64 :: r) h N k n
    | _ => False
  | .lcmp => match st with
    | .inr (.inl b) :: .inr (.inl a) :: r => J nx lv (vI (lg_cmp a b).toInt :: r) h N k n
    | _ => False
  | .i2l => match st with
    | .inl a :: r => J nx lv (vL (iI a).toInt64 :: r) h N k n
    | _ => False
  | .l2i => match st with
    | .inr (.inl a) :: r => J nx lv (vI a.toInt32.toInt :: r) h N k n
    | _ => False
  | .dup => match st with
    | v :: r => aCat v = 1 ∧ J nx lv (v :: v :: r) h N k n
    | _ => False
  | .dup2 => match st with
    | v :: w :: r => (aCat v = 1 ∧ aCat w = 1) ∧ J nx lv (v :: w :: v :: w :: r) h N k n
    | _ => False
  | .pop => match st with
    | v :: r => aCat v = 1 ∧ J nx lv r h N k n
    | _ => False
  | .goto _ => match tg with
    | t :: _ => J t lv st h N k n
    | _ => False
  | .ifCond c _ => match tg, st with
    | t :: _, .inl a :: r => inR a ∧ (aCmp c a 0 → J t lv r h N k n) ∧ (¬ aCmp c a 0 → J nx lv r h N k n)
    | _, _ => False
  | .if_icmp c _ => match tg, st with
    | t :: _, .inl b :: .inl a :: r => (inR a ∧ inR b) ∧ (aCmp c a b → J t lv r h N k n) ∧ (¬ aCmp c a b → J nx lv r h N k n)
    | _, _ => False
  | .tableswitch _ lo hi _ => match tg, st with
    | t :: ts, .inl a :: r => inR a ∧ (a < lo ∨ hi < a → J t lv r h N k n) ∧ aSw (fun u => J u lv r h N k n) a lo ts
    | _, _ => False
  | .getfield x => match lk I.fld x, st with
    | some (ci, j), .inr (.inr (some a)) :: r => a < N ∧ ∃ fs v, h a = eO ci fs ∧ fs[j]? = some v ∧ J nx lv (v :: r) h N k n
    | _, _ => False
  | .putfield x => match lk I.fld x, st with
    | some (ci, j), v :: .inr (.inr (some a)) :: r => a < N ∧ ∃ fs, h a = eO ci fs ∧ j < fs.length ∧ aFit (aTy ci j) v ∧ J nx lv r (va_up h a (eO ci (fs.set j v))) N k n
    | _, _ => False
  | .iaload => match st with
    | .inl i :: .inr (.inr (some a)) :: r => aRd N a ∧ ∃ m f, h a = eI m f ∧ (0 ≤ i ∧ i < m ∧ m < 2147483648) ∧ J nx lv (vI (f i.toNat) :: r) h N k n
    | _ => False
  | .baload => match st with
    | .inl i :: .inr (.inr (some a)) :: r => a < N ∧ ∃ m f, h a = eZ m f ∧ (0 ≤ i ∧ i < m ∧ m < 2147483648) ∧ J nx lv (vI (f i.toNat) :: r) h N k n
    | _ => False
  | .aaload => match st with
    | .inl i :: .inr (.inr (some a)) :: r => a < N ∧ ∃ m f, h a = eR m f ∧ (0 ≤ i ∧ i < m ∧ m < 2147483648) ∧ J nx lv (vF (f i.toNat) :: r) h N k n
    | _ => False
  | .iastore => match st with
    | .inl x :: .inl i :: .inr (.inr (some a)) :: r => a < N ∧ ∃ m f, h a = eI m f ∧ (0 ≤ i ∧ i < m ∧ m < 2147483648) ∧ J nx lv r (va_up h a (eI m (va_up f i.toNat x))) N k n
    | _ => False
  | .bastore => match st with
    | .inl x :: .inl i :: .inr (.inr (some a)) :: r => a < N ∧ (x = 0 ∨ x = 1) ∧ ∃ m f, h a = eZ m f ∧ (0 ≤ i ∧ i < m ∧ m < 2147483648) ∧ J nx lv r (va_up h a (eZ m (va_up f i.toNat x))) N k n
    | _ => False
  | .aastore => match st with
    | .inr (.inr (some b)) :: .inl i :: .inr (.inr (some a)) :: r => a < N ∧ b < N ∧ (∃ vs, h b = eO 4 vs) ∧ ∃ m f, h a = eR m f ∧ (0 ≤ i ∧ i < m ∧ m < 2147483648) ∧ J nx lv r (va_up h a (eR m (va_up f i.toNat (some b)))) N k n
    | _ => False
  | .arraylength => match st with
    | .inr (.inr (some a)) :: r => aRd N a ∧ ∃ m f, h a = eI m f ∧ J nx lv (vI (m : Int) :: r) h N k n
    | _ => False
  | .getstatic _ => match tg with
    | t :: _ => J nx lv (vR t :: st) h N k n
    | _ => False
  | .new x => match lk I.thr pc with
    | some E => aCats st ≤ 8 ∧ k + 1 ≤ I.mc ∧ n + 6 ≤ I.ms ∧ I.hnd = [] ∧ Q (.inr E) h N
    | none => match lk I.cls x with
      | some ci => (N < aRO ∧ wfH N h ∧ wfS N lv st ∧ k + 1 ≤ I.mc ∧ n + aNf ci ≤ I.ms) ∧ J nx lv (vR N :: st) (va_up h N (eO ci (aFs ci))) (N + 1) (k + 1) (n + aNf ci)
      | none => False
  | .newarray t => match t, st with
    | .int, .inl a :: r => (0 ≤ a ∧ a < 100000 ∧ N < aRO ∧ wfH N h ∧ wfS N lv r ∧ k + 1 ≤ I.mc ∧ n + a.toNat ≤ I.ms) ∧ J nx lv (vR N :: r) (va_up h N (eI a.toNat (fun _ => 0))) (N + 1) (k + 1) (n + a.toNat)
    | .boolean, .inl a :: r => (0 ≤ a ∧ a < 100000 ∧ N < aRO ∧ wfH N h ∧ wfS N lv r ∧ k + 1 ≤ I.mc ∧ n + a.toNat ≤ I.ms) ∧ J nx lv (vR N :: r) (va_up h N (eZ a.toNat (fun _ => 0))) (N + 1) (k + 1) (n + a.toNat)
    | _, _ => False
  | .anewarray _ => match st with
    | .inl a :: r => (0 ≤ a ∧ a < 100000 ∧ N < aRO ∧ wfH N h ∧ wfS N lv r ∧ k + 1 ≤ I.mc ∧ n + a.toNat ≤ I.ms) ∧ J nx lv (vR N :: r) (va_up h N (eR a.toNat (fun _ => none))) (N + 1) (k + 1) (n + a.toNat)
    | _ => False
  | .invokevirtual x => match lk I.mth x with
    | some (y, 0, na, mc, ms, rc) => aRcv rc (st.take na).reverse h N ∧ aCall I C Q J true y na mc ms nx pc lv st h N k n
    | _ => False
  | .invokestatic x => match lk I.mth x with
    | some (_, 6, _, _, _, _) => match st with
      | .inl ln :: .inl dp :: .inr (.inr (some b)) :: .inl sp :: .inr (.inr (some a)) :: r => a < N ∧ b < N ∧ aCats r ≤ 8 ∧ ∃ m m' f g, h a = eI m f ∧ h b = eI m' g ∧ (0 ≤ sp ∧ 0 ≤ dp ∧ 0 ≤ ln ∧ sp + ln ≤ m ∧ dp + ln ≤ m' ∧ m < 2147483648 ∧ m' < 2147483648) ∧ J nx lv r (va_up h b (eI m' (aCpy f g sp.toNat dp.toNat ln.toNat))) N k n
      | _ => False
    | some (y, 1, na, mc, ms, _) => aCall I C Q J true y na mc ms nx pc lv st h N k n
    | some (y, 7, na, mc, ms, _) => aCall I C Q J true y na mc ms nx pc lv st h N k n
    | some (y, 3, na, mc, ms, _) => aCall I C Q J false y na mc ms nx pc lv st h N k n
    | _ => False
  | .invokespecial x => match lk I.mth x with
    | some (_, 5, _, _, _, _) => match st with
      | .inr (.inr (some _)) :: r => aCats r ≤ 8 ∧ J nx lv r h N k n
      | _ => False
    | some (y, 2, na, mc, ms, _) => aRecR (st.take na).reverse ∧ aCall I C Q J false y na mc ms nx pc lv st h N k n
    | some (y, 4, na, mc, ms, _) => aRecR (st.take na).reverse ∧ aCall I C Q J false y na mc ms nx pc lv st h N k n
    | _ => False
  | .ireturn => match st with
    | [.inl a] => (I.rt = 1 → a = 0 ∨ a = 1) ∧ Q (.inl (some (vI a))) h N ∧ k ≤ I.mc ∧ n ≤ I.ms
    | _ => False
  | .lreturn => match st with
    | [.inr (.inl a)] => Q (.inl (some (vL a))) h N ∧ k ≤ I.mc ∧ n ≤ I.ms
    | _ => False
  | .areturn => match st with
    | [.inr (.inr a)] => Q (.inl (some (vF a))) h N ∧ k ≤ I.mc ∧ n ≤ I.ms
    | _ => False
  | .return_ => match st with
    | [] => Q (.inl none) h N ∧ k ≤ I.mc ∧ n ≤ I.ms
    | _ => False
  | _ => False
def step (I : MI) (C : AC) (Q : AQ) (J : AJ) (pc : Nat) (lv : AL) (st : List AV) (h : AH) (N k n : Nat) : Prop := match lk I.code pc with
  | some (i, nx, tg) => stepI I C Q J i nx tg pc lv st h N k n
  | none => False
/-- closed under the step, and under forgetting locals -/
def Clo (I : MI) (C : AC) (Q : AQ) (J : AJ) : Prop := (∀ pc lv st h N k n, step I C Q J pc lv st h N k n → J pc lv st h N k n) ∧ ∀ pc lv lv' st h N k n, lv'.length = lv.length → (∀ i v, aLd lv' i = some v → aLd lv i = some v) → J pc lv' st h N k n → J pc lv st h N k n
/-- from here the method ends with Q -/
def Run (I : MI) (C : AC) (Q : AQ) (pc : Nat) (lv : AL) (st : List AV) (h : AH) (N k n : Nat) : Prop := ∀ J, Clo I C Q J → J pc lv st h N k n
/-- the first locals: a long takes two -/
def aArgs : List AV → AL
  | [] => []
  | .inr (.inl x) :: t => some (vL x) :: none :: aArgs t
  | v :: t => some v :: aArgs t
def aEnt (nL : Nat) (as : List AV) : AL := aArgs as ++ List.replicate (nL - (aArgs as).length) none
