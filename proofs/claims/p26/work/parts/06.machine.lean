abbrev PS : Type := (Nat → Nat → Int32) × (Nat → Nat → Int32) × (Nat → Int64)
abbrev PL : Type := List (Nat × Value)
abbrev PR : Type := Option Int32 ⊕ Nat
abbrev KT : Type := Nat → Nat → PL → List Value → PS → Prop
def shX : List (Option Nat) := [none, some 1, some 2, some 3, some 4, none, none, none, some 5, some 6, none, some 7, some 8, some 9, none, some 10, some 11]
def shO (_ : Nat) : List (Option Nat) := shX
def plO (_ : Nat) : Nat := 0
def ari : List (Option (Nat × Nat)) := [none, some (0, 16), some (0, 16), some (0, 16), some (0, 16), some (0, 8), some (0, 8), some (0, 20), some (0, 20), some (0, 20), some (0, 20), some (0, 20), some (0, 16), some (0, 48), some (0, 16), some (0, 60), some (0, 3)]
def objv (ad : Nat → Nat) (F : Nat → Int32) (sh : List (Option Nat)) : List Value := sh.mapIdx (fun k o => match o with
  | some j => Value.ref (ad j)
  | none => .int (F k))
def ent (ad : Nat → Nat) (cA : Nat → ClassId) (S : PS) (i : Nat) : va_E := match ari.getD i none with
  | some (t, n) => .inl (cA t, n, .inl (S.2.1 i))
  | none => .inr (0, objv ad (S.1 0) shX)
def wld (ad : Nat → Nat) (cA : Nat → ClassId) (S : PS) : va_W := (List.range 17).map (fun i => (ad i, ent ad cA S i))
def rv (ad : Nat → Nat) (b t : Nat) : Value → Value
  | .ref i => .ref (ad i)
  | .retAddr 0 => .ref b
  | .retAddr (_ + 1) => .ref t
  | v => v
def fcv : Nat → Int32 := fun j => ([0, 120, 280, 490, 730, 1000, 1290, 1600, 1930, 2280, 2650] : List Int32).getD j 0
def Ar (N0 : Nat) : Nat → Prop := fun q => N0 ≤ q
def Ad (ad : Nat → Nat) (N0 b : Nat) : Prop := (∀ i j : Nat, i < 17 → j < 17 → ad i = ad j → i = j) ∧ (∀ i : Nat, i < 17 → N0 ≤ ad i) ∧ b < N0
def Ev (D : va_G) (cA : Nat → ClassId) (N0 b L : Nat) (xs : Nat → Int32) (t : Nat) (U : State) (H : Heap) : Prop :=
  va_K D vwCl [(cA 0, .int)] U ∧
  va_Z RX0 "FACTORS" "[I" (.ref t) (Ar N0) U H ∧ va_T .int t 11 (fun j => .int (fcv j)) (Ar N0) U H ∧
  vx_Zq Bundle.tN "UNASSIGNED_STACK" Bundle.steD (Ar N0) U H ∧ vx_Zq Bundle.tN "SUPPRESSED_SENTINEL" Bundle.listD (Ar N0) U H ∧
  va_X b L xs U H ∧ b < H.size ∧ (∀ q ∈ SLs, ∃ sa, vk_R RX0 q.2.1 q.2.2.2.2 sa U) ∧
  (∀ x ∈ bwN, va_Nw (.declares x) U) ∧ (∀ e : Nat, e < 3 → va_Nw (.castable (exN e) (exN e)) U) ∧ (∀ e f : Nat, e < 3 → f < 3 → e ≠ f → va_Nc (exN e) (exN f) U)
theorem Ev.go {D : va_G} {cA : Nat → ClassId} {N0 b L : Nat} {xs : Nat → Int32} {t : Nat} {s U : State} {H H1 : Heap} (h : Ev D cA N0 b L xs t s H) (hb : b < N0) (hW : s.WarmedH U.vm) (hz : H.size ≤ H1.size) (hq : ∀ a : Nat, a < H.size → ¬ Ar N0 a → H1[a]? = H[a]?) : Ev D cA N0 b L xs t U H1 := by
  obtain ⟨h1, h2, h3, h4, h5, h6, h7, h8, h9, h10, h11⟩ := h
  have hA := hW.alike
  have hbA : ¬ Ar N0 b := Nat.not_le.mpr hb
  refine ⟨va_K.moved hA h1, va_Z.moved hA (va_Z.kept h2 hq), va_T.moved hA (va_T.kept h3 hq), vx_Zq.moved hA (vx_Zq.kept h4 hq), vx_Zq.moved hA (vx_Zq.kept h5 hq), ?_, Nat.lt_of_lt_of_le h7 hz, fun q hq => ?_, fun x hx => va_Nw.warmD hW (h9 x hx), fun e he => va_Nw.warmC hW (h10 e he), fun e f he hf hef => va_Nc.moved hA (h11 e f he hf hef)⟩
  · exact va_X.moved hA (va_X.kept h6 (hq b h7 hbA))
  · obtain ⟨sa, hs⟩ := h8 q hq
    exact ⟨sa, vk_R.warm hW hs⟩
abbrev LZ : Nat := 256
def xZ : Nat → Int32 := fun _ => 0
def rm (i k : Nat) : Room := { frames := mF i, cells := k, slots := 6 * k, locals := mLo i }
def wsM (i : Nat) : List Cond := wC i :: TT
def Run (k i : Nat) (as : List Value) (S : PS) (r : PR) (S' : PS) : Prop :=
  ∀ (l : Launch) (D : va_G) (cA : Nat → ClassId) (ad : Nat → Nat) (N0 b t : Nat), l.stackTraces = false → Ad ad N0 b →
    vx_Met l (mY i) (wsM i) (rm i k) (fun a U => a = (as.map (rv ad b t)).toArray ∧ va_P D vwCl (wld ad cA S) U.heap ∧ N0 ≤ U.heap.size ∧ Ev D cA N0 b LZ xZ t U U.heap)
      (fun _ st o u => (∃ v : Option Int32, r = .inl v ∧ o = .returned (v.map Value.int)) ∧ va_P D vwCl (wld ad cA S') u.heap ∧ st.heap.size + k ≤ u.heap.size ∧ va_F (Ar N0) st u)
      (fun E st u => (∃ e : Nat, r = .inr e ∧ e < 3 ∧ E = exN e) ∧ va_P D vwCl (wld ad cA S') u.heap ∧ st.heap.size + k ≤ u.heap.size ∧ va_F (Ar N0) st u) k (6 * k) (Ar N0)
def lkL : PL → Nat → Option Value
  | [], _ => none
  | q :: l, i => match Nat.beq q.1 i with
    | true => some q.2
    | false => lkL l i
def kpb (i : Nat) (q : Nat × Value) : Bool := !(q.1 == i) && !(q.1 + 1 == i && q.2.category == 2)
def delL : PL → Nat → (PL → Prop) → Prop
  | [], _, k => k []
  | q :: l, i, k => match kpb i q with
    | true => delL l i (fun t => k (q :: t))
    | false => delL l i k
def popn : Nat → List Value → List Value → (List Value → List Value → Prop) → Prop
  | 0, acc, st, k => k acc st
  | _ + 1, _, [], _ => False
  | n + 1, acc, v :: st, k => popn n (v :: acc) st k
def catS (st : List Value) : Nat := (st.map fun v => v.category).sum
def lkW : List (Nat × Nat × Nat × Nat) → Nat → Option (Nat × Nat × Nat)
  | [], _ => none
  | q :: l, i => match Nat.beq q.1 i with
    | true => some q.2
    | false => lkW l i
def nrw (ty : Option FieldType) (v : Int32) : Prop := match ty with
  | some y => narrow y (.int v) = .int v
  | none => False
def callK (i : Nat) (P : Nat → PR → PS → Prop) (K : KT) (k nx : Nat) (ls : PL) (rest : List Value) (r : PR) (S' : PS) : Prop := match r with
  | .inl none => K k nx ls rest S'
  | .inl (some v) => K k nx ls (.int v :: rest) S'
  | .inr e => match lkW (wh i) e with
    | none => wh i = [] ∧ P k (.inr e) S'
    | some (_, x, nx') => delL ls x (fun ls' => K k nx' ls' [] S')
def jmp (c : ClassFile.Cond) (x y : Int32) (A B : Prop) : Prop := match c with
  | .eq => (x = y → A) ∧ (¬ x = y → B)
  | .ne => (¬ x = y → A) ∧ (x = y → B)
  | .lt => (x < y → A) ∧ (¬ x < y → B)
  | .ge => (y ≤ x → A) ∧ (¬ y ≤ x → B)
  | .gt => (y < x → A) ∧ (¬ y < x → B)
  | .le => (x ≤ y → A) ∧ (¬ x ≤ y → B)
def ciK : Int → (Int32 → Prop) → Prop
  | .ofNat n, k => k (nI n)
  | .negSucc 0, k => k (-1)
  | .negSucc (n + 1), k => k (Int32.ofInt (.negSucc (n + 1)))
def stp (i L : Nat) (xs : Nat → Int32) (Km : Nat) (P : Nat → PR → PS → Prop) (K : KT) (k : Nat) (ins : Instr) (nx ax : Nat) (ls : PL) (st : List Value) (S : PS) : Prop := match ins with
  | .iconst n => ciK n (fun z => K k nx ls (.int z :: st) S)
  | .bipush n => ciK n (fun z => K k nx ls (.int z :: st) S)
  | .sipush n => ciK n (fun z => K k nx ls (.int z :: st) S)
  | .ldc_w _ => K k nx ls (.int (nI ax) :: st) S
  | .ldc _ => ¬ mO i = 0 ∧ K k nx ls (.int (nI ax) :: st) S
  | .iload_n j => match lkL ls j.val with
    | some (.int x) => K k nx ls (.int x :: st) S
    | _ => False
  | .iload j => match lkL ls j with
    | some (.int x) => K k nx ls (.int x :: st) S
    | _ => False
  | .aload_n j => match lkL ls j.val with
    | some (.ref x) => K k nx ls (.ref x :: st) S
    | some (.retAddr x) => K k nx ls (.retAddr x :: st) S
    | _ => False
  | .aload j => match lkL ls j with
    | some (.ref x) => K k nx ls (.ref x :: st) S
    | some (.retAddr x) => K k nx ls (.retAddr x :: st) S
    | _ => False
  | .istore_n j => match st with
    | .int x :: r => delL ls j.val (fun l => K k nx ((j.val, .int x) :: l) r S)
    | _ => False
  | .istore j => match st with
    | .int x :: r => delL ls j (fun l => K k nx ((j, .int x) :: l) r S)
    | _ => False
  | .iinc j n => match lkL ls j with
    | some (.int x) => ciK n (fun z => delL ls j (fun l => K k nx ((j, .int (x + z)) :: l) st S))
    | _ => False
  | .iadd => match st with
    | .int y :: .int x :: r => K k nx ls (.int (x + y) :: r) S
    | _ => False
  | .isub => match st with
    | .int y :: .int x :: r => K k nx ls (.int (x - y) :: r) S
    | _ => False
  | .imul => match st with
    | .int y :: .int x :: r => K k nx ls (.int (x * y) :: r) S
    | _ => False
  | .iand => match st with
    | .int y :: .int x :: r => K k nx ls (.int (x &&& y) :: r) S
    | _ => False
  | .ior => match st with
    | .int y :: .int x :: r => K k nx ls (.int (x ||| y) :: r) S
    | _ => False
  | .ixor => match st with
    | .int y :: .int x :: r => K k nx ls (.int (x ^^^ y) :: r) S
    | _ => False
  | .idiv => match st with
    | .int y :: .int x :: r => (¬ y = 0) ∧ K k nx ls (.int (x / y) :: r) S
    | _ => False
  | .irem => match st with
    | .int y :: .int x :: r => (¬ y = 0) ∧ K k nx ls (.int (x - x / y * y) :: r) S
    | _ => False
  | .ishl => match st with
    | .int y :: .int x :: r => K k nx ls (.int (x <<< (y &&& 31)) :: r) S
    | _ => False
  | .ishr => match st with
    | .int y :: .int x :: r => K k nx ls (.int (x >>> (y &&& 31)) :: r) S
    | _ => False
  | .iushr => match st with
    | .int y :: .int x :: r => K k nx ls (.int (x.toUInt32 >>> (y.toUInt32 &&& Int32.toUInt32 31)).toInt32 :: r) S
    | _ => False
  | .dup => match st with
    | v :: r => match Nat.beq v.category 1 with
      | true => K k nx ls (v :: v :: r) S
      | false => False
    | _ => False
  | .goto _ => K k ax ls st S
  | .ifCond c _ => match st with
    | .int x :: r => jmp c x 0 (K k ax ls r S) (K k nx ls r S)
    | _ => False
  | .if_icmp c _ => match st with
    | .int y :: .int x :: r => jmp c x y (K k ax ls r S) (K k nx ls r S)
    | _ => False
  | .getfield _ => match st with
    | .ref a :: r => match Nat.beq a (plO (mO i)), (shO (mO i)).getD ax none with
      | true, some j => K k nx ls (.ref j :: r) S
      | true, none => K k nx ls (.int (S.1 a ax) :: r) S
      | false, _ => False
    | _ => False
  | .getstatic _ => K k nx ls (.retAddr 1 :: st) S
  | .iaload => match st with
    | .int j :: .ref a :: r => match ari.getD a none with
      | some (0, n) => vp_in j n ∧ K k nx ls (.int (S.2.1 a j.toNatClampNeg) :: r) S
      | _ => False
    | .int j :: .retAddr 0 :: r => vp_in j L ∧ K k nx ls (.int (xs j.toNatClampNeg) :: r) S
    | .int j :: .retAddr 1 :: r => vp_in j 11 ∧ K k nx ls (.int (fcv j.toNatClampNeg) :: r) S
    | _ => False
  | .arraylength => match st with
    | .ref a :: r => match ari.getD a none with
      | some (_, n) => K k nx ls (.int (Int32.ofNat n) :: r) S
      | _ => False
    | .retAddr 0 :: r => K k nx ls (.int (Int32.ofNat L) :: r) S
    | .retAddr 1 :: r => K k nx ls (.int (Int32.ofNat 11) :: r) S
    | _ => False
  | .invokevirtual _ => popn (mN ax + 1) [] st (fun as rest => match as, Nat.ble (catS rest) 8 with
    | .ref a :: _, true => a = plO (mO ax) ∧ ∃ (k' : Nat) (r : PR) (S' : PS), Run k' ax as S r S' ∧ k + k' ≤ Km ∧ callK i P K (k + k') nx ls rest r S'
    | _, _ => False)
  | .invokestatic _ => popn (mN ax) [] st (fun as rest => match Nat.ble (catS rest) 8 with
    | true => ∃ (k' : Nat) (r : PR) (S' : PS), Run k' ax as S r S' ∧ k + k' ≤ Km ∧ callK i P K (k + k') nx ls rest r S'
    | false => False)
  | .new _ => mO i = 0 ∧ Nat.ble (catS st) 8 = true ∧ k + 1 ≤ Km ∧ P (k + 1) (.inr ax) S
  | .ireturn => match st with
    | [.int v] => nrw (mR i) v ∧ P k (.inl (some v)) S
    | _ => False
  | .return_ => match st with
    | [] => mR i = none ∧ P k (.inl none) S
    | _ => False
  | _ => False
