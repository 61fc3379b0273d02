def mY (i : Nat) : MethodName := mYs.getD i yL_law
def mB (i : Nat) : ByteArray := mBs.getD i cL_law
def mL (i : Nat) : Nat := mLs.getD i 10
def mR (i : Nat) : Option FieldType := mRs.getD i none
def mH (i : Nat) : List (Nat × Nat × Nat × Nat) := mHs.getD i []
def mO (i : Nat) : Nat := mOs.getD i 9
def mN (i : Nat) : Nat := mNs.getD i 9
def mF (i : Nat) : Nat := mFs.getD i 0
def mLo (i : Nat) : Nat := mLos.getD i 0
def pg (i : Nat) : List PE := pgs.getD i []
def mtAll : List Nat := (List.range 49).map (· + 1) ++ ((List.range 15).map (· + 50) ++ [66])
def lkp : List PE → Nat → Option (Instr × Nat × Nat)
  | [], _ => none
  | q :: l, i => match Nat.beq q.1 i with
    | true => some q.2
    | false => lkp l i
def ln : Instr → Nat
  | .bipush _ => 2
  | .sipush _ => 3
  | .ldc _ => 2
  | .ldc_w _ => 3
  | .iload _ => 2
  | .aload _ => 2
  | .istore _ => 2
  | .astore _ => 2
  | .iinc _ _ => 3
  | .goto _ => 3
  | .ifCond _ _ => 3
  | .if_icmp _ _ => 3
  | .getfield _ => 3
  | .putfield _ => 3
  | .getstatic _ => 3
  | .invokevirtual _ => 3
  | .invokestatic _ => 3
  | .invokespecial _ => 3
  | .new _ => 3
  | .newarray _ => 2
  | .lload _ => 2
  | .lstore _ => 2
  | _ => 1
def mS (i : Nat) : Bool := mSs.getD i false
def wh (i : Nat) : List (Nat × Nat × Nat × Nat) := whs.getD i []
def wt (i : Nat) : Nat := wts.getD i 0
def oN (o : Nat) : String := match o with
  | 0 => RX0
  | 1 => RX0
  | 2 => RL
  | _ => RJ6
def oT (_ : Nat) : u_T := TX0
def wC (i : Nat) : Cond := match mH i with
  | [] => .code (mY i) (mB i) (mL i) (mR i)
  | _ => .codeWith (mY i) (mB i) (mL i) (mR i) (mH i)
def exN (e : Nat) : String := match e with
  | 0 => "java/lang/IllegalArgumentException"
  | 1 => "java/lang/IndexOutOfBoundsException"
  | _ => "java/lang/IllegalStateException"
def exU : List String := ["java/lang/RuntimeException", "java/lang/Exception"]
def ci : Int → Int32
  | .ofNat n => nI n
  | .negSucc 0 => -1
  | .negSucc (n + 1) => Int32.ofInt (.negSucc (n + 1))
def room2 (i j : Nat) : Bool := decide (mF j + 1 ≤ mF i) && decide (8 + (mL j + 11) + mLo j ≤ mLo i)
def okN (cc : ByteArray) (pc ik e : Nat) : Bool := match decode cc (pc + 4), decode cc (pc + 6) with
  | .ok (.ldc is, n1), .ok (.invokespecial ic, n2) => decide (n1 = 2) && decide (n2 = 3) && decide (decode cc (pc + 3) = .ok (.dup, 1)) && decide (decode cc (pc + 9) = .ok (.athrow, 1)) && SLs.any (fun s => decide (s.1 = ik) && decide (s.2.1 = is) && decide (s.2.2.1 = ic) && decide (s.2.2.2.1 = e))
  | _, _ => false
def okA (i : Nat) (q : PE) : Bool := match q.2.1 with
  | .goto off => decide ((q.1 : Int) + off = (q.2.2.2 : Int))
  | .ifCond _ off => decide ((q.1 : Int) + off = (q.2.2.2 : Int))
  | .if_icmp _ off => decide ((q.1 : Int) + off = (q.2.2.2 : Int))
  | .getfield idx => decide ((mO i, idx, q.2.2.2) ∈ FLs)
  | .putfield idx => decide ((mO i, idx, q.2.2.2) ∈ FLs) && (decide (i = 0) || decide ((oT (mO i) q.2.2.2).2.2.2 = false))
  | .invokevirtual idx => decide ((mO i, idx, q.2.2.2) ∈ MLs) && decide (mS q.2.2.2 = false) && decide (mH q.2.2.2 = []) && room2 i q.2.2.2 && decide (q.2.2.2 ∈ mtAll) && (decide (mH i = []) || decide (q.1 < wt i))
  | .invokestatic idx => decide ((mO i, idx, q.2.2.2) ∈ MLs) && decide (mS q.2.2.2 = true) && room2 i q.2.2.2 && decide (q.2.2.2 ∈ mtAll) && decide (mH i = [])
  | .ldc_w idx => decide ((mO i, idx, q.2.2.2) ∈ KWs)
  | .ldc idx => decide (mO i = 0) || decide ((mO i, idx, q.2.2.2) ∈ KWs)
  | .getstatic idx => decide (idx = 170) && decide (mO i = 0)
  | .bipush n => decide ((Int8.ofInt n).toInt32 = ci n)
  | .sipush n => decide ((Int16.ofInt n).toInt32 = ci n)
  | .iconst n => decide (Int32.ofInt n = ci n)
  | .iinc j n => decide (Int32.ofInt n = ci n) && decide (j < mL i)
  | .istore j => decide (j < mL i)
  | .istore_n j => decide (j.val < mL i)
  | .astore j => decide (j < mL i)
  | .astore_n j => decide (j.val < mL i)
  | .new ik => !decide (mO i = 0) || (okN (mB i) q.1 ik q.2.2.2 && decide (6 ≤ mF i) && decide (90 ≤ mLo i) && decide (mH i = []))
  | _ => true
def okE (i : Nat) (q : PE) : Bool := decide (decode (mB i) q.1 = .ok (q.2.1, ln q.2.1)) && decide (q.2.2.1 = q.1 + ln q.2.1) && okA i q
def okM (i : Nat) : Bool := (pg i).all (okE i)
def ctx (e : Nat) : Nat := match e with
  | 0 => 37
  | 1 => 39
  | _ => 41
def okW (i : Nat) : Bool := decide (mH i = (wh i).map (fun q => (0, wt i, q.2.1, ctx q.1))) && (wh i).all (fun q => decide (q.1 < 3) && decide (q.2.2.1 < mL i) && (decide (decode (mB i) q.2.1 = .ok (.astore q.2.2.1, 2)) && decide (q.2.2.2 = q.2.1 + 2) || (decide (decode (mB i) q.2.1 = .ok (.astore_n 3, 1)) && decide (q.2.2.1 = 3) && decide (q.2.2.2 = q.2.1 + 1)))) && va_nd ((wh i).map (·.1))
set_option maxRecDepth 100000 in
theorem okW_a : (List.range 67).all okW = true := by decide +kernel
set_option maxRecDepth 100000 in
theorem okM_a : (List.range 50).all okM = true := by decide +kernel
set_option maxRecDepth 100000 in
theorem okM_b : ((List.range 8).map (· + 50)).all okM = true := by decide +kernel
set_option maxRecDepth 100000 in
theorem okM_58 : okM 58 = true := by decide +kernel
set_option maxRecDepth 100000 in
theorem okM_59 : okM 59 = true := by decide +kernel
set_option maxRecDepth 100000 in
theorem okM_60 : okM 60 = true := by decide +kernel
set_option maxRecDepth 100000 in
theorem okM_61 : okM 61 = true := by decide +kernel
set_option maxRecDepth 100000 in
theorem okM_62 : okM 62 = true := by decide +kernel
set_option maxRecDepth 100000 in
theorem okM_63 : okM 63 = true := by decide +kernel
set_option maxRecDepth 100000 in
theorem okM_64 : okM 64 = true := by decide +kernel
set_option maxRecDepth 100000 in
theorem okM_65 : okM 65 = true := by decide +kernel
set_option maxRecDepth 100000 in
theorem okM_66 : okM 66 = true := by decide +kernel
