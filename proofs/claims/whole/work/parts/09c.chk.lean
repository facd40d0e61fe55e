/-- the atype of each kind -/
def atk (a : ArrayType) : Nat := match a with
  | .int => 20
  | .byte => 21
  | .boolean => 22
  | .long => 23
  | _ => 0
/-! ===== one instruction of the evaluator is what the machine does; printed by wip/whole/tools/mk_snd.py ===== -/
def hdPc (c : List Tp) : Nat := match c with
  | t :: _ => t.1
  | [] => 1000000
def jmK (pc : Nat) (off : Int) (c : List Tp) (k : Nat) : Bool := ((hdPc (c.drop k) : Int) == (pc : Int) + off)
def swOk (pc : Nat) (c : List Tp) : List Int → List Nat → Bool
  | [], [] => true
  | o :: os, k :: ks => jmK pc o c k && swOk pc c os ks
  | _, _ => false
def lkOk (pc : Nat) (c : List Tp) : Int → List (Int × Int) → List Nat → Bool
  | _, [], [] => true
  | a, (k, o) :: ps, x :: xs => (k == a) && jmK pc o c x && lkOk pc c (a + 1) ps xs
  | _, _, _ => false
def inF (ow idx ci k : Nat) : Bool := poolF.any fun q => q.1 == ow && q.2.1 == idx && q.2.2.1 == ci && q.2.2.2.1 == k
def inM (ow idx j : Nat) : Bool := poolM.any fun q => q.1 == ow && q.2.1 == idx && q.2.2.1 == j
def inN (ow idx j : Nat) : Bool := poolN.any fun q => q.1 == ow && q.2.1 == idx && q.2.2.1 == j
def inC (ow idx ci : Nat) : Bool := poolC.any fun q => q.1 == ow && q.2.1 == idx && q.2.2.1 == ci
def inX (ow idx k : Nat) : Bool := poolX.any fun q => q.1 == ow && q.2.1 == idx && q.2.2.1 == k
def inI (ow idx : Nat) (a : Int) : Bool := poolI.any fun q => q.1 == ow && q.2.1 == idx && q.2.2.1 == a
def inJ (ow idx : Nat) (a : Int) : Bool := poolJ.any fun q => q.1 == ow && q.2.1 == idx && q.2.2.1 == a
theorem inF_ok {ow idx ci k : Nat} (h : inF ow idx ci k = true) : Cond.fieldLink (cn ow) idx (cT ci k).1 (cT ci k).2.1 (cT ci k).2.2.1 ∈ lw_good ∧ ci < 13 ∧ k < cN ci := by
  obtain ⟨q, hq, h⟩ := List.any_eq_true.mp h
  have hp := List.all_eq_true.mp poolF_ok q hq
  simp only [Bool.and_eq_true, beq_iff_eq, decide_eq_true_eq] at h hp
  obtain ⟨⟨⟨rfl, rfl⟩, rfl⟩, rfl⟩ := h
  exact ⟨inT_mem hp.1.1, hp.1.2, hp.2⟩
theorem inM_ok {ow idx j : Nat} (h : inM ow idx j = true) : Cond.methodLink (cn ow) idx (mY j) ∈ lw_good ∧ j < 286 := by
  obtain ⟨q, hq, h⟩ := List.any_eq_true.mp h
  have hp := List.all_eq_true.mp poolM_ok q hq
  simp only [Bool.and_eq_true, beq_iff_eq, decide_eq_true_eq] at h hp
  obtain ⟨⟨rfl, rfl⟩, rfl⟩ := h
  exact ⟨inT_mem hp.1, hp.2⟩
theorem inN_ok {ow idx j : Nat} (h : inN ow idx j = true) : (∃ q ∈ poolN, q.1 = ow ∧ q.2.1 = idx ∧ q.2.2.1 = j) ∧ j < 286 := by
  obtain ⟨q, hq, h⟩ := List.any_eq_true.mp h
  have hp := List.all_eq_true.mp poolN_ok q hq
  simp only [Bool.and_eq_true, beq_iff_eq, decide_eq_true_eq] at h hp
  obtain ⟨⟨rfl, rfl⟩, rfl⟩ := h
  exact ⟨⟨q, hq, rfl, rfl, rfl⟩, hp.2⟩
theorem inC_ok {ow idx ci : Nat} (h : inC ow idx ci = true) : Cond.classLink (cn ow) idx (cn ci) ∈ lw_good ∧ ci < 13 := by
  obtain ⟨q, hq, h⟩ := List.any_eq_true.mp h
  have hp := List.all_eq_true.mp poolC_ok q hq
  simp only [Bool.and_eq_true, beq_iff_eq, decide_eq_true_eq] at h hp
  obtain ⟨⟨rfl, rfl⟩, rfl⟩ := h
  exact ⟨inT_mem hp.1, hp.2⟩
theorem inX_ok {ow idx k : Nat} (h : inX ow idx k = true) : Cond.methodLink (cn ow) idx (jdkY k) ∈ lw_good := by
  obtain ⟨q, hq, h⟩ := List.any_eq_true.mp h
  have hp := List.all_eq_true.mp poolX_ok q hq
  simp only [Bool.and_eq_true, beq_iff_eq, decide_eq_true_eq] at h hp
  obtain ⟨⟨rfl, rfl⟩, rfl⟩ := h
  exact inT_mem hp
theorem inI_ok {ow idx : Nat} {a : Int} (h : inI ow idx a = true) : Cond.constant (cn ow) idx (Int32.ofInt a) ∈ lw_good ∧ rg a := by
  obtain ⟨q, hq, h⟩ := List.any_eq_true.mp h
  have hp := List.all_eq_true.mp poolI_ok q hq
  simp only [Bool.and_eq_true, beq_iff_eq, decide_eq_true_eq] at h hp
  obtain ⟨⟨rfl, rfl⟩, rfl⟩ := h
  exact ⟨inT_mem hp.1, hp.2⟩
theorem inJ_ok {ow idx : Nat} {a : Int} (h : inJ ow idx a = true) : Cond.constantLong (cn ow) idx (Int64.ofInt a) ∈ lw_good ∧ rl a := by
  obtain ⟨q, hq, h⟩ := List.any_eq_true.mp h
  have hp := List.all_eq_true.mp poolJ_ok q hq
  simp only [Bool.and_eq_true, beq_iff_eq, decide_eq_true_eq] at h hp
  obtain ⟨⟨rfl, rfl⟩, rfl⟩ := h
  exact ⟨inT_mem hp.1, hp.2⟩
def rgB (n : Int) : Bool := decide (-2147483648 ≤ n) && decide (n < 2147483648)
theorem rgB_ok {n : Int} (h : rgB n = true) : rg n := by
  unfold rgB at h
  simp only [Bool.and_eq_true, decide_eq_true_eq] at h
  exact h

def iok (j : Nat) (full : List Tp) (pc : Nat) (ins : Instr) (len : Nat) (a : Int) (b k e : Nat) (ls : List Nat) (c : List Tp) : Bool := match ins with
  | .iconst n => (len == 1) && (hdPc c == pc + 1) && (rgB n)
  | .bipush n => (len == 2) && (hdPc c == pc + 2) && (rgB n && decide ((Int8.ofInt n).toInt32 = Int32.ofInt n))
  | .sipush n => (len == 3) && (hdPc c == pc + 3) && (rgB n && decide ((Int16.ofInt n).toInt32 = Int32.ofInt n))
  | .ldc i => (len == 2) && (hdPc c == pc + 2) && ((match k with
    | 0 => inI (mOw j) i a
    | _ => (mOw j == 5) && ((i == 85 && a == 0) || (i == 91 && a == 1))))
  | .ldc_w i => (len == 3) && (hdPc c == pc + 3) && (inI (mOw j) i a)
  | .lconst n => (len == 1) && (hdPc c == pc + 1) && (decide (Int64.ofNat n = Int64.ofInt a) && rgB a)
  | .ldc2_w i => (len == 3) && (hdPc c == pc + 3) && (inJ (mOw j) i a)
  | .iload_n n => (len == 1) && (hdPc c == pc + 1) && ((n.val == b))
  | .iload n => (len == 2) && (hdPc c == pc + 2) && ((n == b))
  | .istore_n n => (len == 1) && (hdPc c == pc + 1) && ((n.val == b) && decide (b < mN j))
  | .istore n => (len == 2) && (hdPc c == pc + 2) && ((n == b) && decide (b < mN j))
  | .lload_n n => (len == 1) && (hdPc c == pc + 1) && ((n.val == b))
  | .lload n => (len == 2) && (hdPc c == pc + 2) && ((n == b))
  | .lstore_n n => (len == 1) && (hdPc c == pc + 1) && ((n.val == b) && decide (b + 1 < mN j))
  | .lstore n => (len == 2) && (hdPc c == pc + 2) && ((n == b) && decide (b + 1 < mN j))
  | .aload_n n => (len == 1) && (hdPc c == pc + 1) && ((n.val == b))
  | .aload n => (len == 2) && (hdPc c == pc + 2) && ((n == b))
  | .astore_n n => (len == 1) && (hdPc c == pc + 1) && ((n.val == b) && decide (b < mN j))
  | .astore n => (len == 2) && (hdPc c == pc + 2) && ((n == b) && decide (b < mN j))
  | .iinc n _ => (len == 3) && (hdPc c == pc + 3) && ((n == b) && decide (b < mN j))
  | .iadd => (len == 1) && (hdPc c == pc + 1)
  | .isub => (len == 1) && (hdPc c == pc + 1)
  | .imul => (len == 1) && (hdPc c == pc + 1)
  | .iand => (len == 1) && (hdPc c == pc + 1)
  | .ior => (len == 1) && (hdPc c == pc + 1)
  | .ishl => (len == 1) && (hdPc c == pc + 1)
  | .ishr => (len == 1) && (hdPc c == pc + 1)
  | .iushr => (len == 1) && (hdPc c == pc + 1)
  | .idiv => (len == 1) && (hdPc c == pc + 1)
  | .irem => (len == 1) && (hdPc c == pc + 1)
  | .ineg => (len == 1) && (hdPc c == pc + 1)
  | .ladd => (len == 1) && (hdPc c == pc + 1)
  | .lsub => (len == 1) && (hdPc c == pc + 1)
  | .lmul => (len == 1) && (hdPc c == pc + 1)
  | .ldiv => (len == 1) && (hdPc c == pc + 1)
  | .lrem => (len == 1) && (hdPc c == pc + 1)
  | .i2l => (len == 1) && (hdPc c == pc + 1)
  | .l2i => (len == 1) && (hdPc c == pc + 1)
  | .i2b => (len == 1) && (hdPc c == pc + 1)
  | .lcmp => (len == 1) && (hdPc c == pc + 1)
  | .dup => (len == 1) && (hdPc c == pc + 1)
  | .dup2 => (len == 1) && (hdPc c == pc + 1)
  | .pop => (len == 1) && (hdPc c == pc + 1)
  | .iaload => (len == 1) && (hdPc c == pc + 1)
  | .laload => (len == 1) && (hdPc c == pc + 1)
  | .iastore => (len == 1) && (hdPc c == pc + 1)
  | .lastore => (len == 1) && (hdPc c == pc + 1)
  | .aconst_null => (len == 1) && (hdPc c == pc + 1)
  | .bastore => (len == 1) && (hdPc c == pc + 1)
  | .ifCond _ off => (len == 3) && (hdPc c == pc + 3) && (jmK pc off c b)
  | .if_icmp _ off => (len == 3) && (hdPc c == pc + 3) && (jmK pc off c b)
  | .ifnull off => (len == 3) && (hdPc c == pc + 3) && (jmK pc off c b)
  | .ifnonnull off => (len == 3) && (hdPc c == pc + 3) && (jmK pc off c b)
  | .if_acmp _ off => (len == 3) && (hdPc c == pc + 3) && (jmK pc off c b)
  | .goto off => (len == 3) && (match k with
    | 0 => jmK pc off c b
    | _ => ((hdPc (full.drop b) : Int) == (pc : Int) + off))
  | .tableswitch d lo hi offs => jmK pc d c b && (a == lo) && decide (hi = lo + (ls.length : Int) - 1) && swOk pc c offs.toList ls && rgB lo && rgB hi
  | .lookupswitch d ps => jmK pc d c b && lkOk pc c a ps.toList ls && (ps.toList.zip (ps.toList.drop 1)).all (fun (a, next) => a.1 < next.1)
  | .getfield i => (len == 3) && (hdPc c == pc + 3) && (inF (mOw j) i b k && (e == tgo (fty b k)))
  | .putfield i => (len == 3) && (hdPc c == pc + 3) && (inF (mOw j) i b k && (e == fty b k) && (e == 0 || e == 1 || decide (4 ≤ e)) && ((cT b k).2.2.2 == false || (decide ((mY j).name = "<init>") && decide ((cT b k).1 = cn (mOw j)))))
  | .baload => (len == 1) && (hdPc c == pc + 1) && ((b == 21 || b == 22))
  | .aaload => (len == 1) && (hdPc c == pc + 1) && (decide (24 ≤ b) && decide (b < 27))
  | .aastore => (len == 1) && (hdPc c == pc + 1) && (decide (24 ≤ b) && decide (b < 27) && (e == ety b))
  | .arraylength => (len == 1) && (hdPc c == pc + 1) && (decide (20 ≤ b) && decide (b < 27))
  | .newarray t => (len == 2) && (hdPc c == pc + 2) && ((atk t == b) && decide (20 ≤ b))
  | .anewarray i => (len == 3) && (hdPc c == pc + 3) && (((b == 24 && inC (mOw j) i 3) || (b == 25 && inC (mOw j) i 0) || (b == 26 && inC (mOw j) i 7)))
  | .new i => (len == 3) && (hdPc c == pc + 3) && (inC (mOw j) i b && (k == cN b))
  | .invokestatic i => (len == 3) && (hdPc c == pc + 3) && ((match k with
    | 0 => (inM (mOw j) i b || inN (mOw j) i b) && mS b && (e == mNa b) && decide (ls.headD 0 ≤ mN b)
    | 2 => inX (mOw j) i 2
    | 3 => inX (mOw j) i 3
    | 4 => inX (mOw j) i 4
    | 5 => inX (mOw j) i 5
    | _ => false))
  | .invokevirtual i => (len == 3) && (hdPc c == pc + 3) && ((match k with
    | 0 => inM (mOw j) i b && !mS b && (e == mNa b) && decide ((mY b).name ≠ "<init>") && (ls.headD 0 == mOw b + 4) && decide (ls.getD 1 0 ≤ mN b)
    | 6 => inX (mOw j) i 6
    | 7 => inX (mOw j) i 7
    | _ => false))
  | .invokespecial i => (len == 3) && (hdPc c == pc + 3) && ((match k with
    | 0 => (inM (mOw j) i b || inN (mOw j) i b) && !mS b && (e == mNa b) && decide ((mY b).name = "<init>") && decide (mR b = none) && (a == 0) && (ls.headD 0 == mOw b + 4) && decide (ls.getD 1 0 ≤ mN b)
    | 1 => inX (mOw j) i 1
    | _ => false))
  | .ireturn => (len == 1) && ((e == 0 && decide (mR j = some .int)) || (e == 1 && decide (mR j = some .boolean)))
  | .lreturn => (len == 1) && decide (mR j = some .long)
  | .areturn => (len == 1) && (match mR j with
    | some (.object _) => true
    | some (.array _) => true
    | _ => false)
  | .return_ => (len == 1) && decide (mR j = none)
  | _ => false
def iokT (j : Nat) (full : List Tp) (t : Tp) (c : List Tp) : Bool := match t with
  | (pc, some ins, a, b, k, e, ls) => (match decode (mC j) pc with
    | .ok (i, len) => decide (i = ins) && iok j full pc ins len a b k e ls c
    | _ => false)
  | (pc, none, _, b, _, _, _) => hdPc (full.drop b) == pc
def chk (j : Nat) (full : List Tp) : List Tp → Bool
  | [] => true
  | t :: c => iokT j full t c && chk j full c
def CkAll : Prop := ∀ j, j < 286 → hdPc (mCode j) = 0 ∧ chk j (mCode j) (mCode j) = true
