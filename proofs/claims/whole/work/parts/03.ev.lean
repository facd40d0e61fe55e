/-! ===== the evaluator: stores, values, one instruction, a method's run ===== -/
abbrev V : Type := Nat × Int
abbrev Lc : Type := List (Nat × V)
/-- kinds of cells by pointer, int and reference fields, arrays, the next pointer, slots made -/
abbrev St : Type := (Int → Nat) × (Int → Nat → Int) × (Int → List Int) × Int × Int
abbrev Res : Type := Option (List V × St)
/-- pc, instruction (none: a label), then numbers that the tables give -/
abbrev Tp : Type := Nat × Option Instr × Int × Nat × Nat × Nat × List Nat
def q0 (pc : Nat) (i : Instr) : Tp := (pc, some i, 0, 0, 0, 0, [])
def q1 (pc : Nat) (i : Instr) (b : Nat) : Tp := (pc, some i, 0, b, 0, 0, [])
def q2 (pc : Nat) (i : Instr) (b c e : Nat) : Tp := (pc, some i, 0, b, c, e, [])
def q3 (pc : Nat) (i : Instr) (a : Int) (b c e : Nat) (ls : List Nat) : Tp := (pc, some i, a, b, c, e, ls)
def qL (pc b : Nat) (ls : List Nat) : Tp := (pc, none, 0, b, 0, 0, ls)
def kd (s : St) (p : Int) : Nat := s.1 p
def gF (s : St) (p : Int) (k : Nat) : Int := s.2.1 p k
def gA (s : St) (p : Int) : List Int := s.2.2.1 p
def nx (s : St) : Int := s.2.2.2.1
def sl (s : St) : Int := s.2.2.2.2
def sF (s : St) (p : Int) (k : Nat) (v : Int) : St := (s.1, (fun q j => if q = p ∧ j = k then v else s.2.1 q j), s.2.2)
def sA (s : St) (p : Int) (l : List Int) : St := (s.1, s.2.1, (fun q => if q = p then l else s.2.2.1 q), s.2.2.2)
def nO (s : St) (ci N : Nat) : St := ((fun q => if q = nx s then ci + 4 else s.1 q), (fun q j => if q = nx s then 0 else s.2.1 q j), s.2.2.1, nx s + 1, sl s + N)
def nA (s : St) (t n : Nat) : St := ((fun q => if q = nx s then t else s.1 q), s.2.1, (fun q => if q = nx s then List.replicate n 0 else s.2.2.1 q), nx s + 1, sl s + n)
/-- 32, 64, 8 bits with their wrap-around -/
def wi (x : Int) : Int := Int.bmod x 4294967296
def wl (x : Int) : Int := Int.bmod x 18446744073709551616
def wb (x : Int) : Int := Int.bmod x 256
def andI (x y : Int) : Int := (Int32.ofInt x &&& Int32.ofInt y).toInt
def orI (x y : Int) : Int := (Int32.ofInt x ||| Int32.ofInt y).toInt
def shlI (x y : Int) : Int := (Int32.ofInt x <<< (Int32.ofInt y &&& 31)).toInt
def shrI (x y : Int) : Int := (Int32.ofInt x >>> (Int32.ofInt y &&& 31)).toInt
def ushrI (x y : Int) : Int := ((Int32.ofInt x).toUInt32 >>> ((Int32.ofInt y).toUInt32 &&& Int32.toUInt32 31)).toInt32.toInt
def lcm (x y : Int) : Int := if y < x then 1 else if x = y then 0 else -1
def maxI (x y : Int) : Int := if x < y then y else x
def minI (x y : Int) : Int := if y < x then y else x
def absI (x : Int) : Int := if x < 0 then -x else x
def strL : List (List Int) := [[116, 97, 107, 101, 115, 32, 103, 114, 105, 112, 115, 32, 98, 97, 114, 115, 32, 105, 102, 32, 111, 114, 32, 97, 110, 100, 32, 110, 111, 116, 32, 112, 108, 97, 99, 101, 32, 115, 105, 100, 101, 32, 97, 116, 32, 98, 101, 102, 111, 114, 101, 32, 116, 104, 105, 99, 107, 32, 109, 111, 111, 100], [108, 97, 121, 32, 111, 110, 32, 116, 104, 114, 111, 117, 103, 104, 32, 100, 114, 97, 119, 32, 109, 105, 114, 114, 111, 114, 32, 116, 105, 109, 101, 115, 32, 107, 110, 111, 116, 115, 32, 100, 111, 110, 101, 32, 108, 97, 116, 101, 115, 116, 32, 109, 97, 110, 121, 32, 101, 110, 100, 32, 99, 108, 111, 116, 104]]
def strLen (i : Int) : Int := ((strL.getD i.toNat []).length : Int)
def strCh (i k : Int) : Int := (strL.getD i.toNat []).getD k.toNat 0
/-! reads, writes, checks: none where the machine would throw -/
def rF (s : St) (p : Int) (t k : Nat) (K : Int → Res) : Res := if kd s p = t then K (gF s p k) else none
def wF (s : St) (p : Int) (t k : Nat) (v : Int) (K : St → Res) : Res := if kd s p = t then K (sF s p k v) else none
def rA (s : St) (p : Int) (t : Nat) (i : Int) (K : Int → Res) : Res := if kd s p = t ∧ 0 ≤ i ∧ i < (gA s p).length then K ((gA s p).getD i.toNat 0) else none
def wA (s : St) (p : Int) (t : Nat) (i v : Int) (K : St → Res) : Res := if kd s p = t ∧ 0 ≤ i ∧ i < (gA s p).length then K (sA s p ((gA s p).set i.toNat v)) else none
def lA (s : St) (p : Int) (t : Nat) (K : Int → Res) : Res := if kd s p = t then K (gA s p).length else none
def mA (s : St) (t : Nat) (n : Int) (K : Int → St → Res) : Res := if 0 ≤ n ∧ n ≤ 1000000 then K (nx s) (nA s t n.toNat) else none
def mO (s : St) (ci N : Nat) (K : Int → St → Res) : Res := K (nx s) (nO s ci N)
def bk (x : Int) (r : Res) : Res := match x with
  | .ofNat 0 => r
  | .ofNat 1 => r
  | _ => none
def rk (s : St) (t : Nat) (x : Int) (r : Res) : Res := if x = 0 ∨ kd s x = t then r else none
def oK (s : St) (p : Int) (t : Nat) (r : Res) : Res := if kd s p = t then r else none
def cV (o : Res) (K : St → Res) : Res := match o with
  | some ([], s) => K s
  | _ => none
def cI (o : Res) (K : Int → St → Res) : Res := match o with
  | some ([(0, x)], s) => K x s
  | _ => none
def cL (o : Res) (K : Int → St → Res) : Res := match o with
  | some ([(2, x)], s) => K x s
  | _ => none
def cR (o : Res) (K : Int → St → Res) : Res := match o with
  | some ([(1, x)], s) => K x s
  | _ => none
def cpL (f : List Int) (sp : Nat) (g : List Int) (dp n : Nat) : List Int := g.take dp ++ (f.drop sp).take n ++ g.drop (dp + n)
def aC (s : St) (p sp q dp n : Int) (K : St → Res) : Res := if kd s p = 20 ∧ kd s q = 20 ∧ 0 ≤ sp ∧ 0 ≤ dp ∧ 0 ≤ n ∧ sp + n ≤ (gA s p).length ∧ dp + n ≤ (gA s q).length then K (sA s q (cpL (gA s p) sp.toNat (gA s q) dp.toNat n.toNat)) else none
def sC (i k : Int) (K : Int → Res) : Res := if 0 ≤ k ∧ k < strLen i then K (strCh i k) else none
def lk : Lc → Nat → Option V
  | [], _ => none
  | (j, v) :: L, i => bif Nat.beq j i then some v else lk L i
def put1 (L : Lc) (i : Nat) (v : V) : Lc := (i, v) :: L.filter (fun q => !(q.1 == i) && !(q.1 + 1 == i && q.2.1 == 2))
def put2 (L : Lc) (i : Nat) (v : V) : Lc := (i, v) :: L.filter (fun q => !(q.1 == i) && (!(q.1 == i + 1) && !(q.1 + 1 == i && q.2.1 == 2)))
def pick (L : Lc) : List Nat → Lc
  | [] => []
  | i :: is => match lk L i with
    | some v => (i, v) :: pick L is
    | none => pick L is
def ldI (L : Lc) (i : Nat) (K : Int → Res) : Res := match lk L i with
  | some (0, x) => K x
  | _ => none
def ldJ (L : Lc) (i : Nat) (K : Int → Res) : Res := match lk L i with
  | some (2, x) => K x
  | _ => none
def ldR (L : Lc) (i : Nat) (K : V → Res) : Res := match lk L i with
  | some (1, x) => K (1, x)
  | some (3, x) => K (3, x)
  | _ => none
def pI (st : List V) (K : Int → List V → Res) : Res := match st with
  | (0, x) :: st => K x st
  | _ => none
def pJ (st : List V) (K : Int → List V → Res) : Res := match st with
  | (2, x) :: st => K x st
  | _ => none
def pR (st : List V) (K : Int → List V → Res) : Res := match st with
  | (1, x) :: st => K x st
  | _ => none
def pS (st : List V) (K : Int → List V → Res) : Res := match st with
  | (3, x) :: st => K x st
  | _ => none
def pQ (st : List V) (K : V → List V → Res) : Res := match st with
  | (1, x) :: st => K (1, x) st
  | (3, x) :: st => K (3, x) st
  | _ => none
def p1 (st : List V) (K : V → List V → Res) : Res := match st with
  | (0, x) :: st => K (0, x) st
  | (1, x) :: st => K (1, x) st
  | (3, x) :: st => K (3, x) st
  | _ => none
def pE (st : List V) (r : Res) : Res := match st with
  | [] => r
  | _ => none
def tkA : Nat → List V → List V → (List V → List V → Res) → Res
  | 0, st, acc, K => K acc st
  | n + 1, v :: st, acc, K => tkA n st (v :: acc) K
  | _ + 1, [], _, _ => none
def rcv (as : List V) (K : Int → Res) : Res := match as with
  | (1, p) :: _ => K p
  | _ => none
def swt (x : Int) (K : Nat → Res) : Int → List Nat → Nat → Res
  | _, [], b => K b
  | a, k :: ks, b => if x = a then K k else swt x K (a + 1) ks b
def cX (a : Nat) (o : Res) (K : List V → St → Res) : Res := match a with
  | 0 => cV o fun s => K [] s
  | 1 => cI o fun x s => K [(0, x)] s
  | 2 => cL o fun x s => K [(2, x)] s
  | _ => cR o fun x s => K [(1, x)] s
/-- the stack below a call's arguments is small -/
def wt : List V → Nat
  | [] => 0
  | v :: st => (bif Nat.beq v.1 2 then 2 else 1) + wt st
def wk (st : List V) (r : Res) : Res := bif Nat.ble (wt st) 8 then r else none
/-- a call's arguments have no more words than told -/
def ak (as : List V) (n : Nat) (r : Res) : Res := bif Nat.ble (wt as) n then r else none
/-- a call that is not one of the table's methods: Object's constructor, Math, arraycopy, String -/
def semX (c : Nat) (L : Lc) (st : List V) (s : St) (K : Nat → Lc → List V → St → Res) : Res := match c with
  | 1 => pR st fun p st => if p = 0 then none else wk st (K 0 L st s)
  | 2 => pI st fun y st => pI st fun x st => wk st (K 0 L ((0, maxI x y) :: st) s)
  | 3 => pI st fun y st => pI st fun x st => wk st (K 0 L ((0, minI x y) :: st) s)
  | 4 => pI st fun x st => wk st (K 0 L ((0, wi (absI x)) :: st) s)
  | 5 => pI st fun n st => pI st fun dp st => pR st fun q st => pI st fun sp st => pR st fun p st => wk st (aC s p sp q dp n fun s => K 0 L st s)
  | 6 => pS st fun i st => wk st (K 0 L ((0, strLen i) :: st) s)
  | 7 => pI st fun k st => pS st fun i st => wk st (sC i k fun x => K 0 L ((0, x) :: st) s)
  | _ => none
def semI (cv : Nat → List V → St → Res) (lb : Nat → Lc → List V → St → Res) (ins : Instr) (a : Int) (b c e : Nat) (ls : List Nat) (L : Lc) (st : List V) (s : St) (K : Nat → Lc → List V → St → Res) : Res :=
  match ins with
  | .iconst n => K 0 L ((0, n) :: st) s
  | .bipush n => K 0 L ((0, n) :: st) s
  | .sipush n => K 0 L ((0, n) :: st) s
  | .ldc _ => (match c with
    | 0 => K 0 L ((0, a) :: st) s
    | _ => K 0 L ((3, a) :: st) s)
  | .ldc_w _ => K 0 L ((0, a) :: st) s
  | .lconst _ => K 0 L ((2, a) :: st) s
  | .ldc2_w _ => K 0 L ((2, a) :: st) s
  | .aconst_null => K 0 L ((1, 0) :: st) s
  | .iload_n _ => ldI L b fun x => K 0 L ((0, x) :: st) s
  | .iload _ => ldI L b fun x => K 0 L ((0, x) :: st) s
  | .lload_n _ => ldJ L b fun x => K 0 L ((2, x) :: st) s
  | .lload _ => ldJ L b fun x => K 0 L ((2, x) :: st) s
  | .aload_n _ => ldR L b fun v => K 0 L (v :: st) s
  | .aload _ => ldR L b fun v => K 0 L (v :: st) s
  | .istore_n _ => pI st fun x st => K 0 (put1 L b (0, x)) st s
  | .istore _ => pI st fun x st => K 0 (put1 L b (0, x)) st s
  | .lstore_n _ => pJ st fun x st => K 0 (put2 L b (2, x)) st s
  | .lstore _ => pJ st fun x st => K 0 (put2 L b (2, x)) st s
  | .astore_n _ => pQ st fun v st => K 0 (put1 L b v) st s
  | .astore _ => pQ st fun v st => K 0 (put1 L b v) st s
  | .iinc _ n => ldI L b fun x => K 0 (put1 L b (0, wi (x + n))) st s
  | .iadd => pI st fun y st => pI st fun x st => K 0 L ((0, wi (x + y)) :: st) s
  | .isub => pI st fun y st => pI st fun x st => K 0 L ((0, wi (x - y)) :: st) s
  | .imul => pI st fun y st => pI st fun x st => K 0 L ((0, wi (x * y)) :: st) s
  | .iand => pI st fun y st => pI st fun x st => K 0 L ((0, andI x y) :: st) s
  | .ior => pI st fun y st => pI st fun x st => K 0 L ((0, orI x y) :: st) s
  | .ishl => pI st fun y st => pI st fun x st => K 0 L ((0, shlI x y) :: st) s
  | .ishr => pI st fun y st => pI st fun x st => K 0 L ((0, shrI x y) :: st) s
  | .iushr => pI st fun y st => pI st fun x st => K 0 L ((0, ushrI x y) :: st) s
  | .idiv => pI st fun y st => pI st fun x st => if y = 0 then none else K 0 L ((0, wi (Int.tdiv x y)) :: st) s
  | .irem => pI st fun y st => pI st fun x st => if y = 0 then none else K 0 L ((0, Int.tmod x y) :: st) s
  | .ineg => pI st fun x st => K 0 L ((0, wi (-x)) :: st) s
  | .ladd => pJ st fun y st => pJ st fun x st => K 0 L ((2, wl (x + y)) :: st) s
  | .lsub => pJ st fun y st => pJ st fun x st => K 0 L ((2, wl (x - y)) :: st) s
  | .lmul => pJ st fun y st => pJ st fun x st => K 0 L ((2, wl (x * y)) :: st) s
  | .ldiv => pJ st fun y st => pJ st fun x st => if y = 0 then none else K 0 L ((2, wl (Int.tdiv x y)) :: st) s
  | .lrem => pJ st fun y st => pJ st fun x st => if y = 0 then none else K 0 L ((2, Int.tmod x y) :: st) s
  | .i2l => pI st fun x st => K 0 L ((2, x) :: st) s
  | .l2i => pJ st fun x st => K 0 L ((0, wi x) :: st) s
  | .i2b => pI st fun x st => K 0 L ((0, wb x) :: st) s
  | .lcmp => pJ st fun y st => pJ st fun x st => K 0 L ((0, lcm x y) :: st) s
  | .dup => p1 st fun v st => K 0 L (v :: v :: st) s
  | .dup2 => pI st fun i st => pR st fun p st => K 0 L ((0, i) :: (1, p) :: (0, i) :: (1, p) :: st) s
  | .pop => p1 st fun _ st => K 0 L st s
  | .ifCond .eq _ => pI st fun x st => if x = 0 then K b L st s else K 0 L st s
  | .ifCond .ne _ => pI st fun x st => if x = 0 then K 0 L st s else K b L st s
  | .ifCond .lt _ => pI st fun x st => if x < 0 then K b L st s else K 0 L st s
  | .ifCond .ge _ => pI st fun x st => if x < 0 then K 0 L st s else K b L st s
  | .ifCond .gt _ => pI st fun x st => if 0 < x then K b L st s else K 0 L st s
  | .ifCond .le _ => pI st fun x st => if 0 < x then K 0 L st s else K b L st s
  | .if_icmp .eq _ => pI st fun y st => pI st fun x st => if x = y then K b L st s else K 0 L st s
  | .if_icmp .ne _ => pI st fun y st => pI st fun x st => if x = y then K 0 L st s else K b L st s
  | .if_icmp .lt _ => pI st fun y st => pI st fun x st => if x < y then K b L st s else K 0 L st s
  | .if_icmp .ge _ => pI st fun y st => pI st fun x st => if x < y then K 0 L st s else K b L st s
  | .if_icmp .gt _ => pI st fun y st => pI st fun x st => if y < x then K b L st s else K 0 L st s
  | .if_icmp .le _ => pI st fun y st => pI st fun x st => if y < x then K 0 L st s else K b L st s
  | .ifnull _ => pR st fun x st => if x = 0 then K b L st s else K 0 L st s
  | .ifnonnull _ => pR st fun x st => if x = 0 then K 0 L st s else K b L st s
  | .if_acmp .eq _ => pR st fun y st => pR st fun x st => if x = y then K b L st s else K 0 L st s
  | .goto _ => (match c with
    | 0 => K b L st s
    | _ => lb b (pick L ls) st s)
  | .tableswitch _ _ _ _ => pI st fun x st => swt x (fun k => K k L st s) a ls b
  | .lookupswitch _ _ => pI st fun x st => swt x (fun k => K k L st s) a ls b
  | .getfield _ => pR st fun p st => rF s p (b + 4) c fun x => K 0 L ((e, x) :: st) s
  | .putfield _ => (match e with
    | 0 => pI st fun x st => pR st fun p st => wF s p (b + 4) c x fun s => K 0 L st s
    | 1 => pI st fun x st => pR st fun p st => bk x (wF s p (b + 4) c x fun s => K 0 L st s)
    | _ => pR st fun x st => pR st fun p st => rk s e x (wF s p (b + 4) c x fun s => K 0 L st s))
  | .iaload => pI st fun i st => pR st fun p st => rA s p 20 i fun x => K 0 L ((0, x) :: st) s
  | .baload => pI st fun i st => pR st fun p st => rA s p b i fun x => K 0 L ((0, x) :: st) s
  | .laload => pI st fun i st => pR st fun p st => rA s p 23 i fun x => K 0 L ((2, x) :: st) s
  | .aaload => pI st fun i st => pR st fun p st => rA s p b i fun x => K 0 L ((1, x) :: st) s
  | .iastore => pI st fun x st => pI st fun i st => pR st fun p st => wA s p 20 i x fun s => K 0 L st s
  | .bastore => (match e with
    | 1 => pI st fun x st => pI st fun i st => pR st fun p st => bk x (wA s p 22 i x fun s => K 0 L st s)
    | _ => pI st fun x st => pI st fun i st => pR st fun p st => wA s p 21 i (wb x) fun s => K 0 L st s)
  | .lastore => pJ st fun x st => pI st fun i st => pR st fun p st => wA s p 23 i x fun s => K 0 L st s
  | .aastore => pR st fun x st => pI st fun i st => pR st fun p st => rk s e x (wA s p b i x fun s => K 0 L st s)
  | .arraylength => pR st fun p st => lA s p b fun x => K 0 L ((0, x) :: st) s
  | .newarray _ => pI st fun n st => mA s b n fun x s => K 0 L ((1, x) :: st) s
  | .anewarray _ => pI st fun n st => mA s b n fun x s => K 0 L ((1, x) :: st) s
  | .new _ => mO s b c fun x s => K 0 L ((1, x) :: st) s
  | .invokestatic _ => (match c with
    | 0 => tkA e st [] fun as st => ak as (ls.headD 0) (wk st (cX a.toNat (cv b as s) fun r s => K 0 L (r ++ st) s))
    | _ => semX c L st s K)
  | .invokevirtual _ => (match c with
    | 0 => tkA e st [] fun as st => rcv as fun p => oK s p (ls.headD 0) (ak as (ls.getD 1 0) (wk st (cX a.toNat (cv b as s) fun r s => K 0 L (r ++ st) s)))
    | _ => semX c L st s K)
  | .invokespecial _ => (match c with
    | 0 => tkA e st [] fun as st => rcv as fun p => oK s p (ls.headD 0) (ak as (ls.getD 1 0) (wk st (cX a.toNat (cv b as s) fun r s => K 0 L (r ++ st) s)))
    | _ => semX c L st s K)
  | .ireturn => pI st fun x st => pE st (match e with
    | 1 => bk x (some ([(0, x)], s))
    | _ => some ([(0, x)], s))
  | .lreturn => pJ st fun x st => pE st (some ([(2, x)], s))
  | .areturn => pR st fun x st => pE st (some ([(1, x)], s))
  | .return_ => pE st (some ([], s))
  | _ => none
def sem (cv : Nat → List V → St → Res) (lb : Nat → Lc → List V → St → Res) (t : Tp) (L : Lc) (st : List V) (s : St) (K : Nat → Lc → List V → St → Res) : Res :=
  match t with
  | (_, some ins, a, b, c, e, ls) => semI cv lb ins a b c e ls L st s K
  | (_, none, _, b, _, _, ls) => lb b (pick L ls) st s
def inner (cv : Nat → List V → St → Res) (lb : Nat → Lc → List V → St → Res) : Nat → List Tp → Lc → List V → St → Res
  | n + 1, t :: c, L, st, s => sem cv lb t L st s fun k L st s => inner cv lb n (c.drop k) L st s
  | _, _, _, _, _ => none
def ent : Nat → List V → Lc
  | _, [] => []
  | i, (2, x) :: as => (i, 2, x) :: ent (i + 2) as
  | i, v :: as => (i, v) :: ent (i + 1) as
