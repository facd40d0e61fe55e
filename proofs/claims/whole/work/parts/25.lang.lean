/-! ===== the two languages: what a row of tokens means, and its code ===== -/
abbrev Dn : Type := (Nat → Int) → Option Int
abbrev Cd : Type := List (Int × Int)
/-- where it ended, parts so far, code, meaning -/
abbrev PV : Type := Nat × Nat × Cd × Dn
abbrev PP : Type := Nat → Nat → Except Nat PV
def bnd {α β : Type} (x : Except Nat α) (f : α → Except Nat β) : Except Nat β := match x with
  | .error e => .error e
  | .ok a => f a
theorem bnd_ok {α β : Type} {x : Except Nat α} {f : α → Except Nat β} {r : β} : bnd x f = .ok r ↔ ∃ a, x = .ok a ∧ f a = .ok r := by
  cases x with
  | error e => constructor <;> intro h; cases h; obtain ⟨a, h, _⟩ := h; cases h
  | ok a => constructor; exact fun h => ⟨a, rfl, h⟩; rintro ⟨b, h, g⟩; cases h; exact g
def lim (x : Int) : Option Int := if -1000000000 ≤ x ∧ x ≤ 1000000000 then some x else none
def jnd (o a b : Int) : Option Int :=
  if o = 5 then lim (a + b) else if o = 6 then lim (a - b) else if o = 7 then lim (a * b)
  else if o = 8 then (if b = 0 then none else lim (Int.tdiv a b)) else if o = 9 then (if b = 0 then none else lim (Int.tmod a b))
  else if o = 10 then some (if a < b then 1 else 0) else if o = 11 then some (if b < a then 1 else 0) else some (if a = b then 1 else 0)
def jD (o : Int) (x y : Dn) : Dn := fun ρ => match x ρ with
  | none => none
  | some a => match y ρ with
    | none => none
    | some b => jnd o a b
def andD (x y : Dn) : Dn := fun ρ => match x ρ with
  | none => none
  | some a => if a = 1 then y ρ else some a
def orD (x y : Dn) : Dn := fun ρ => match x ρ with
  | none => none
  | some a => if a = 1 then some a else y ρ
def negD (x : Dn) : Dn := fun ρ => match x ρ with
  | none => none
  | some a => some (1 - a)
def opM (x : Int) : Int := if x = 142 then 7 else if x = 147 then 8 else if x = 137 then 9 else 0
def opA (x : Int) : Int := if x = 143 then 5 else if x = 145 then 6 else 0
def cmO (x : Int) : Int := if x = 160 then 10 else if x = 162 then 11 else if x = 161 then 12 else 0
def pPart (c v : Nat → Int) (fw lw : Int) (br : PP) (i l : Nat) : Except Nat PV :=
  if c i = 191 then bnd (br i l) fun a => if c a.1 = 193 then .ok (a.1 + 1, a.2) else .error a.1
  else if (c i = 50 ∧ v i ≤ 1000) ∨ (fw ≤ c i ∧ c i ≤ lw) then
    if l = 50 then .error i
    else if c i = 50 then .ok (i + 1, l + 1, [(0, v i)], fun _ => some (v i))
    else if 17 ≤ c i ∧ c i ≤ 19 then
      if c (i + 1) = 50 ∧ v (i + 1) ≤ 7 then .ok (i + 2, l + 1, [(1, 3 + 8 * (c i - 17) + v (i + 1))], fun ρ => some (ρ (3 + 8 * (c i - 17) + v (i + 1)).toNat)) else .error (i + 1)
    else .ok (i + 1, l + 1, [(1, c i - fw)], fun ρ => some (ρ (c i - fw).toNat))
  else .error i
def pChn (one : PP) (c : Nat → Int) (opf : Int → Int) : Nat → PV → Except Nat PV
  | 0, a => .ok a
  | f + 1, a => if opf (c a.1) = 0 then .ok a else bnd (one (a.1 + 1) a.2.1) fun b => pChn one c opf f (b.1, b.2.1, a.2.2.1 ++ b.2.2.1 ++ [(opf (c a.1), 0)], jD (opf (c a.1)) a.2.2.2 b.2.2.2)
def pTerm (c v : Nat → Int) (fw lw : Int) (br : PP) (i l : Nat) : Except Nat PV := bnd (pPart c v fw lw br i l) fun a => pChn (pPart c v fw lw br) c opM 401 a
def pSumG (c v : Nat → Int) (fw lw : Int) (br : PP) (i l : Nat) : Except Nat PV := bnd (pTerm c v fw lw br i l) fun a => pChn (pTerm c v fw lw br) c opA 401 a
/-- k: how many brackets more may be opened -/
def pSum (c v : Nat → Int) (fw lw : Int) : Nat → PP
  | 0 => pSumG c v fw lw fun i _ => .error i
  | k + 1 => pSumG c v fw lw fun i l => pSum c v fw lw k (i + 1) l
def pNots (c : Nat → Int) : Nat → Nat → Bool → Nat × Bool
  | 0, i, b => (i, b)
  | f + 1, i, b => if c i = 7 then pNots c f (i + 1) (!b) else (i, b)
def pPos (c : Nat → Int) (br sm : PP) (i l : Nat) : Except Nat PV :=
  if c i = 140 then bnd (br i l) fun a => if c a.1 = 141 then .ok (a.1 + 1, a.2) else .error a.1
  else bnd (sm i l) fun a => if cmO (c a.1) = 0 then .error a.1 else bnd (sm (a.1 + 1) a.2.1) fun b => .ok (b.1, b.2.1, a.2.2.1 ++ b.2.2.1 ++ [(cmO (c a.1), 0)], jD (cmO (c a.1)) a.2.2.2 b.2.2.2)
def pPlain (c : Nat → Int) (br sm : PP) (i l : Nat) : Except Nat PV :=
  bnd (pPos c br sm (pNots c 401 i false).1 l) fun a => .ok (a.1, a.2.1, if (pNots c 401 i false).2 then a.2.2.1 ++ [(2, 0)] else a.2.2.1, if (pNots c 401 i false).2 then negD a.2.2.2 else a.2.2.2)
def pSk (one : PP) (c : Nat → Int) (w op : Int) (jd : Dn → Dn → Dn) : Nat → PV → Except Nat PV
  | 0, a => .ok a
  | f + 1, a => if c a.1 = w then bnd (one (a.1 + 1) a.2.1) fun b => pSk one c w op jd f (b.1, b.2.1, a.2.2.1 ++ [(op, (b.2.2.1.length : Int))] ++ b.2.2.1, jd a.2.2.2 b.2.2.2) else .ok a
def pBoth (c : Nat → Int) (br sm : PP) (i l : Nat) : Except Nat PV := bnd (pPlain c br sm i l) fun a => pSk (pPlain c br sm) c 6 4 andD 401 a
def pTestG (c : Nat → Int) (br sm : PP) (i l : Nat) : Except Nat PV := bnd (pBoth c br sm i l) fun a => pSk (pBoth c br sm) c 5 3 orD 401 a
def pTest (c v : Nat → Int) (fw lw : Int) : Nat → PP
  | 0 => pTestG c (fun i _ => .error i) (pSum c v fw lw 0)
  | k + 1 => pTestG c (fun i l => pTest c v fw lw k (i + 1) l) (pSum c v fw lw (k + 1))
/-- head, how often, first sum, second one, test -/
abbrev Cl : Type := Int × Int × (Cd × Dn) × (Cd × Dn) × (Cd × Dn)
def eDn : Cd × Dn := ([], fun _ => some 1)
def pIf (c : Nat → Int) (ts : PP) (i l : Nat) (h t : Int) (x y : Cd × Dn) : Except Nat (Nat × Nat × Cl) :=
  if c i = 4 then bnd (ts (i + 1) l) fun b => .ok (b.1, b.2.1, h, t, x, y, b.2.2) else .ok (i, l, h, t, x, y, eDn)
def pTm (c v : Nat → Int) (ts : PP) (i l : Nat) (h : Int) (x y : Cd × Dn) : Except Nat (Nat × Nat × Cl) :=
  if c i = 25 then (if c (i + 1) = 50 ∧ 1 ≤ v (i + 1) ∧ v (i + 1) ≤ 20 then pIf c ts (i + 2) l h (v (i + 1)) x y else .error (i + 1)) else pIf c ts i l h 1 x y
def pClL (c v : Nat → Int) (i l : Nat) : Except Nat (Nat × Nat × Cl) :=
  if c i = 1 ∨ c i = 2 then bnd (pSum c v 8 13 8 (i + 1) l) fun a => pIf c (pTest c v 8 13 8) a.1 a.2.1 (c i) 1 a.2.2 eDn
  else if c i = 3 then pIf c (pTest c v 8 13 8) (i + 1) l 3 1 eDn eDn else .error i
def pClO (c v : Nat → Int) (i l : Nat) : Except Nat (Nat × Nat × Cl) :=
  if c i = 20 then bnd (pSum c v 14 19 8 (i + 1) l) fun a => if c a.1 = 21 then bnd (pSum c v 14 19 8 (a.1 + 1) a.2.1) fun b => pTm c v (pTest c v 14 19 8) b.1 b.2.1 20 a.2.2 b.2.2 else .error a.1
  else if c i = 22 ∨ c i = 23 ∨ c i = 24 then bnd (pSum c v 14 19 8 (i + 1) l) fun a => pTm c v (pTest c v 14 19 8) a.1 a.2.1 (c i) a.2.2 eDn else .error i
def pTx (one : Nat → Nat → Except Nat (Nat × Nat × Cl)) (c : Nat → Int) (nt : Nat) : Nat → Nat → Nat → List Cl → Except Nat (List Cl)
  | 0, i, _, acc => if c i = 159 then .error (i + 1) else if i < nt then .error i else .ok acc
  | r + 1, i, l, acc => if c i = 159 then bnd (one (i + 1) l) fun a => pTx one c nt r a.1 a.2.1 (acc ++ [a.2.2]) else if i < nt then .error i else .ok acc
def pText (one : Nat → Nat → Except Nat (Nat × Nat × Cl)) (c : Nat → Int) (nt : Nat) : Except Nat (List Cl) := bnd (one 0 0) fun a => pTx one c nt 11 a.1 a.2.1 [a.2.2]
/-- what the clauses with a head tell -/
def clp (lo hi x : Int) : Int := if x < lo then lo else if hi < x then hi else x
def selS (h lo hi : Int) (ρ : Nat → Int) (acc : Int) (q : Cl) : Int := if q.1 = h then (match q.2.2.2.2.2 ρ with
  | some 1 => (match q.2.2.1.2 ρ with
    | some x => clp lo hi x
    | none => acc)
  | _ => acc) else acc
def selL (h lo hi wo : Int) (ρ : Nat → Int) (cls : List Cl) : Int := cls.foldl (selS h lo hi ρ) wo
def env6 (a b c d e f : Int) (k : Nat) : Int := [a, b, c, d, e, f].getD k 0
