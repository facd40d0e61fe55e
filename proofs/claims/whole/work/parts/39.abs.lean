/-! ===== what both keep, as plain values ===== -/
/-- start, thickness, cloth, through, places -/
abbrev Kn : Type := Int × Int × Int × Int × List Int
abbrev Lwt : Type := List (Int × Int)
/-- knots, boys, sights, (mood, need, thickness), laws, the law in force -/
abbrev Dr : Type := List Kn × List Int × List (Int × Int) × (Int × Int × Int) × List Lwt × Int
/-- what was done, the knots ahead of it; the latest last -/
abbrev Hi : Type := List (Int × List Kn)
/-- drawer, images, what can be undone, tape, (status, lint, fault, stopped), refusals, (held, lean, places) of the latest hands -/
abbrev Ab : Type := Dr × (Option Dr × Option Dr) × Hi × List Int × (Int × Int × Int × Int) × (Int × Int × Int × Int × Int) × Option (Int × Int × List Int)
def k0 : Kn := (0, 0, 0, 0, [])
def pF (k : Kn) (j : Nat) : Int := k.2.2.2.2.getD j 0
def kLen (k : Kn) : Nat := k.2.2.2.2.length
def cTk (T : Lwt) (i : Nat) : Int := (T.getD i (0, 0)).1
def vTk (T : Lwt) (i : Nat) : Int := (T.getD i (0, 0)).2
def clsT (T : Lwt) : List Cl := match pText (pClL (cTk T) (vTk T)) (cTk T) T.length with
  | .ok l => l
  | .error _ => []
def clsD (D : Dr) : List Cl := if D.2.2.2.2.2 = -1 then [] else clsT (D.2.2.2.2.1.getD D.2.2.2.2.2.toNat [])
def moodD (D : Dr) : Int := D.2.2.2.1.1
def needD (D : Dr) : Int := D.2.2.2.1.2.1
def thickD (D : Dr) : Int := D.2.2.2.1.2.2
def knD (D : Dr) : List Kn := D.1
def isKn (D : Dr) (q : Int) : Prop := 0 ≤ q ∧ q < (D.1.length : Int)
def knQ (D : Dr) (q : Int) : Kn := D.1.getD q.toNat k0
def lastP (k : Kn) : Int := if kLen k = 0 then -1 else pF k (kLen k - 1)
def tkK (D : Dr) (k : Kn) : Int := sumN (tkW (clsD D) (moodD D) k.2.1 k.1 (pF k)) (kLen k)
def gpK (D : Dr) (k : Kn) : Int := sumN (gpW (clsD D) (moodD D) k.2.1 k.1 (pF k)) (kLen k)
def holdK (D : Dr) (k : Kn) : Prop := k.2.2.2.1 = 1 ∧ needD D ≤ gpK D k
def wfKn (k : Kn) : Prop := (k.1 = 0 ∨ k.1 = 1) ∧ (1 ≤ k.2.1 ∧ k.2.1 ≤ 9) ∧ (1 ≤ k.2.2.1 ∧ k.2.2.1 ≤ 200) ∧ (k.2.2.2.1 = 0 ∨ k.2.2.2.1 = 1) ∧ kLen k ≤ 12 ∧ (∀ j, j < kLen k → pl3 (pF k j)) ∧ (∀ j, j + 1 < kLen k → pF k (j + 1) ≠ pF k j) ∧ (k.2.2.2.1 = 1 → 3 ≤ kLen k)
def wfLw (T : Lwt) : Prop := T.length ≤ 400 ∧ (∀ i, i < T.length → 0 ≤ vTk T i) ∧ ∃ cls, pText (pClL (cTk T) (vTk T)) (cTk T) T.length = .ok cls
def wfKns (l : List Kn) : Prop := l.length ≤ 8 ∧ ∀ k ∈ l, wfKn k
def wfDr (D : Dr) : Prop := wfKns D.1 ∧ (D.2.1.length ≤ 6 ∧ ∀ c ∈ D.2.1, 1 ≤ c ∧ c ≤ 200) ∧ (D.2.2.1.length ≤ 12 ∧ ∀ p ∈ D.2.2.1, (0 ≤ p.1 ∧ p.1 < 12) ∧ pl3 p.2) ∧ ((0 ≤ moodD D ∧ moodD D ≤ 9) ∧ (0 ≤ needD D ∧ needD D ≤ 99) ∧ (1 ≤ thickD D ∧ thickD D ≤ 9)) ∧ (D.2.2.2.2.1.length ≤ 6 ∧ ∀ T ∈ D.2.2.2.2.1, wfLw T) ∧ (-1 ≤ D.2.2.2.2.2 ∧ D.2.2.2.2.2 < (D.2.2.2.2.1.length : Int))
def wfIm (o : Option Dr) : Prop := ∀ D, o = some D → wfDr D
def wfA (a : Ab) : Prop := wfDr a.1 ∧ (wfIm a.2.1.1 ∧ wfIm a.2.1.2) ∧ (a.2.2.1.length ≤ 16 ∧ ∀ h ∈ a.2.2.1, wfKns h.2 ∧ h.2.length = a.1.1.length ∧ (0 ≤ h.1 ∧ h.1 ≤ 3)) ∧ (a.2.2.2.1.length ≤ 400 ∧ ∀ b ∈ a.2.2.2.1, 0 ≤ b ∧ b < 256) ∧ (∀ x, a.2.2.2.2.2.2 = some x → 3 ≤ x.2.2.length ∧ x.2.2.length ≤ 12)
/-- the sights as the questions take them -/
def smD (D : Dr) (i : Nat) : Int := (D.2.2.1.getD i (0, 0)).1
def spD (D : Dr) (i : Nat) : Int := (D.2.2.1.getD i (0, 0)).2
def prD (D : Dr) (n : Nat) : List Nat := prW (clsD D) (moodD D) (thickD D) n
def ftD (D : Dr) (mi : Int) (n : Nat) : List Nat := (prD D n).filter fun u => fitB (smD D) (spD D) D.2.2.1.length mi n (plN n u)
/-! what calls answer and leave -/
def setSt (a : Ab) (v : Int) : Ab := (a.1, a.2.1, a.2.2.1, a.2.2.2.1, (v, a.2.2.2.2.1.2), a.2.2.2.2.2)
def incR (r : Int × Int × Int × Int × Int) (v : Int) : Int × Int × Int × Int × Int :=
  if v = -1 then (wi (r.1 + 1), r.2) else if v = -2 then (r.1, wi (r.2.1 + 1), r.2.2) else if v = -3 then (r.1, r.2.1, wi (r.2.2.1 + 1), r.2.2.2) else if v = -5 then (r.1, r.2.1, r.2.2.1, wi (r.2.2.2.1 + 1), r.2.2.2.2) else (r.1, r.2.1, r.2.2.1, r.2.2.2.1, wi (r.2.2.2.2 + 1))
def refu (a : Ab) (v : Int) : Int × Ab := (v, a.1, a.2.1, a.2.2.1, a.2.2.2.1, (v, a.2.2.2.2.1.2), incR a.2.2.2.2.2.1 v, a.2.2.2.2.2.2)
def goodA (a : Ab) (v : Int) : Int × Ab := (v, setSt a 0)
def setDr (a : Ab) (D : Dr) : Ab := (D, a.2)
def setHi (a : Ab) (h : Hi) : Ab := (a.1, a.2.1, h, a.2.2.2)
def setTp (a : Ab) (t : List Int) : Ab := (a.1, a.2.1, a.2.2.1, t, a.2.2.2.2)
