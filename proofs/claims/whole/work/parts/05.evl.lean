def hC (f : Nat → Nat → Nat → Lc → List V → St → Res) (d : Nat) : Nat → List V → St → Res := match d with
  | 0 => fun _ _ _ => none
  | d' + 1 => fun q as s => f d' q 0 (ent 0 as) [] s
def ev : Nat → Nat → Nat → Nat → Lc → List V → St → Res
  | 0, _, _, _, _, _, _ => none
  | F + 1, d, j, i, L, st, s => inner (hC (ev F) d) (fun i L st s => ev F d j i L st s) 1000 ((mCode j).drop i) L st s
noncomputable def EV (d j i : Nat) (L : Lc) (st : List V) (s : St) : Res := @dite _ (∃ r, ∃ F, ev F d j i L st s = some r) (Classical.propDecidable _) (fun h => some (Classical.choose h)) (fun _ => none)
theorem EV_eq (d j i : Nat) (L : Lc) (st : List V) (s : St) : EV d j i L st s = inner (hC EV d) (fun i L st s => EV d j i L st s) 1000 ((mCode j).drop i) L st s := by
  sorry
