/-! ===== the class: calls that change the drawer a little ===== -/
def kPs : List Int := [1, 3, 10, 14, 16, 18, 20, 22, 24, 26, 28]
theorem kp_in {i : Nat} (h : i < 8) : (3 + 11 + 2 * (i : Int)) ∈ kPs := by
  have : i = 0 ∨ i = 1 ∨ i = 2 ∨ i = 3 ∨ i = 4 ∨ i = 5 ∨ i = 6 ∨ i = 7 := by omega
  rcases this with rfl | rfl | rfl | rfl | rfl | rfl | rfl | rfl <;> decide
/-- a call that changes nothing but D -/
def aForce (a : Ab) (l : Int) : Int × Ab := if -1 ≤ l ∧ l < (a.1.2.2.2.2.1.length : Int) then goodA (setDr a (a.1.1, a.1.2.1, a.1.2.2.1, a.1.2.2.2.1, a.1.2.2.2.2.1, l)) a.1.2.2.2.2.2 else refu a (-2)
def aForget (a : Ab) : Int × Ab := ((a.1.2.2.1.length : Int), setDr a (a.1.1, a.1.2.1, [], a.1.2.2.2))
def aHome (a : Ab) : Int × Ab := ((a.1.2.1.length : Int), setDr a (a.1.1, [], a.1.2.2))
def aBoy (a : Ab) (c : Int) : Int × Ab := if 1 ≤ c ∧ c ≤ 200 then (if a.1.2.1.length < 6 then goodA (setDr a (a.1.1, a.1.2.1 ++ [c], a.1.2.2)) (a.1.2.1.length : Int) else refu a (-5)) else refu a (-1)
def aSight (a : Ab) (k pl : Int) : Int × Ab := if (0 ≤ k ∧ k < 12) ∧ (0 ≤ pl ∧ pl ≤ 2) then (if a.1.2.2.1.length < 12 then goodA (setDr a (a.1.1, a.1.2.1, a.1.2.2.1 ++ [(k, pl)], a.1.2.2.2)) ((a.1.2.2.1.length : Int) + 1) else refu a (-5)) else refu a (-1)
def knotB (st th cl : Int) : Prop := (0 ≤ st ∧ st ≤ 1) ∧ (1 ≤ th ∧ th ≤ 9) ∧ (1 ≤ cl ∧ cl ≤ 200)
def aKnot (a : Ab) (st th cl : Int) : Int × Ab := if (0 ≤ st ∧ st ≤ 1) ∧ (1 ≤ th ∧ th ≤ 9) ∧ (1 ≤ cl ∧ cl ≤ 200) then (if a.1.1.length < 8 then goodA (setHi (setDr a (a.1.1 ++ [(st, th, cl, 0, [])], a.1.2)) []) (a.1.1.length : Int) else refu a (-5)) else refu a (-1)
def setTm (t : Int × Int × Int) (what v : Int) : Int × Int × Int := if what = 0 then (v, t.2) else if what = 1 then (t.1, v, t.2.2) else (t.1, t.2.1, v)
def getTm (t : Int × Int × Int) (what : Int) : Int := if what = 0 then t.1 else if what = 1 then t.2.1 else t.2.2
def aTerms (a : Ab) (what v : Int) : Int × Ab := if (0 ≤ what ∧ what ≤ 2) ∧ ((if what = 2 then 1 else 0) ≤ v ∧ v ≤ (if what = 1 then 99 else 9)) then goodA (setHi (setDr a (a.1.1, a.1.2.1, a.1.2.2.1, setTm a.1.2.2.2.1 what v, a.1.2.2.2.2)) []) (getTm a.1.2.2.2.1 what) else refu a (-1)
def aEnd (a : Ab) (n : Int) : Int × Ab := if 0 ≤ n ∧ n ≤ (a.2.2.2.1.length : Int) then (n, setTp a (a.2.2.2.1.take n.toNat)) else (-1, a)
section CD2
variable {s s' : St} {a : Ab} {d : Nat} {dr : Dr}
theorem LgC.nil {L : Int} {K : List Kn} (h : gF s L 0 = 0) : LgC s L [] K := ⟨h, fun i hi => absurd hi (by simp)⟩
theorem DrC.kns {K' : List Kn} (R : DrC s 3 dr) (hs' : ShC s') (hk : ∀ p, kd s' p = kd s p) (hf : ∀ k, k ≠ 1 → k < 100 → gF s' 3 k = gF s 3 k) (hfs : ∀ p k, 98 ≤ p → k < 100 → gF s' p k = gF s p k) (ha : ∀ x : Int, (5 ≤ x ∧ x ≤ 9) ∨ 98 ≤ x → gA s' x = gA s x) (hc : gF s' 3 1 = K'.length) (hkn : ∀ i, i < K'.length → KnC s' (3 + 11 + 2 * (i : Int)) (K'.getD i k0)) : DrC s' 3 (K', dr.2) := by
  obtain ⟨-, -, ⟨b1, b2⟩, ⟨s1, s2⟩, t1, ⟨l1, l2⟩, f1⟩ := R
  have a5 : gA s' (3 + 2) = gA s (3 + 2) := ha 5 (by decide)
  have a6 : gA s' (3 + 3) = gA s (3 + 3) := ha 6 (by decide)
  have a7 : gA s' (3 + 4) = gA s (3 + 4) := ha 7 (by decide)
  have a8 : gA s' (3 + 5) = gA s (3 + 5) := ha 8 (by decide)
  have a9 : gA s' (3 + 6) = gA s (3 + 6) := ha 9 (by decide)
  refine ⟨hs'.d3, ⟨hc, hkn⟩, ⟨by rw [hf 3 (by decide) (by decide)]; exact b1, fun i hi => ?_⟩, ⟨by rw [hf 6 (by decide) (by decide)]; exact s1, fun i hi => ?_⟩, by rw [a8]; exact t1, ⟨by rw [hf 9 (by decide) (by decide)]; exact l1, fun t ht => ?_⟩, by rw [hf 10 (by decide) (by decide)]; exact f1⟩
  · unfold af; rw [a5]; exact b2 i hi
  · unfold af; rw [a6, a7]; exact s2 i hi
  · have e : af s' (3 + 6) t = af s (3 + 6) t := by unfold af; rw [a9]
    rw [e]
    have h98 := (l2 t ht).1
    exact ⟨h98, (l2 t ht).2.fr (fun p q1 q2 => hk p) (fun k hk => hfs _ k h98 hk) (fun p q1 q2 => ha p (Or.inr (by omega)))⟩
theorem ShC.kn (hs : ShC s) {i : Nat} (hi : i < 8) : kd s (3 + 11 + 2 * (i : Int)) = 7 ∧ gF s (3 + 11 + 2 * (i : Int)) 5 = 3 + 11 + 2 * (i : Int) + 1 ∧ kd s (3 + 11 + 2 * (i : Int) + 1) = 20 ∧ (gA s (3 + 11 + 2 * (i : Int) + 1)).length = 12 := by
  have h := hs.d3.2.2.2.2.2.2.2.2.2.2 (i : Int) (by omega) (by omega)
  rw [show (3 : Int) + 11 + 2 * (i : Int) + 1 = 3 + 12 + 2 * (i : Int) by omega]
  exact h
theorem gdApp {α : Type} {l : List α} {x y : α} {i : Nat} (h : i < l.length) : (l ++ [x]).getD i y = l.getD i y := by
  rw [List.getD_eq_getElem?_getD, List.getD_eq_getElem?_getD, List.getElem?_append_left h]
theorem gdApp2 {α : Type} {l : List α} {x y : α} : (l ++ [x]).getD l.length y = x := by
  rw [List.getD_eq_getElem?_getD, List.getElem?_append_right (Nat.le_refl _), Nat.sub_self]
  rfl
theorem c_addKnot0 {st th cl : Int} (hs : ShC s) (R : DrC s 3 dr) (hl : ¬ dr.1.length < 8) : X0_addKnot (d + 1) s 3 st th cl = some ([(0, 0)], s) := by
  have f1 : gF s 3 1 = dr.1.length := R.2.1.1
  rw [e_X0_addKnot]
  simp (disch := ((try simp only [kd_sF, kd_sA, gA_sF, gA_sA, gF_sF, gF_sA, List.length_set, reduceIte, and_true, and_false, true_and, false_and, Nat.reduceEqDiff, Int.reduceEq, hs.o3]); first | done | omega)) only [rF_ok, wF_ok, oK_ok, lA_ok, rA_ok, wA_ok, cI_ok, cV_ok, cL_ok, cR_ok, kd_sF, kd_sA, gA_sF, gF_sA, gF_sF, gA_sA, bk_0, bk_1, List.length_set, reduceIte, and_true, and_false, true_and, false_and, ne_eq, not_true_eq_false, not_false_eq_true, Int.toNat_natCast, Int.reduceToNat, Nat.reduceEqDiff, Int.reduceEq, Int.reduceLT, Int.reduceLE, Int.reduceAdd, Int.reduceSub, Int.reduceMul, Int.reduceNeg, hs.o3, f1, if_neg (show ¬ ((dr.1.length : Int) < 8) by omega)]
theorem c_addKnot1 {st th cl : Int} (hs : ShC s) (R : DrC s 3 dr) (hl : dr.1.length < 8) : ∃ s', X0_addKnot (d + 1) s 3 st th cl = some ([(0, 1)], s') ∧ ShC s' ∧ FrK [] kPs [] s s' ∧ (∀ p k, (p = 1 ∨ p = 10) → gF s' p k = gF s p k) ∧ DrC s' 3 (dr.1 ++ [(st, th, cl, 0, [])], dr.2) := by
  have f1 : gF s 3 1 = dr.1.length := R.2.1.1
  have k3 : kd s 3 = 4 := hs.o3.1
  have a4 : (gA s 4).getD dr.1.length 0 = 3 + 11 + 2 * (dr.1.length : Int) := by
    rw [hs.2.2.2.1.1]
    have : dr.1.length = 0 ∨ dr.1.length = 1 ∨ dr.1.length = 2 ∨ dr.1.length = 3 ∨ dr.1.length = 4 ∨ dr.1.length = 5 ∨ dr.1.length = 6 ∨ dr.1.length = 7 := by omega
    rcases this with e | e | e | e | e | e | e | e <;> rw [e] <;> rfl
  obtain ⟨q1, q2, q3, q4⟩ := hs.kn hl
  have hpin := kp_in hl
  generalize hp : (3 + 11 + 2 * (dr.1.length : Int)) = p at *
  have pne : p ≠ 3 ∧ p ≠ 1 ∧ p ≠ 10 := by omega
  have hS : ShC (sF (sF (sF (sF (sF (sF s p 0 st) p 1 th) p 2 cl) p 3 0) p 4 0) 3 1 ((dr.1.length : Int) + 1)) := by
    refine ShC.sF (ShC.sF (ShC.sF (ShC.sF (ShC.sF (hs.sF ?_) ?_) ?_) ?_) ?_) ?_
    · rw [q1]; decide
    · simp only [kd_sF, q1]; decide
    · simp only [kd_sF, q1]; decide
    · simp only [kd_sF, q1]; decide
    · simp only [kd_sF, q1]; decide
    · simp only [kd_sF, k3]; decide
  have hF : FrK [] kPs [] s (sF (sF (sF (sF (sF (sF s p 0 st) p 1 th) p 2 cl) p 3 0) p 4 0) 3 1 ((dr.1.length : Int) + 1)) := ((((FrK.sF hpin).tr (FrK.sF hpin)).tr (FrK.sF hpin)).tr (FrK.sF hpin)).tr ((FrK.sF hpin).tr (FrK.sF (by decide)))
  have hg : ∀ q k, q ≠ p → q ≠ 3 → gF (sF (sF (sF (sF (sF (sF s p 0 st) p 1 th) p 2 cl) p 3 0) p 4 0) 3 1 ((dr.1.length : Int) + 1)) q k = gF s q k := fun q k h1 h2 => by rw [gF_np h2, gF_np h1, gF_np h1, gF_np h1, gF_np h1, gF_np h1]
  refine ⟨_, ?_, hS, hF, fun q k hq => hg q k (by omega) (by omega), ?_⟩
  · rw [e_X0_addKnot]
    simp (disch := ((try simp only [kd_sF, kd_sA, gA_sF, gA_sA, gF_sF, gF_sA, List.length_set, reduceIte, and_true, and_false, true_and, false_and, Nat.reduceEqDiff, Int.reduceEq, hs.o3]); first | done | omega)) only [rF_ok, wF_ok, oK_ok, lA_ok, rA_ok, wA_ok, cI_ok, cV_ok, cL_ok, cR_ok, kd_sF, kd_sA, gA_sF, gF_sA, gF_sF, gA_sA, bk_0, bk_1, List.length_set, reduceIte, and_true, and_false, true_and, false_and, ne_eq, not_true_eq_false, not_false_eq_true, Int.toNat_natCast, Int.reduceToNat, Nat.reduceEqDiff, Int.reduceEq, Int.reduceLT, Int.reduceLE, Int.reduceAdd, Int.reduceSub, Int.reduceMul, Int.reduceNeg, hs.o3, f1, if_pos (show (dr.1.length : Int) < 8 by omega), a4, q1]
    rw [e_X3_begin]
    have np3 : ¬ (3 = p) := fun e => pne.1 e.symm
    simp (disch := ((try simp only [kd_sF, kd_sA, gA_sF, gA_sA, gF_sF, gF_sA, List.length_set, reduceIte, and_true, and_false, true_and, false_and, Nat.reduceEqDiff, Int.reduceEq, q1, hs.o3]); first | done | omega)) only [rF_ok, wF_ok, oK_ok, lA_ok, rA_ok, wA_ok, cI_ok, cV_ok, cL_ok, cR_ok, kd_sF, kd_sA, gA_sF, gF_sA, gF_sF, gA_sA, bk_0, bk_1, List.length_set, reduceIte, and_true, and_false, true_and, false_and, ne_eq, not_true_eq_false, not_false_eq_true, Int.toNat_natCast, Int.reduceToNat, Nat.reduceEqDiff, Int.reduceEq, Int.reduceLT, Int.reduceLE, Int.reduceAdd, Int.reduceSub, Int.reduceMul, Int.reduceNeg, q1, hs.o3, f1, np3, wi_sm]
  · refine R.kns hS (fun _ => rfl) (fun k hk _ => ?_) (fun q k hq _ => hg q k (by omega) (by omega)) (fun _ _ => rfl) ?_ (fun i hi => ?_)
    · rw [gF_nk hk, gF_np (fun e => pne.1 e.symm), gF_np (fun e => pne.1 e.symm), gF_np (fun e => pne.1 e.symm), gF_np (fun e => pne.1 e.symm), gF_np (fun e => pne.1 e.symm)]
    · rw [gF_eq, List.length_append]; rfl
    · rw [List.length_append] at hi
      simp only [List.length_cons, List.length_nil] at hi
      by_cases e : i < dr.1.length
      · rw [gdApp e]
        exact (R.2.1.2 i e).fr ⟨rfl, rfl⟩ (fun j _ => hg _ j (by omega) (by omega)) rfl
      · rw [show i = dr.1.length by omega, gdApp2, hp]
        have n3 := pne.1
        refine ⟨⟨q1, ?_, q3, q4⟩, ?_, ?_, ?_, ?_, ?_, fun j hj => absurd hj (by simp [kLen])⟩
        · rw [gF_np n3, gF_nk (by decide), gF_nk (by decide), gF_nk (by decide), gF_nk (by decide), gF_nk (by decide)]; exact q2
        · rw [gF_np n3, gF_nk (by decide), gF_nk (by decide), gF_nk (by decide), gF_nk (by decide), gF_eq]
        · rw [gF_np n3, gF_nk (by decide), gF_nk (by decide), gF_nk (by decide), gF_eq]
        · rw [gF_np n3, gF_nk (by decide), gF_nk (by decide), gF_eq]
        · rw [gF_np n3, gF_nk (by decide), gF_eq]; rfl
        · rw [gF_np n3, gF_eq]
theorem c_knotCanBe (st th cl : Int) : X11_knotCanBe d s st th cl = some ([(0, if (0 ≤ st ∧ st ≤ 1) ∧ (1 ≤ th ∧ th ≤ 9) ∧ (1 ≤ cl ∧ cl ≤ 200) then 1 else 0)], s) := by
  rw [e_X11_knotCanBe]
  by_cases h : (0 ≤ st ∧ st ≤ 1) ∧ (1 ≤ th ∧ th ≤ 9) ∧ (1 ≤ cl ∧ cl ≤ 200)
  · rw [if_pos h, if_neg (by omega), if_neg (by omega), if_neg (by omega), if_neg (by omega), if_neg (by omega), if_neg (by omega)]
  · rw [if_neg h]
    split
    · rfl
    split
    · rfl
    split
    · rfl
    split
    · rfl
    split
    · rfl
    split
    · rfl
    omega
theorem wfKn_new {st th cl : Int} (h : (0 ≤ st ∧ st ≤ 1) ∧ (1 ≤ th ∧ th ≤ 9) ∧ (1 ≤ cl ∧ cl ≤ 200)) : wfKn (st, th, cl, 0, []) := by
  refine ⟨by show st = 0 ∨ st = 1; omega, h.2.1, h.2.2, Or.inl rfl, by simp [kLen], fun j hj => absurd hj (by simp [kLen]), fun j hj => absurd hj (by simp [kLen]), fun e => absurd e (by show ¬ ((0 : Int) = 1); decide)⟩
theorem wfKns_app {l : List Kn} {k : Kn} (h : wfKns l) (hl : l.length < 8) (hk : wfKn k) : wfKns (l ++ [k]) := by
  refine ⟨by rw [List.length_append]; simp; omega, fun x hx => ?_⟩
  rcases List.mem_append.mp hx with h1 | h1
  · exact h.2 x h1
  · rw [List.mem_singleton.mp h1]; exact hk
end CD2
