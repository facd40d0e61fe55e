/-! ===== the class: a knot one move on or back; acts as plain values ===== -/
def pushH (H : Hi) (k : Int) (K : List Kn) : Hi := (if H.length = 16 then H.tail else H) ++ [(k, K)]
def setK (a : Ab) (q : Int) (k : Kn) (kind : Int) : Ab := setHi (setDr a (a.1.1.set q.toNat k, a.1.2)) (pushH a.2.2.1 kind a.1.1)
def dLay (a : Ab) (q pl : Int) : Int × Ab :=
  if ¬ (0 ≤ pl ∧ pl ≤ 2) then (-1, a) else if ¬ (0 ≤ q ∧ q < (a.1.1.length : Int)) then (-2, a) else if (knQ a.1 q).2.2.2.1 = 1 ∨ lastP (knQ a.1 q) = pl then (-3, a) else if ¬ kLen (knQ a.1 q) < 12 then (-5, a) else if brA (clsD a.1) (moodD a.1) (knQ a.1 q).2.1 (((knQ a.1 q).1 + kLen (knQ a.1 q)) % 2) (kLen (knQ a.1 q)) (lastP (knQ a.1 q)) pl = 1 ∨ (knQ a.1 q).2.2.1 < tkK a.1 (knQ a.1 q) + tkQ (clsD a.1) (moodD a.1) (knQ a.1 q).2.1 (((knQ a.1 q).1 + kLen (knQ a.1 q)) % 2) (kLen (knQ a.1 q)) (lastP (knQ a.1 q)) pl then (-3, a) else ((kLen (knQ a.1 q) : Int) + 1, setK a q (knPush (knQ a.1 q) pl) 0)
def dThr (a : Ab) (q : Int) : Int × Ab :=
  if ¬ (0 ≤ q ∧ q < (a.1.1.length : Int)) then (-2, a) else if (knQ a.1 q).2.2.2.1 = 1 ∨ canT (knQ a.1 q).1 (pF (knQ a.1 q)) (kLen (knQ a.1 q)) = false then (-3, a) else ((kLen (knQ a.1 q) : Int), setK a q (knThr (knQ a.1 q) 1) 1)
def dDrw (a : Ab) (q : Int) : Int × Ab :=
  if ¬ (0 ≤ q ∧ q < (a.1.1.length : Int)) then (-2, a) else if kLen (knQ a.1 q) = 0 then (-3, a) else if (knQ a.1 q).2.2.2.1 = 1 then ((kLen (knQ a.1 q) : Int), setK a q (knThr (knQ a.1 q) 0) 2) else ((kLen (knQ a.1 q) : Int) - 1, setK a q (knPop (knQ a.1 q)) 2)
def dMir (a : Ab) (q : Int) : Int × Ab :=
  if ¬ (0 ≤ q ∧ q < (a.1.1.length : Int)) then (-2, a) else ((kLen (knQ a.1 q) : Int), setK a q (knMir (knQ a.1 q)) 3)
def dUnd (a : Ab) : Int × Ab := if a.2.2.1.length = 0 then (-3, a) else ((a.2.2.1.getD (a.2.2.1.length - 1) (0, [])).1, setHi (setDr a ((a.2.2.1.getD (a.2.2.1.length - 1) (0, [])).2, a.1.2)) a.2.2.1.dropLast)
theorem gdSet {α : Type} {l : List α} {i j : Nat} {x y : α} (h : i < l.length) : (l.set i x).getD j y = if i = j then x else l.getD j y := by
  rw [List.getD_eq_getElem?_getD, List.getD_eq_getElem?_getD, List.getElem?_set]
  by_cases e : i = j
  · subst e; simp [h]
  · simp [e]
theorem setSet {α : Type} {l : List α} {i : Nat} {x y : α} : (l.set i x).set i y = l.set i y := by simp
theorem setGd {α : Type} {l : List α} {i : Nat} {y : α} (h : i < l.length) : l.set i (l.getD i y) = l := by
  rw [List.getD_eq_getElem?_getD, List.getElem?_eq_getElem h]
  simp
theorem unK_set {K : List Kn} {kind q pl : Int} {k' : Kn} (hq : 0 ≤ q ∧ q < (K.length : Int)) (h : unKn kind pl k' = K.getD q.toNat k0) : unK kind q pl (K.set q.toNat k') = K := by
  unfold unK
  rw [gdSet (by omega), if_pos rfl, h, setSet, setGd (by omega)]
theorem kn_eta (k : Kn) : (k.1, k.2.1, k.2.2.1, k.2.2.2.1, k.2.2.2.2) = k := rfl
theorem un_lay (k : Kn) (p : Int) : unKn 0 (-1) (knPush k p) = k := by
  unfold unKn knPop knPush
  rw [if_pos rfl]
  simp
theorem un_thr {k : Kn} (h : k.2.2.2.1 = 0) : unKn 1 (-1) (knThr k 1) = k := by
  show (k.1, k.2.1, k.2.2.1, (0 : Int), k.2.2.2.2) = k
  rw [← h]
theorem un_dr1 {k : Kn} (h : k.2.2.2.1 = 1) : unKn 2 (-1) (knThr k 0) = k := by
  show (k.1, k.2.1, k.2.2.1, (1 : Int), k.2.2.2.2) = k
  rw [← h]
theorem un_dr0 {k : Kn} (h : kLen k ≠ 0) (hp : ∀ j, j < kLen k → pl3 (pF k j)) : unKn 2 (lastP k) (knPop k) = k := by
  have hl : lastP k = pF k (kLen k - 1) := by unfold lastP; rw [if_neg h]
  have hne : ¬ (lastP k = -1) := by
    rw [hl]
    have := hp (kLen k - 1) (by omega)
    unfold pl3 at this
    omega
  unfold unKn
  rw [if_neg (by decide), if_neg (by decide), if_neg (by decide), if_neg hne]
  unfold knPush knPop
  dsimp only
  have e : k.2.2.2.2.dropLast ++ [lastP k] = k.2.2.2.2 := by
    unfold kLen at h
    have hn : k.2.2.2.2 ≠ [] := fun e => h (by rw [e]; rfl)
    rw [hl]
    unfold pF kLen
    conv => rhs; rw [← List.dropLast_concat_getLast hn]
    congr 2
    rw [List.getLast_eq_getElem, List.getD_eq_getElem?_getD, List.getElem?_eq_getElem (by omega)]
    rfl
  rw [e]
theorem un_mir {k : Kn} (hp : ∀ j, j < kLen k → pl3 (pF k j)) : unKn 3 (-1) (knMir k) = k := by
  show (k.1, k.2.1, k.2.2.1, k.2.2.2.1, (k.2.2.2.2.map mir).map mir) = k
  have e : (k.2.2.2.2.map mir).map mir = k.2.2.2.2 := by
    rw [List.map_map]
    conv => rhs; rw [← List.map_id k.2.2.2.2]
    refine List.map_congr_left fun x hx => ?_
    obtain ⟨j, hj, ej⟩ := List.mem_iff_getElem.mp hx
    have := hp j hj
    unfold pF at this
    rw [List.getD_eq_getElem?_getD, List.getElem?_eq_getElem hj] at this
    show mir (mir x) = x
    rw [← ej]
    exact mir_mir this
  rw [e]
def kQs : List Int := [10, 14, 16, 18, 20, 22, 24, 26, 28]
def aQs : List Int := [32, 33, 11, 12, 13, 15, 17, 19, 21, 23, 25, 27, 29]
section CKN
variable {s s' : St} {a : Ab} {d : Nat} {dr : Dr} {p : Int} {k : Kn}
theorem kq_in {q : Int} (h : 0 ≤ q ∧ q < 8) : (3 + 11 + 2 * q) ∈ kQs ∧ (3 + 11 + 2 * q + 1) ∈ aQs := by
  have : q = 0 ∨ q = 1 ∨ q = 2 ∨ q = 3 ∨ q = 4 ∨ q = 5 ∨ q = 6 ∨ q = 7 := by omega
  rcases this with rfl | rfl | rfl | rfl | rfl | rfl | rfl | rfl <;> exact ⟨by decide, by decide⟩
theorem KnC.pop (K : KnC s p k) (h : kLen k ≠ 0) : KnC (sF s p 3 ((kLen k : Int) - 1)) p (knPop k) := by
  obtain ⟨⟨k1, k2, k3, k4⟩, g0, g1, g2, g3, g4, g5⟩ := K
  have hl : kLen (knPop k) = kLen k - 1 := by unfold kLen knPop; exact List.length_dropLast
  refine ⟨⟨k1, (gF_nk (by decide)).trans k2, k3, k4⟩, (gF_nk (by decide)).trans g0, (gF_nk (by decide)).trans g1, (gF_nk (by decide)).trans g2, ?_, (gF_nk (by decide)).trans g4, fun j hj => ?_⟩
  · rw [gF_eq, hl]; omega
  · rw [hl] at hj
    show af s (p + 1) j = _
    rw [g5 j (by omega)]
    unfold pF knPop
    dsimp only
    rw [List.getD_eq_getElem?_getD, List.getD_eq_getElem?_getD, List.getElem?_dropLast, if_pos (by unfold kLen at hj; exact hj)]
theorem KnC.push {x : Int} (K : KnC s p k) (h : kLen k < 12) : KnC (sF (sA s (p + 1) ((gA s (p + 1)).set (kLen k) x)) p 3 ((kLen k : Int) + 1)) p (knPush k x) := by
  obtain ⟨⟨k1, k2, k3, k4⟩, g0, g1, g2, g3, g4, g5⟩ := K
  have hl : kLen (knPush k x) = kLen k + 1 := by unfold kLen knPush; simp
  refine ⟨⟨k1, ?_, k3, ?_⟩, ?_, ?_, ?_, ?_, ?_, fun j hj => ?_⟩
  · rw [gF_nk (by decide), gF_sA]; exact k2
  · rw [gA_sF, gA_eq, List.length_set]; exact k4
  · rw [gF_nk (by decide), gF_sA]; exact g0
  · rw [gF_nk (by decide), gF_sA]; exact g1
  · rw [gF_nk (by decide), gF_sA]; exact g2
  · rw [gF_eq, hl]; omega
  · rw [gF_nk (by decide), gF_sA]; exact g4
  · rw [hl] at hj
    unfold af
    rw [gA_sF, gA_eq, setD_getD (by omega)]
    unfold pF knPush
    dsimp only
    by_cases e : kLen k = j
    · rw [if_pos e, ← e]
      exact gdApp2.symm
    · rw [if_neg e, gdApp (show j < k.2.2.2.2.length by unfold kLen at e hj; omega)]
      exact g5 j (by omega)
theorem KnC.thr {x : Int} (K : KnC s p k) : KnC (sF s p 4 x) p (knThr k x) := by
  obtain ⟨⟨k1, k2, k3, k4⟩, g0, g1, g2, g3, g4, g5⟩ := K
  exact ⟨⟨k1, (gF_nk (by decide)).trans k2, k3, k4⟩, (gF_nk (by decide)).trans g0, (gF_nk (by decide)).trans g1, (gF_nk (by decide)).trans g2, (gF_nk (by decide)).trans g3, gF_eq _ _ _ _, g5⟩
theorem c_swap (hs : ShC s) (K : KnC s p k) (hl : kLen k ≤ 12) (hp : ∀ j, j < kLen k → pl3 (pF k j)) : Gl (GV fun s' => ShC s' ∧ FrK [] [] [p + 1] s s' ∧ KnC s' p (knMir k)) (X3_swapSides (d + 1) s p) := by
  obtain ⟨⟨k1, k2, k3, k4⟩, g0, g1, g2, g3, g4, g5⟩ := K
  rw [e_X3_swapSides]
  refine lpG (fun i s1 => X3_swapSides_2 (d + 1) s1 p i) (fun i s1 => ShC s1 ∧ FrK [] [] [p + 1] s s1 ∧ (gA s1 (p + 1)).length = 12 ∧ ∀ j, j < kLen k → af s1 (p + 1) j = if j < i then mir (pF k j) else pF k j) (kLen k) ?_ ?_ 0 s (by omega) ⟨hs, FrK.rf _ _ _ _, k4, fun j hj => by rw [if_neg (by omega)]; exact g5 j hj⟩
  · intro T i s1 hi ⟨i1, i2, i3, i4⟩ hT
    have k1' : kd s1 p = 7 := (i2.1 p).trans k1
    have k3' : kd s1 (p + 1) = 20 := (i2.1 _).trans k3
    have k2' : gF s1 p 5 = p + 1 := (i2.2.1 p 5 List.not_mem_nil List.not_mem_nil (by decide)).trans k2
    have g3' : gF s1 p 3 = kLen k := (i2.2.1 p 3 List.not_mem_nil List.not_mem_nil (by decide)).trans g3
    have e1 := i4 i hi
    rw [if_neg (by omega)] at e1
    have e1' : (gA s1 (p + 1)).getD i 0 = pF k i := e1
    rw [e_X3_swapSides_2]
    simp (disch := ((try simp only [kd_sF, kd_sA, gA_sF, gA_sA, gF_sF, gF_sA, List.length_set, reduceIte, and_true, and_false, true_and, false_and, Nat.reduceEqDiff, Int.reduceEq, k1', k2', k3', i3]); first | done | omega)) only [rF_ok, wF_ok, oK_ok, lA_ok, rA_ok, wA_ok, cI_ok, cV_ok, cL_ok, cR_ok, kd_sF, kd_sA, gA_sF, gF_sA, gF_sF, gA_sA, bk_0, bk_1, List.length_set, reduceIte, and_true, and_false, true_and, false_and, ne_eq, not_true_eq_false, not_false_eq_true, Int.toNat_natCast, Int.reduceToNat, Nat.reduceEqDiff, Int.reduceEq, Int.reduceLT, Int.reduceLE, Int.reduceAdd, Int.reduceSub, Int.reduceMul, Int.reduceNeg, k1', k2', k3', i3, g3', Int.ofNat_lt, hi, e1', c_mirrored (hp i hi), wi_sm]
    refine hT _ ⟨i1.sA (by rw [List.length_set]) (by rw [k3']; decide), i2.tr (FrK.sA _ (by simp)), by rw [gA_eq, List.length_set]; exact i3, fun j hj => ?_⟩
    unfold af
    rw [gA_eq, setD_getD (by omega)]
    by_cases e : i = j
    · rw [if_pos e, if_pos (by omega), e]
    · rw [if_neg e]
      have := i4 j hj
      unfold af at this
      rw [this]
      by_cases e2 : j < i
      · rw [if_pos e2, if_pos (by omega)]
      · rw [if_neg e2, if_neg (by omega)]
  · intro s1 ⟨i1, i2, i3, i4⟩
    have k1' : kd s1 p = 7 := (i2.1 p).trans k1
    have f := fun j (hj : j < 100) => i2.2.1 p j List.not_mem_nil List.not_mem_nil hj
    have g3' : gF s1 p 3 = kLen k := (f 3 (by decide)).trans g3
    rw [e_X3_swapSides_2]
    simp (disch := ((try simp only [kd_sF, kd_sA, gA_sF, gA_sA, gF_sF, gF_sA, List.length_set, reduceIte, and_true, and_false, true_and, false_and, Nat.reduceEqDiff, Int.reduceEq, k1']); first | done | omega)) only [rF_ok, wF_ok, oK_ok, lA_ok, rA_ok, wA_ok, cI_ok, cV_ok, cL_ok, cR_ok, kd_sF, kd_sA, gA_sF, gF_sA, gF_sF, gA_sA, bk_0, bk_1, List.length_set, reduceIte, and_true, and_false, true_and, false_and, ne_eq, not_true_eq_false, not_false_eq_true, Int.toNat_natCast, Int.reduceToNat, Nat.reduceEqDiff, Int.reduceEq, Int.reduceLT, Int.reduceLE, Int.reduceAdd, Int.reduceSub, Int.reduceMul, Int.reduceNeg, k1', g3', Int.lt_irrefl]
    have hl2 : kLen (knMir k) = kLen k := by unfold kLen knMir; exact List.length_map _
    refine reV ⟨i1, i2, ⟨k1', (f 5 (by decide)).trans k2, (i2.1 _).trans k3, i3⟩, (f 0 (by decide)).trans g0, (f 1 (by decide)).trans g1, (f 2 (by decide)).trans g2, by rw [hl2]; exact g3', (f 4 (by decide)).trans g4, fun j hj => ?_⟩
    rw [hl2] at hj
    rw [i4 j hj, if_pos hj]
    unfold pF knMir
    dsimp only
    have hj' : j < k.2.2.2.2.length := hj
    rw [List.getD_eq_getElem?_getD, List.getD_eq_getElem?_getD, List.getElem?_map, List.getElem?_eq_getElem hj']
    rfl
theorem DrC.set1 {q : Int} {k' : Kn} (R : DrC s 3 dr) (W : wfDr dr) (hs' : ShC s') (hq : 0 ≤ q ∧ q < (dr.1.length : Int)) (F : FrK [] [3 + 11 + 2 * q] [3 + 11 + 2 * q + 1] s s') (K : KnC s' (3 + 11 + 2 * q) k') : DrC s' 3 (dr.1.set q.toNat k', dr.2) := by
  have h8 := W.1.1
  refine R.kns hs' F.1 (fun k _ hk => F.2.1 3 k (by simp; omega) List.not_mem_nil hk) (fun p k hp hk => F.2.1 p k (by simp; omega) List.not_mem_nil hk) (fun x hx => F.2.2 x (by simp; omega)) (by rw [List.length_set, F.2.1 3 1 (by simp; omega) List.not_mem_nil (by decide)]; exact R.2.1.1) (fun i hi => ?_)
  rw [List.length_set] at hi
  rw [gdSet (by omega)]
  by_cases e : q.toNat = i
  · rw [if_pos e, ← e, i2n hq.1]; exact K
  · rw [if_neg e]
    exact (R.2.1.2 i hi).fr ⟨F.1 _, F.1 _⟩ (fun j hj => F.2.1 _ j (by simp; omega) List.not_mem_nil hj) (F.2.2 _ (by simp; omega))
end CKN
