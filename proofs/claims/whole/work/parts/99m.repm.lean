/-! ===== the reference keeps an abstract state ===== -/
def KnR (g : Nat → Int) (q : Nat) (k : Kn) : Prop := g (17 * q) = k.1 ∧ g (17 * q + 1) = k.2.1 ∧ g (17 * q + 2) = k.2.2.1 ∧ g (17 * q + 3) = kLen k ∧ g (17 * q + 4) = k.2.2.2.1 ∧ ∀ j, j < kLen k → g (17 * q + 5 + j) = pF k j
def KnsR (g : Nat → Int) (K : List Kn) : Prop := g 136 = K.length ∧ ∀ q, q < K.length → KnR g q (K.getD q k0)
def LwR (g : Nat → Int) (t : Nat) (T : Lwt) : Prop := g (174 + t) = T.length ∧ ∀ i, i < T.length → g (181 + 400 * t + i) = cTk T i ∧ g (2981 + 400 * t + i) = vTk T i
def BoR (g : Nat → Int) (b : List Int) : Prop := g 170 = b.length ∧ ∀ i, i < b.length → g (137 + i) = b.getD i 0
def SiR (g : Nat → Int) (l : List (Int × Int)) : Prop := g 171 = l.length ∧ ∀ i, i < l.length → g (143 + 2 * i) = (l.getD i (0, 0)).1 ∧ g (144 + 2 * i) = (l.getD i (0, 0)).2
def TeR (g : Nat → Int) (t : Int × Int × Int) : Prop := g 167 = t.1 ∧ g 168 = t.2.1 ∧ g 169 = t.2.2
def LaR (g : Nat → Int) (l : List Lwt) : Prop := g 172 = l.length ∧ ∀ t, t < l.length → LwR g t (l.getD t [])
def DrR (g : Nat → Int) (D : Dr) : Prop := KnsR g D.1 ∧ BoR g D.2.1 ∧ SiR g D.2.2.1 ∧ TeR g D.2.2.2.1 ∧ LaR g D.2.2.2.2.1 ∧ g 173 = D.2.2.2.2.2
section DRR
variable {g g' : Nat → Int}
theorem KnsR.cg {K : List Kn} (h : KnsR g K) (W : K.length ≤ 8 ∧ ∀ q, q < K.length → kLen (K.getD q k0) ≤ 12) (e : ∀ j, j < 137 → g' j = g j) : KnsR g' K := by
  refine ⟨(e 136 (by decide)).trans h.1, fun q hq => ?_⟩
  obtain ⟨h1, h2, h3, h4, h5, h6⟩ := h.2 q hq
  have w := W.2 q hq
  have w8 := W.1
  exact ⟨(e _ (by omega)).trans h1, (e _ (by omega)).trans h2, (e _ (by omega)).trans h3, (e _ (by omega)).trans h4, (e _ (by omega)).trans h5, fun j hj => (e _ (by omega)).trans (h6 j hj)⟩
theorem BoR.cg {b : List Int} (h : BoR g b) (W : b.length ≤ 6) (e : ∀ j, (137 ≤ j ∧ j < 143) ∨ j = 170 → g' j = g j) : BoR g' b :=
  ⟨(e 170 (by omega)).trans h.1, fun i hi => (e _ (by omega)).trans (h.2 i hi)⟩
theorem SiR.cg {l : List (Int × Int)} (h : SiR g l) (W : l.length ≤ 12) (e : ∀ j, (143 ≤ j ∧ j < 167) ∨ j = 171 → g' j = g j) : SiR g' l :=
  ⟨(e 171 (by omega)).trans h.1, fun i hi => ⟨(e _ (by omega)).trans (h.2 i hi).1, (e _ (by omega)).trans (h.2 i hi).2⟩⟩
theorem TeR.cg {t : Int × Int × Int} (h : TeR g t) (e : ∀ j, 167 ≤ j ∧ j < 170 → g' j = g j) : TeR g' t :=
  ⟨(e 167 (by omega)).trans h.1, (e 168 (by omega)).trans h.2.1, (e 169 (by omega)).trans h.2.2⟩
theorem LaR.cg {l : List Lwt} (h : LaR g l) (W : l.length ≤ 6 ∧ ∀ t, t < l.length → (l.getD t []).length ≤ 400) (e : ∀ j, j = 172 ∨ (174 ≤ j ∧ j < 180) ∨ (181 ≤ j ∧ j < 2581) ∨ (2981 ≤ j ∧ j < 5381) → g' j = g j) : LaR g' l := by
  refine ⟨(e 172 (by omega)).trans h.1, fun t ht => ?_⟩
  have w := W.2 t ht
  have w6 := W.1
  obtain ⟨h1, h2⟩ := h.2 t ht
  exact ⟨(e _ (by omega)).trans h1, fun i hi => ⟨(e _ (by omega)).trans (h2 i hi).1, (e _ (by omega)).trans (h2 i hi).2⟩⟩
theorem wK_ok {K : List Kn} (W : wfKns K) : K.length ≤ 8 ∧ ∀ q, q < K.length → kLen (K.getD q k0) ≤ 12 := ⟨W.1, fun q hq => (W.2 _ (gdMem hq)).2.2.2.2.1⟩
theorem wL_ok {D : Dr} (W : wfDr D) : D.2.2.2.2.1.length ≤ 6 ∧ ∀ t, t < D.2.2.2.2.1.length → (D.2.2.2.2.1.getD t []).length ≤ 400 := ⟨W.2.2.2.2.1.1, fun t ht => (W.2.2.2.2.1.2 _ (gdMem ht)).1⟩
/-- all but the knots stays -/
theorem DrR.knots {D : Dr} {K : List Kn} (h : DrR g D) (W : wfDr D) (hK : KnsR g' K) (e : ∀ j, 137 ≤ j → g' j = g j) : DrR g' (K, D.2) :=
  ⟨hK, h.2.1.cg W.2.1.1 fun j hj => e j (by omega), h.2.2.1.cg W.2.2.1.1 fun j hj => e j (by omega), h.2.2.2.1.cg fun j hj => e j (by omega), h.2.2.2.2.1.cg (wL_ok W) fun j hj => e j (by omega), (e 173 (by omega)).trans h.2.2.2.2.2⟩
theorem DrR.cg {D : Dr} (h : DrR g D) (W : wfDr D) (e : ∀ j, j < 5781 → g' j = g j) : DrR g' D :=
  ⟨h.1.cg (wK_ok W.1) fun j hj => e j (by omega), h.2.1.cg W.2.1.1 fun j hj => e j (by omega), h.2.2.1.cg W.2.2.1.1 fun j hj => e j (by omega), h.2.2.2.1.cg fun j hj => e j (by omega), h.2.2.2.2.1.cg (wL_ok W) fun j hj => e j (by omega), (e 173 (by omega)).trans h.2.2.2.2.2⟩
end DRR
abbrev kdd (s : St) (p : Int) : Nat := kd s p
theorem ShM.k98 {s : St} (h : ShM s) : kdd s 98 = 16 := h.kd 98
theorem ShM.k122 {s : St} (h : ShM s) : kdd s 122 = 20 := h.kd 122
theorem ShM.k123 {s : St} (h : ShM s) : kdd s 123 = 20 := h.kd 123
theorem gd_end {α : Type} {l : List α} {i : Nat} {y : α} (h : l.length ≤ i) : l.getD i y = y := by
  rw [List.getD_eq_getElem?_getD, List.getElem?_eq_none h]
  rfl
def kA (s : St) (j : Nat) : Int := (gA s 100).getD j 0
def lfA (s : St) (i j : Nat) : Int := (gA s 113).getD (138 * i + j) 0
def imA (s : St) (k j : Nat) : Int := (gA s 101).getD (5781 * k + j) 0
def HiR (s : St) (H : Hi) : Prop := gF s 98 33 = H.length ∧ ∀ i, i < H.length → KnsR (lfA s i) (H.getD i (0, [])).2 ∧ lfA s i 137 = (H.getD i (0, [])).1
def ImR (s : St) (k : Nat) (o : Option Dr) : Prop := match o with
  | none => (gA s 102).getD k 0 = 0
  | some D => (gA s 102).getD k 0 = 1 ∧ DrR (imA s k) D
def TpM (s : St) (t : List Int) : Prop := gF s 98 13 = t.length ∧ ∀ i, i < t.length → (gA s 105).getD i 0 = wb (t.getD i 0)
def FlM (s : St) (f : Int × Int × Int × Int) : Prop := gF s 98 0 = f.1 ∧ gF s 98 6 = f.2.1 ∧ gF s 98 14 = f.2.2.1 ∧ gF s 98 49 = f.2.2.2
def RfM (s : St) (r : Int × Int × Int × Int × Int) : Prop := (gA s 99).getD 1 0 = r.1 ∧ (gA s 99).getD 2 0 = r.2.1 ∧ (gA s 99).getD 3 0 = r.2.2.1 ∧ (gA s 99).getD 5 0 = r.2.2.2.1 ∧ (gA s 99).getD 6 0 = r.2.2.2.2
def HdM (s : St) (o : Option (Int × Int × List Int)) : Prop := match o with
  | none => gF s 98 59 = -1
  | some h => gF s 98 59 = h.2.2.length ∧ gF s 98 60 = h.1 ∧ gF s 98 61 = h.2.1 ∧ ∀ k, k < h.2.2.length → (gA s 125).getD k 0 = h.2.2.getD k 0
def wdsL : List Int := [116, 97, 107, 101, 115, 32, 103, 114, 105, 112, 115, 32, 98, 97, 114, 115, 32, 105, 102, 32, 111, 114, 32, 97, 110, 100, 32, 110, 111, 116, 32, 112, 108, 97, 99, 101, 32, 115, 105, 100, 101, 32, 97, 116, 32, 98, 101, 102, 111, 114, 101, 32, 116, 104, 105, 99, 107, 32, 109, 111, 111, 100, 32, 107, 110, 111, 116, 115, 32, 100, 111, 110, 101, 32, 108, 97, 116, 101, 115, 116, 32, 109, 97, 110, 121, 32, 101, 110, 100, 32, 99, 108, 111, 116, 104, 32, 108, 97, 121, 32, 111, 110, 32, 116, 104, 114, 111, 117, 103, 104, 32, 100, 114, 97, 119, 32, 109, 105, 114, 114, 111, 114, 32, 116, 105, 109, 101, 115, 32]
def RepM (a : Ab) (s : St) : Prop := ShM s ∧ DrR (kA s) a.1 ∧ (ImR s 0 a.2.1.1 ∧ ImR s 1 a.2.1.2) ∧ HiR s a.2.2.1 ∧ TpM s a.2.2.2.1 ∧ FlM s a.2.2.2.2.1 ∧ RfM s a.2.2.2.2.2.1 ∧ HdM s a.2.2.2.2.2.2 ∧ gA s 104 = wdsL
def mFs : List Nat := [0, 6, 13, 14, 33, 49, 59, 60, 61]
section RM
variable {s s' : St} {a : Ab} {d : Nat}
/-- parts that stay -/
theorem ImR.fr {k : Nat} {o : Option Dr} (h : ImR s k o) (e1 : gA s' 101 = gA s 101) (e2 : gA s' 102 = gA s 102) : ImR s' k o := by
  unfold ImR imA at h ⊢
  rw [e1, e2]
  exact h
theorem HiR.fr {H : Hi} (h : HiR s H) (e1 : gF s' 98 33 = gF s 98 33) (e2 : gA s' 113 = gA s 113) : HiR s' H := by
  unfold HiR lfA at h ⊢
  rw [e1, e2]
  exact h
theorem TpM.fr {t : List Int} (h : TpM s t) (e1 : gF s' 98 13 = gF s 98 13) (e2 : gA s' 105 = gA s 105) : TpM s' t := by
  unfold TpM at h ⊢
  rw [e1, e2]
  exact h
theorem FlM.fr {f : Int × Int × Int × Int} (h : FlM s f) (e : ∀ k, k ∈ [0, 6, 14, 49] → gF s' 98 k = gF s 98 k) : FlM s' f := by
  unfold FlM at h ⊢
  rw [e 0 (by decide), e 6 (by decide), e 14 (by decide), e 49 (by decide)]
  exact h
theorem RfM.fr {r : Int × Int × Int × Int × Int} (h : RfM s r) (e : gA s' 99 = gA s 99) : RfM s' r := by
  unfold RfM at h ⊢
  rw [e]
  exact h
theorem HdM.fr {o : Option (Int × Int × List Int)} (h : HdM s o) (e : ∀ k, k ∈ [59, 60, 61] → gF s' 98 k = gF s 98 k) (e2 : gA s' 125 = gA s 125) : HdM s' o := by
  unfold HdM at h ⊢
  rw [e 59 (by decide), e 60 (by decide), e 61 (by decide), e2]
  exact h
theorem kA_fr (e : gA s' 100 = gA s 100) : kA s' = kA s := by
  funext j
  unfold kA
  rw [e]
/-- rows of the object that no question writes -/
def mAs : List Int := [99, 100, 101, 102, 104, 105, 113, 125]
theorem RepM.fr (R : RepM a s) (hs : ShM s') (F : ∀ p ∈ mAs, gA s' p = gA s p) (hf : ∀ k ∈ mFs, gF s' 98 k = gF s 98 k) : RepM a s' := by
  obtain ⟨-, r2, r3, r4, r5, r6, r7, r8, r9⟩ := R
  exact ⟨hs, by rw [kA_fr (F 100 (by decide))]; exact r2, ⟨r3.1.fr (F 101 (by decide)) (F 102 (by decide)), r3.2.fr (F 101 (by decide)) (F 102 (by decide))⟩, r4.fr (hf 33 (by decide)) (F 113 (by decide)), r5.fr (hf 13 (by decide)) (F 105 (by decide)), r6.fr (fun k hk => hf k (by revert k; decide)), r7.fr (F 99 (by decide)), r8.fr (fun k hk => hf k (by revert k; decide)) (F 125 (by decide)), (F 104 (by decide)).trans r9⟩
theorem RepM.ev {j i : Nat} {L : Lc} {st r : List V} (R : RepM a s) (h : EV d j i L st s = some (r, s')) (hj : okM j = true) (hw : mFs.all (fun k => !wsB j 16 k) = true) (F : Fa scr s s') : RepM a s' := by
  have hj' : okB j = true := by
    unfold okM at hj
    rw [Bool.and_eq_true] at hj
    exact hj.1
  refine R.fr (R.1.ev h hj) (fun p hp => F p (by revert p; decide)) fun k hk => ?_
  have := List.all_eq_true.mp hw k hk
  exact R.1.gf h hj' (by simpa using this)
theorem RepM.lift (R : RepM a s) (n : Int) : RepM a (lf s n) := R
/-- the law in force -/
theorem DrR.law {K : List Int} {D : Dr} (h : DrR (fun j => K.getD j 0) D) (W : wfDr D) : LawK K ∧ clsK K = clsD D := by
  obtain ⟨-, -, -, -, ⟨l1, l2⟩, f⟩ := h
  have wf := W.2.2.2.2.2
  have wl := W.2.2.2.2.1
  unfold LawK clsK clsD
  have f' : K.getD 173 0 = D.2.2.2.2.2 := f
  rw [f']
  by_cases e : D.2.2.2.2.2 = -1
  · rw [if_pos e, if_pos e]
    exact ⟨Or.inl e, rfl⟩
  · rw [if_neg e, if_neg e]
    obtain ⟨t, ht⟩ := Int.eq_ofNat_of_zero_le (show 0 ≤ D.2.2.2.2.2 by omega)
    rw [ht, Int.toNat_natCast]
    rw [ht] at wf
    obtain ⟨n1, n2⟩ := l2 t (by omega)
    obtain ⟨w1, w2, cls, w3⟩ := wl.2 _ (gdMem (a := []) (show t < D.2.2.2.2.1.length by omega))
    have n1' : K.getD (174 + t) 0 = ((D.2.2.2.2.1.getD t []).length : Int) := n1
    rw [n1', Int.toNat_natCast]
    have ec : cK K t (D.2.2.2.2.1.getD t []).length = cTk (D.2.2.2.2.1.getD t []) := by
      funext i
      unfold cK
      by_cases hi : i < (D.2.2.2.2.1.getD t []).length
      · rw [if_pos hi]
        exact (n2 i hi).1
      · rw [if_neg hi]
        unfold cTk
        rw [gd_end (by omega)]
    have ev : vK K t (D.2.2.2.2.1.getD t []).length = vTk (D.2.2.2.2.1.getD t []) := by
      funext i
      unfold vK
      by_cases hi : i < (D.2.2.2.2.1.getD t []).length
      · rw [if_pos hi]
        exact (n2 i hi).2
      · rw [if_neg hi]
        unfold vTk
        rw [gd_end (by omega)]
    rw [ec, ev]
    refine ⟨Or.inr ⟨t, (D.2.2.2.2.1.getD t []).length, cls, by omega, w1, rfl, n1, fun i hi => ?_, by rw [ec, ev]; exact w3⟩, rfl⟩
    have := (n2 i hi).2
    rw [show K.getD (2981 + 400 * t + i) 0 = vTk (D.2.2.2.2.1.getD t []) i from this]
    exact w2 i hi
theorem RepM.bk (R : RepM a s) (W : wfA a) : BK (gA s 100) ∧ clsK (gA s 100) = clsD a.1 ∧ (gA s 100).getD 167 0 = moodD a.1 ∧ (gA s 100).getD 168 0 = needD a.1 ∧ (gA s 100).getD 169 0 = thickD a.1 := by
  have L := DrR.law (K := gA s 100) R.2.1 W.1
  obtain ⟨t1, t2, t3⟩ := R.2.1.2.2.2.1
  have w := W.1.2.2.2.1
  have t1' : (gA s 100).getD 167 0 = moodD a.1 := t1
  have t2' : (gA s 100).getD 168 0 = needD a.1 := t2
  have t3' : (gA s 100).getD 169 0 = thickD a.1 := t3
  refine ⟨⟨L.1, ?_, ?_, ?_⟩, L.2, t1', t2', t3'⟩
  · rw [t1']; exact w.1
  · rw [t2']; exact w.2.1
  · rw [t3']; exact w.2.2
theorem RepM.pr (R : RepM a s) (W : wfA a) (n : Nat) : prW (clsK (gA s 100)) ((gA s 100).getD 167 0) ((gA s 100).getD 169 0) n = prD a.1 n := by
  obtain ⟨-, h1, h2, h3, h4⟩ := R.bk W
  rw [h1, h2, h4]
  rfl
/-- its knots -/
theorem RepM.kn {q : Int} (R : RepM a s) (hq : 0 ≤ q ∧ q < (a.1.1.length : Int)) : KnR (kA s) q.toNat (knQ a.1 q) := R.2.1.1.2 q.toNat (by omega)
theorem RepM.cnt (R : RepM a s) : (gA s 100).getD 136 0 = (a.1.1.length : Int) := R.2.1.1.1
theorem RepM.kpl {q : Int} (R : RepM a s) (hq : 0 ≤ q ∧ q < (a.1.1.length : Int)) {j : Nat} (hj : j < kLen (knQ a.1 q)) : kp (gA s 100) q j = pF (knQ a.1 q) j := by
  have := (R.kn hq).2.2.2.2.2 j hj
  unfold kA at this
  unfold kp
  rw [← this, show (17 * q + 5 + (j : Int)).toNat = 17 * q.toNat + 5 + j by omega]
theorem RepM.mv {q : Int} (R : RepM a s) (hq : 0 ≤ q ∧ q < (a.1.1.length : Int)) : (gA s 100).getD (17 * q + 3).toNat 0 = (kLen (knQ a.1 q) : Int) := by
  have := (R.kn hq).2.2.2.1
  unfold kA at this
  rw [← this, show (17 * q + 3).toNat = 17 * q.toNat + 3 by omega]
theorem rank_cg {f g : Nat → Int} {n : Nat} {L : List Nat} (h : ∀ k, k < n → f k = g k) : rankL f n L = rankL g n L := by
  unfold rankL
  congr 2
  funext u
  congr 2
  unfold unlN
  exact sumN_congr fun k hk => by rw [h k hk]
theorem ch_cg {f g : Nat → Int} {n : Nat} {L : List Nat} (h : ∀ k, k < n → f k = g k) : chL f n L = chL g n L := by
  unfold chL
  have : chS f n = chS g n := by
    funext a u
    unfold chS
    have : unlN (plN n u) f n = unlN (plN n u) g n := by
      unfold unlN
      exact sumN_congr fun k hk => by rw [h k hk]
    rw [this]
  rw [this]
/-- what is kept is set anew, part by part -/
theorem RepM.up {D : Dr} {H : Hi} {t : List Int} {f : Int × Int × Int × Int} {r : Int × Int × Int × Int × Int} (R : RepM a s) (hs : ShM s') (F : ∀ p ∈ [(101 : Int), 102, 104, 125], gA s' p = gA s p) (hf : ∀ k ∈ [59, 60, 61], gF s' 98 k = gF s 98 k) (hD : DrR (kA s') D) (hH : HiR s' H) (ht : TpM s' t) (hfl : FlM s' f) (hr : RfM s' r) : RepM (D, a.2.1, H, t, f, r, a.2.2.2.2.2.2) s' := by
  obtain ⟨-, -, r3, -, -, -, -, r8, r9⟩ := R
  exact ⟨hs, hD, ⟨r3.1.fr (F 101 (by decide)) (F 102 (by decide)), r3.2.fr (F 101 (by decide)) (F 102 (by decide))⟩, hH, ht, hfl, hr, r8.fr hf (F 125 (by decide)), (F 104 (by decide)).trans r9⟩
theorem kA_set {i j : Nat} {v : Int} (hs : ShM s) (hi : i < 5781) : kA (sA s 100 ((gA s 100).set i v)) j = if i = j then v else kA s j := by
  unfold kA
  rw [gA_eq, setD_getD (by rw [hs.ln 100]; exact hi)]
/-- only the kept row changed -/
theorem RepM.kept {D : Dr} {l : List Int} (R : RepM a s) (hl : l.length = (gA s 100).length) (hD : DrR (kA (sA s 100 l)) D) : RepM (setDr a D) (sA s 100 l) := by
  have e : ∀ p : Int, p ≠ 100 → gA (sA s 100 l) p = gA s p := fun p hp => gA_ne hp
  obtain ⟨r1, -, r3, r4, r5, r6, r7, r8, r9⟩ := id R
  exact R.up (r1.sA hl) (fun p hp => e p (by revert p; decide)) (fun _ _ => rfl) hD (r4.fr rfl (e 113 (by decide))) (r5.fr rfl (e 105 (by decide))) (r6.fr fun _ _ => rfl) (r7.fr (e 99 (by decide)))
theorem mm_refuses {v : Int} (hv : v = -1 ∨ v = -2 ∨ v = -3 ∨ v = -5 ∨ v = -6) (R : RepM a s) : ∃ s', X12_refuses d s 98 v = some ([(0, v)], s') ∧ RepM (refu a v).2 s' := by
  have hs := R.1
  have k99 : kd s 99 = 20 := hs.kd 99
  have l99 : (gA s 99).length = 7 := hs.ln 99
  have w : wi (-v) = -v := wi_sm (by omega) (by omega)
  have h7 : -v < ((gA s 99).length : Int) := by rw [l99]; omega
  have k98 : kd s 98 = 16 := hs.k98
  refine ⟨sA (sF s 98 0 v) 99 ((gA s 99).set (-v).toNat (wi ((gA s 99).getD (-v).toNat 0 + 1))), ?_, ?_⟩
  · rw [e_X12_refuses, wF_ok k98, rF_ok (show kd (sF s 98 0 v) 98 = 16 from k98), gF_nk (by decide), show gF s 98 1 = 99 from hs.fs.1, w, rA_ok (show kd (sF s 98 0 v) 99 = 20 from k99) (by omega) h7, wA_ok (show kd (sF s 98 0 v) 99 = 20 from k99) (by omega) h7]
    rfl
  · have e : ∀ p : Int, p ≠ 99 → gA (sA (sF s 98 0 v) 99 ((gA s 99).set (-v).toNat (wi ((gA s 99).getD (-v).toNat 0 + 1)))) p = gA s p := fun p hp => gA_ne hp
    have ef : ∀ k : Nat, k ≠ 0 → gF (sA (sF s 98 0 v) 99 ((gA s 99).set (-v).toNat (wi ((gA s 99).getD (-v).toNat 0 + 1)))) 98 k = gF s 98 k := fun k hk => gF_nk hk
    obtain ⟨r1, r2, r3, r4, r5, r6, r7, r8, r9⟩ := id R
    refine R.up ((hs.sF (by decide)).sA (by rw [List.length_set]; rfl)) (fun p hp => e p (by revert p; decide)) (fun k hk => ef k (by revert k; decide)) (by rw [kA_fr (e 100 (by decide))]; exact r2) (r4.fr (ef 33 (by decide)) (e 113 (by decide))) (r5.fr (ef 13 (by decide)) (e 105 (by decide))) ⟨gF_eq (s := s) 98 0 v, (ef 6 (by decide)).trans r6.2.1, (ef 14 (by decide)).trans r6.2.2.1, (ef 49 (by decide)).trans r6.2.2.2⟩ ?_
    obtain ⟨q1, q2, q3, q4, q5⟩ := r7
    unfold RfM incR
    rw [gA_eq]
    rcases hv with rfl | rfl | rfl | rfl | rfl
    · rw [if_pos rfl]
      refine ⟨?_, ?_, ?_, ?_, ?_⟩
      · rw [show (-(-1 : Int)).toNat = 1 from rfl, set_eq (by omega), q1]
      all_goals (rw [show (-(-1 : Int)).toNat = 1 from rfl, set_ne (by decide)]; assumption)
    · rw [if_neg (by decide), if_pos rfl]
      refine ⟨?_, ?_, ?_, ?_, ?_⟩
      · rw [show (-(-2 : Int)).toNat = 2 from rfl, set_ne (by decide)]; assumption
      · rw [show (-(-2 : Int)).toNat = 2 from rfl, set_eq (by omega), q2]
      all_goals (rw [show (-(-2 : Int)).toNat = 2 from rfl, set_ne (by decide)]; assumption)
    · rw [if_neg (by decide), if_neg (by decide), if_pos rfl]
      refine ⟨?_, ?_, ?_, ?_, ?_⟩
      · rw [show (-(-3 : Int)).toNat = 3 from rfl, set_ne (by decide)]; assumption
      · rw [show (-(-3 : Int)).toNat = 3 from rfl, set_ne (by decide)]; assumption
      · rw [show (-(-3 : Int)).toNat = 3 from rfl, set_eq (by omega), q3]
      all_goals (rw [show (-(-3 : Int)).toNat = 3 from rfl, set_ne (by decide)]; assumption)
    · rw [if_neg (by decide), if_neg (by decide), if_neg (by decide), if_pos rfl]
      refine ⟨?_, ?_, ?_, ?_, ?_⟩
      · rw [show (-(-5 : Int)).toNat = 5 from rfl, set_ne (by decide)]; assumption
      · rw [show (-(-5 : Int)).toNat = 5 from rfl, set_ne (by decide)]; assumption
      · rw [show (-(-5 : Int)).toNat = 5 from rfl, set_ne (by decide)]; assumption
      · rw [show (-(-5 : Int)).toNat = 5 from rfl, set_eq (by omega), q4]
      · rw [show (-(-5 : Int)).toNat = 5 from rfl, set_ne (by decide)]; assumption
    · rw [if_neg (by decide), if_neg (by decide), if_neg (by decide), if_neg (by decide)]
      refine ⟨?_, ?_, ?_, ?_, ?_⟩
      · rw [show (-(-6 : Int)).toNat = 6 from rfl, set_ne (by decide)]; assumption
      · rw [show (-(-6 : Int)).toNat = 6 from rfl, set_ne (by decide)]; assumption
      · rw [show (-(-6 : Int)).toNat = 6 from rfl, set_ne (by decide)]; assumption
      · rw [show (-(-6 : Int)).toNat = 6 from rfl, set_ne (by decide)]; assumption
      · rw [show (-(-6 : Int)).toNat = 6 from rfl, set_eq (by omega), q5]
theorem mm_good {v : Int} (R : RepM a s) : X12_good d s 98 v = some ([(0, v)], sF s 98 0 0) ∧ RepM (goodA a v).2 (sF s 98 0 0) := by
  have hs := R.1
  have ef : ∀ k : Nat, k ≠ 0 → gF (sF s 98 0 0) 98 k = gF s 98 k := fun k hk => gF_nk hk
  obtain ⟨r1, r2, r3, r4, r5, r6, r7, r8, r9⟩ := id R
  exact ⟨by rw [e_X12_good, wF_ok (hs.k98)], R.up (hs.sF (by decide)) (fun p hp => rfl) (fun k hk => ef k (by revert k; decide)) r2 (r4.fr (ef 33 (by decide)) rfl) (r5.fr (ef 13 (by decide)) rfl) ⟨gF_eq _ _ _ _, (ef 6 (by decide)).trans r6.2.1, (ef 14 (by decide)).trans r6.2.2.1, (ef 49 (by decide)).trans r6.2.2.2⟩ (r7.fr rfl)⟩
theorem RepM.undo0 (R : RepM a s) : RepM (setHi a []) (sF s 98 33 0) := by
  have hs := R.1
  have ef : ∀ k : Nat, k ≠ 33 → gF (sF s 98 33 0) 98 k = gF s 98 k := fun k hk => gF_nk hk
  obtain ⟨r1, r2, r3, r4, r5, r6, r7, r8, r9⟩ := id R
  exact R.up (hs.sF (by decide)) (fun p hp => rfl) (fun k hk => ef k (by revert k; decide)) r2 ⟨gF_eq _ _ _ _, fun i hi => absurd hi (by simp)⟩ (r5.fr (ef 13 (by decide)) rfl) (r6.fr fun k hk => ef k (by revert k; decide)) (r7.fr rfl)
theorem mm_settled {v : Int} (R : RepM a s) : ∃ s', X12_settled (d + 1) s 98 v = some ([(0, v)], s') ∧ RepM (goodA (setHi a []) v).2 s' := by
  have h := mm_good (d := d) (v := v) R.undo0
  refine ⟨_, ?_, h.2⟩
  rw [e_X12_settled, wF_ok (R.1.k98), oK_ok (show kd (sF s 98 33 0) 98 = 16 from R.1.k98), h.1, cI_ok]
/-- at a call's end -/
theorem mm_ref {v : Int} {K : Int → St → Res} (hv : v = -1 ∨ v = -2 ∨ v = -3 ∨ v = -5 ∨ v = -6) (R : RepM a s) (hK : ∀ x s', K x s' = some ([(0, x)], s')) : Gl (GI fun x s' => x = (refu a v).1 ∧ RepM (refu a v).2 s') (oK s 98 16 (cI (X12_refuses d s 98 v) K)) := by
  obtain ⟨s', e1, e2⟩ := mm_refuses (d := d) hv R
  rw [oK_ok (R.1.k98), e1, cI_ok, hK]
  exact reI ⟨rfl, e2⟩
theorem mm_grant {v : Int} {K : Int → St → Res} (R : RepM a s) (hK : ∀ x s', K x s' = some ([(0, x)], s')) : Gl (GI fun x s' => x = (goodA a v).1 ∧ RepM (goodA a v).2 s') (oK s 98 16 (cI (X12_good d s 98 v) K)) := by
  obtain ⟨e1, e2⟩ := mm_good (d := d) (v := v) R
  rw [oK_ok (R.1.k98), e1, cI_ok, hK]
  exact reI ⟨rfl, e2⟩
theorem mm_sett {v : Int} {K : Int → St → Res} (R : RepM a s) (hK : ∀ x s', K x s' = some ([(0, x)], s')) : Gl (GI fun x s' => x = (goodA (setHi a []) v).1 ∧ RepM (goodA (setHi a []) v).2 s') (oK s 98 16 (cI (X12_settled (d + 1) s 98 v) K)) := by
  obtain ⟨s', e1, e2⟩ := mm_settled (d := d) (v := v) R
  rw [oK_ok (R.1.k98), e1, cI_ok, hK]
  exact reI ⟨rfl, e2⟩
end RM
