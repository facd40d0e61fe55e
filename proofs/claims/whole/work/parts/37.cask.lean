/-! ===== the class asks a law about a move ===== -/
def LvP (one : PP) : Prop := ∀ i l a, l ≤ 50 → one i l = .ok a → a.2.1 ≤ 50
theorem lv_part {c v : Nat → Int} {fw lw : Int} {br : PP} (hb : LvP br) : LvP (pPart c v fw lw br) := by
  intro i l r hl h
  unfold pPart at h
  by_cases e1 : c i = 191
  · rw [if_pos e1] at h
    obtain ⟨a, ha, h⟩ := bnd_ok.mp h
    by_cases e2 : c a.1 = 193
    · rw [if_pos e2] at h; cases h; exact hb _ _ a hl ha
    · rw [if_neg e2] at h; cases h
  · rw [if_neg e1] at h
    by_cases e2 : (c i = 50 ∧ v i ≤ 1000) ∨ (fw ≤ c i ∧ c i ≤ lw)
    · rw [if_pos e2] at h
      by_cases e3 : l = 50
      · rw [if_pos e3] at h; cases h
      rw [if_neg e3] at h
      repeat' split at h
      all_goals first
        | (cases h; show l + 1 ≤ 50; omega)
        | cases h
    · rw [if_neg e2] at h; cases h
theorem lv_chn {c : Nat → Int} {one : PP} {opf : Int → Int} (h1 : LvP one) : ∀ (f : Nat) (a r : PV), a.2.1 ≤ 50 → pChn one c opf f a = .ok r → r.2.1 ≤ 50
  | 0, a, r, ha, h => by cases h; exact ha
  | f + 1, a, r, ha, h => by
    unfold pChn at h
    split at h
    · cases h; exact ha
    · obtain ⟨b, hb, h⟩ := bnd_ok.mp h
      exact lv_chn h1 f _ r (by exact h1 _ _ b ha hb) h
theorem lv_sumG {c v : Nat → Int} {fw lw : Int} {br : PP} (hb : LvP br) : LvP (pSumG c v fw lw br) := by
  have ht : LvP (pTerm c v fw lw br) := fun i l a hl h => by
    unfold pTerm at h
    obtain ⟨b, hb1, h⟩ := bnd_ok.mp h
    exact lv_chn (lv_part hb) 401 _ _ (lv_part hb _ _ _ hl hb1) h
  intro i l a hl h
  unfold pSumG at h
  obtain ⟨b, hb1, h⟩ := bnd_ok.mp h
  exact lv_chn ht 401 _ _ (ht _ _ _ hl hb1) h
theorem lv_sum {c v : Nat → Int} {fw lw : Int} : ∀ k, LvP (pSum c v fw lw k)
  | 0 => lv_sumG fun i l a _ h => by cases h
  | k + 1 => lv_sumG fun i l a hl h => lv_sum k (i + 1) l a hl h
theorem lv_sk {c : Nat → Int} {one : PP} {w op : Int} {jd : Dn → Dn → Dn} (h1 : LvP one) : ∀ (f : Nat) (a r : PV), a.2.1 ≤ 50 → pSk one c w op jd f a = .ok r → r.2.1 ≤ 50
  | 0, a, r, ha, h => by cases h; exact ha
  | f + 1, a, r, ha, h => by
    unfold pSk at h
    split at h
    · obtain ⟨b, hb, h⟩ := bnd_ok.mp h
      exact lv_sk h1 f _ r (by exact h1 _ _ b ha hb) h
    · cases h; exact ha
theorem lv_testG {c : Nat → Int} {br sm : PP} (hb : LvP br) (hs : LvP sm) : LvP (pTestG c br sm) := by
  have hp : LvP (pPos c br sm) := fun i l r hl h => by
    unfold pPos at h
    split at h
    · obtain ⟨a, ha, h⟩ := bnd_ok.mp h
      split at h
      · cases h; exact hb _ _ a hl ha
      · cases h
    · obtain ⟨a, ha, h⟩ := bnd_ok.mp h
      split at h
      · cases h
      · obtain ⟨b, hb1, h⟩ := bnd_ok.mp h
        cases h
        exact hs _ _ b (hs _ _ a hl ha) hb1
  have hpl : LvP (pPlain c br sm) := fun i l r hl h => by
    unfold pPlain at h
    obtain ⟨a, ha, h⟩ := bnd_ok.mp h
    cases h
    exact hp _ _ a hl ha
  have hbo : LvP (pBoth c br sm) := fun i l r hl h => by
    unfold pBoth at h
    obtain ⟨a, ha, h⟩ := bnd_ok.mp h
    exact lv_sk hpl 401 _ _ (hpl _ _ _ hl ha) h
  intro i l r hl h
  unfold pTestG at h
  obtain ⟨a, ha, h⟩ := bnd_ok.mp h
  exact lv_sk hbo 401 _ _ (hbo _ _ _ hl ha) h
theorem lv_test {c v : Nat → Int} {fw lw : Int} : ∀ k, LvP (pTest c v fw lw k)
  | 0 => lv_testG (fun i l a _ h => by cases h) (lv_sum 0)
  | k + 1 => lv_testG (fun i l a hl h => lv_test k (i + 1) l a hl h) (lv_sum (k + 1))
/-- a piece of a clause: nothing, or code that means it -/
def PcOk (s : St) (v0 po pa w st : Int) (ρ : Nat → Int) (x : Cd × Dn) : Prop := x = eDn ∨ ∃ m, m ≤ 50 ∧ CdOk s v0 po pa w st ρ m x.1 x.2
def ClOk (s : St) (v0 po pa w st : Int) (ρ : Nat → Int) (q : Cl) : Prop := PcOk s v0 po pa w st ρ q.2.2.1 ∧ PcOk s v0 po pa w st ρ q.2.2.2.1 ∧ PcOk s v0 po pa w st ρ q.2.2.2.2 ∧ okB1 q.2.2.2.2.2 ρ
section CA
variable {s : St} {v0 po pa w st : Int} {ρ : Nat → Int} {wl : Nat} {c v : Nat → Int}
theorem k_if {fw lw : Int} (X : RkX s v0 po pa w st ρ wl) (hf : (fw = 8 ∧ lw = 13 ∧ wl = 6) ∨ (fw = 14 ∧ lw = 19 ∧ wl = 27)) (hv : ∀ i, 0 ≤ v i) {i l : Nat} {h t : Int} {x y : Cd × Dn} {r : Nat × Nat × Cl} (hl : l ≤ 50) (hx : PcOk s v0 po pa w st ρ x) (hy : PcOk s v0 po pa w st ρ y) (hp : pIf c (pTest c v fw lw 8) i l h t x y = .ok r) : ClOk s v0 po pa w st ρ r.2.2 ∧ r.2.1 ≤ 50 ∧ r.2.2.1 = h ∧ r.2.2.2.1 = t ∧ r.2.2.2.2.1 = x ∧ r.2.2.2.2.2.1 = y := by
  unfold pIf at hp
  split at hp
  · obtain ⟨a, ha, hp⟩ := bnd_ok.mp hp
    cases hp
    obtain ⟨⟨k1, k2⟩, k3⟩ := k_test X hf hv 8 _ _ _ ha
    have k4 := lv_test 8 _ _ _ hl ha
    exact ⟨⟨hx, hy, Or.inr ⟨_, by omega, k2⟩, k3⟩, k4, rfl, rfl, rfl, rfl⟩
  · cases hp
    exact ⟨⟨hx, hy, Or.inl rfl, fun z hz => by cases hz; simp⟩, hl, rfl, rfl, rfl, rfl⟩
theorem k_clL (X : RkX s v0 po pa w st ρ 6) (hv : ∀ i, 0 ≤ v i) {i l : Nat} {r : Nat × Nat × Cl} (hl : l ≤ 50) (h : pClL c v i l = .ok r) : ClOk s v0 po pa w st ρ r.2.2 ∧ r.2.1 ≤ 50 ∧ (r.2.2.1 = 1 ∨ r.2.2.1 = 2 ∨ (r.2.2.1 = 3 ∧ r.2.2.2.2.1 = eDn)) := by
  have hf : ((8 : Int) = 8 ∧ (13 : Int) = 13 ∧ (6 : Nat) = 6) ∨ ((8 : Int) = 14 ∧ (13 : Int) = 19 ∧ (6 : Nat) = 27) := Or.inl ⟨rfl, rfl, rfl⟩
  unfold pClL at h
  split at h
  · rename_i e
    obtain ⟨a, ha, h⟩ := bnd_ok.mp h
    obtain ⟨k1, k2⟩ := k_sum X hf hv 8 _ _ _ ha
    have k3 := lv_sum 8 _ _ _ hl ha
    obtain ⟨g1, g2, g3, -⟩ := k_if X hf hv k3 (Or.inr ⟨_, by omega, k2⟩) (Or.inl rfl) h
    exact ⟨g1, g2, by rw [g3]; exact e.elim Or.inl (fun q => Or.inr (Or.inl q))⟩
  · split at h
    · obtain ⟨g1, g2, g3, -, g5, -⟩ := k_if X hf hv hl (Or.inl rfl) (Or.inl rfl) h
      exact ⟨g1, g2, Or.inr (Or.inr ⟨g3, g5⟩)⟩
    · cases h
theorem k_tx {one : Nat → Nat → Except Nat (Nat × Nat × Cl)} {P : Cl → Prop} {nt : Nat} (hone : ∀ i l r, l ≤ 50 → one i l = .ok r → P r.2.2 ∧ r.2.1 ≤ 50) : ∀ (r i l : Nat) (acc cls : List Cl), l ≤ 50 → (∀ q ∈ acc, P q) → pTx one c nt r i l acc = .ok cls → (∀ q ∈ cls, P q) ∧ cls.length ≤ acc.length + r
  | 0, i, l, acc, cls, hl, ha, h => by
    unfold pTx at h
    split at h
    · cases h
    · split at h
      · cases h
      · cases h; exact ⟨ha, by omega⟩
  | r + 1, i, l, acc, cls, hl, ha, h => by
    unfold pTx at h
    split at h
    · obtain ⟨b, hb, h⟩ := bnd_ok.mp h
      obtain ⟨g1, g2⟩ := hone _ _ _ hl hb
      have := k_tx hone r _ _ _ cls g2 (fun q hq => by
        rcases List.mem_append.mp hq with hq | hq
        · exact ha q hq
        · rw [List.mem_singleton.mp hq]; exact g1) h
      refine ⟨this.1, ?_⟩
      have h2 := this.2
      simp at h2
      omega
    · split at h
      · cases h
      · cases h; exact ⟨ha, by omega⟩
theorem k_text {one : Nat → Nat → Except Nat (Nat × Nat × Cl)} {P : Cl → Prop} {nt : Nat} (hone : ∀ i l r, l ≤ 50 → one i l = .ok r → P r.2.2 ∧ r.2.1 ≤ 50) {cls : List Cl} (h : pText one c nt = .ok cls) : (∀ q ∈ cls, P q) ∧ cls.length ≤ 12 := by
  unfold pText at h
  obtain ⟨b, hb, h⟩ := bnd_ok.mp h
  obtain ⟨g1, g2⟩ := hone _ _ _ (by omega) hb
  have := k_tx hone 11 _ _ _ cls g2 (fun q hq => by rw [List.mem_singleton.mp hq]; exact g1) h
  exact ⟨this.1, by have := this.2; simp at this; omega⟩
theorem c_reckon {d fr to : Nat} (X : RkX s v0 po pa w st ρ wl) {q : Cd × Dn} (h : PcOk s v0 po pa w st ρ q) (hsg : seg s po pa fr q.1) (hto : to = fr + q.1.length) : ∃ l', l'.length = 64 ∧ X7_reckon (d + 1) s v0 fr to w st = some ([(0, orB (q.2 ρ))], sA s st l') := by
  have X' := X
  obtain ⟨a1, a2, a3, a4, a5, a6, a7, a8, a9, a10, a11, a12, a13, a14, a15, a16⟩ := X
  rcases h with rfl | ⟨m, hm, x1, x2, x3, x4⟩
  · refine ⟨gA s st, a12, ?_⟩
    rw [e_X7_reckon, if_neg (by rw [hto]; simp [eDn]), sA_id]
    rfl
  · have key : Gl (fun r => ∃ l' : List Int, l'.length = 64 ∧ r = some ([(0, orB (q.2 ρ))], sA s st l')) (X7_reckon_13 (d + 1) (sA s st (gA s st)) v0 to w st (0 : Nat) fr) := by
      refine x4 d to fr 0 (gA s st) _ hsg (by omega) (by omega) a12 (fun x l' hx hl' _ hx0 => ?_) (fun hn l' hl' => ?_)
      · rw [e_X7_reckon_13, if_neg (by omega)]
        simp (disch := ((try simp only [kd_sF, kd_sA, gA_sF, gA_sA, gF_sF, gF_sA, List.length_set, reduceIte, and_true, and_false, true_and, false_and, Nat.reduceEqDiff, Int.reduceEq, a7]); first | done | omega)) only [rF_ok, wF_ok, oK_ok, lA_ok, rA_ok, wA_ok, cI_ok, cV_ok, cL_ok, cR_ok, kd_sF, kd_sA, gA_sF, gF_sA, gF_sF, gA_sA, bk_0, bk_1, List.length_set, reduceIte, and_true, and_false, true_and, false_and, ne_eq, not_true_eq_false, not_false_eq_true, Int.toNat_natCast, Int.reduceToNat, Nat.reduceEqDiff, Int.reduceEq, Int.reduceLT, Int.reduceLE, Int.reduceAdd, Int.reduceSub, Int.reduceMul, Int.reduceNeg, a7, hl']
        refine ⟨l', hl', ?_⟩
        rw [hx, hx0]
        rfl
      · exact ⟨l', hl', by rw [hn]; rfl⟩
    obtain ⟨l', h1, h2⟩ := key
    refine ⟨l', h1, ?_⟩
    rw [e_X7_reckon, if_pos (by omega)]
    rw [sA_id] at h2
    exact h2
end CA
