/-! ===== a store and the heap that holds it ===== -/
/-- classes and slots, array classes by kind, the address of pointer 0, the text constants' addresses -/
abbrev Ev0 : Type := va_G × (Nat → ClassId) × Nat × (Nat → Nat) × (Nat → Nat)
def n0 (E : Ev0) : Nat := E.2.2.1
def rvE (E : Ev0) (x : Int) : Value := if x = 0 then .null else .ref (n0 E + x.toNat)
/-- a value by its type's number: 0 int, 1 boolean, 2 byte, 3 long, others references -/
def mt (E : Ev0) (t : Nat) (x : Int) : Value := match t with
  | 0 => .int (Int32.ofInt x)
  | 1 => .int (Int32.ofInt x)
  | 2 => .int (Int32.ofInt x)
  | 3 => .long (Int64.ofInt x)
  | _ + 4 => rvE E x
def mv (E : Ev0) (v : V) : Value := match v with
  | (0, x) => .int (Int32.ofInt x)
  | (1, x) => rvE E x
  | (2, x) => .long (Int64.ofInt x)
  | (_ + 3, x) => .ref (E.2.2.2.1 x.toNat)
def tv (s : St) (t : Nat) (x : Int) : Prop := match t with
  | 0 => rg x
  | 1 => x = 0 ∨ x = 1
  | 2 => -128 ≤ x ∧ x < 128
  | 3 => rl x
  | t + 4 => x = 0 ∨ kd s x = t + 4
def tvV (s : St) (v : V) : Prop := match v with
  | (0, x) => rg x
  | (1, x) => x = 0 ∨ kd s x ≠ 0
  | (2, x) => rl x
  | (3, x) => 0 ≤ x ∧ x < 2
  | (_ + 4, _) => False
/-- the type of an array's elements, by the array's kind -/
def ety (t : Nat) : Nat := [0, 2, 1, 3, 7, 4, 11].getD (t - 20) 0
def aty (t : Nat) : FieldType := [.int, .byte, .boolean, .long, .object (cn 3), .object (cn 0), .object (cn 7)].getD (t - 20) .int
def tyL (E : Ev0) : List (ClassId × FieldType) := (List.range 7).map fun i => (E.2.1 (20 + i), aty (20 + i))
def okC (E : Ev0) (s : St) (p : Int) (H : Heap) : Prop :=
  (∃ ci, kd s p = ci + 4 ∧ ci < 13 ∧ t_OB (n0 E + p.toNat) (E.1.1 ci) (cN ci) (E.1.2 ci) H (fun k => mt E (fty ci k) (gF s p k)) ∧ ∀ k, k < cN ci → tv s (fty ci k) (gF s p k)) ∨
  (20 ≤ kd s p ∧ kd s p < 27 ∧ H[n0 E + p.toNat]? = some (arrV (E.2.1 (kd s p)) (gA s p).length (fun j => mt E (ety (kd s p)) ((gA s p).getD j 0))) ∧ (∀ x ∈ gA s p, tv s (ety (kd s p)) x) ∧ (gA s p).length ≤ 1000000)
def hp (E : Ev0) (s : St) (H : Heap) : Prop := (∀ p, kd s p ≠ 0 → 0 < p ∧ p < nx s) ∧ (H.size : Int) = n0 E + nx s ∧ ∀ p, kd s p ≠ 0 → okC E s p H
def ext (s s' : St) : Prop := ∀ p, kd s p ≠ 0 → kd s' p = kd s p
theorem ext.rf (s : St) : ext s s := fun _ _ => rfl
theorem ext.tr {a b c : St} (h1 : ext a b) (h2 : ext b c) : ext a c := fun p h => by
  have e := h1 p h
  rw [h2 p (by rw [e]; exact h), e]
theorem tv.ex {s s' : St} (h : ext s s') {t : Nat} {x : Int} (ht : tv s t x) : tv s' t x := by
  match t, ht with
  | 0, ht => exact ht
  | 1, ht => exact ht
  | 2, ht => exact ht
  | 3, ht => exact ht
  | t + 4, ht =>
    rcases ht with h0 | h1
    · exact Or.inl h0
    · exact Or.inr (by rw [h x (by omega)]; exact h1)
theorem tvV.ex {s s' : St} (h : ext s s') {v : V} (ht : tvV s v) : tvV s' v := by
  match v, ht with
  | (0, x), ht => exact ht
  | (1, x), ht =>
    rcases ht with h0 | h1
    · exact Or.inl h0
    · exact Or.inr (by rw [h x h1]; exact h1)
  | (2, x), ht => exact ht
  | (3, x), ht => exact ht
/-- what a field's, an element's value is on the stack -/
def tgo (t : Nat) : Nat := match t with
  | 0 => 0
  | 1 => 0
  | 2 => 0
  | 3 => 2
  | _ => 1
theorem mt_mv (E : Ev0) (t : Nat) (x : Int) : mt E t x = mv E (tgo t, x) := by
  match t with
  | 0 => rfl
  | 1 => rfl
  | 2 => rfl
  | 3 => rfl
  | t + 4 => rfl
theorem tv_tvV {s : St} {t : Nat} {x : Int} (h : tv s t x) : tvV s (tgo t, x) := by
  match t, h with
  | 0, h => exact h
  | 1, h =>
    show rg x
    unfold rg
    rcases h with h | h <;> omega
  | 2, h =>
    show rg x
    unfold rg
    have : -128 ≤ x ∧ x < 128 := h
    omega
  | 3, h => exact h
  | t + 4, h =>
    rcases h with h0 | h1
    · exact Or.inl h0
    · exact Or.inr (by rw [h1]; omega)
theorem rvE_pos (E : Ev0) {x : Int} (h : x ≠ 0) : rvE E x = .ref (n0 E + x.toNat) := if_neg h
theorem rvE_0 (E : Ev0) : rvE E 0 = .null := if_pos rfl
theorem hp.pos {E : Ev0} {s : St} {H : Heap} (h : hp E s H) {p : Int} (hk : kd s p ≠ 0) : 0 < p ∧ p < nx s ∧ rvE E p = .ref (n0 E + p.toNat) := ⟨(h.1 p hk).1, (h.1 p hk).2, rvE_pos E (by have := (h.1 p hk).1; omega)⟩
theorem hp.obj {E : Ev0} {s : St} {H : Heap} (h : hp E s H) {p : Int} {ci : Nat} (hk : kd s p = ci + 4) (hc : ci < 13) : t_OB (n0 E + p.toNat) (E.1.1 ci) (cN ci) (E.1.2 ci) H (fun k => mt E (fty ci k) (gF s p k)) ∧ ∀ k, k < cN ci → tv s (fty ci k) (gF s p k) := by
  rcases h.2.2 p (by omega) with ⟨c2, h1, h2, h3, h4⟩ | ⟨h1, h2, -⟩
  · have e : c2 = ci := by omega
    subst e
    exact ⟨h3, h4⟩
  · omega
theorem hp.arr {E : Ev0} {s : St} {H : Heap} (h : hp E s H) {p : Int} {t : Nat} (hk : kd s p = t) (h1 : 20 ≤ t) (h2 : t < 27) : H[n0 E + p.toNat]? = some (arrV (E.2.1 t) (gA s p).length (fun j => mt E (ety t) ((gA s p).getD j 0))) ∧ (∀ x ∈ gA s p, tv s (ety t) x) ∧ (gA s p).length ≤ 1000000 := by
  rcases h.2.2 p (by omega) with ⟨c2, g1, g2, -⟩ | ⟨-, -, g⟩
  · omega
  · rw [hk] at g
    exact g
theorem okC.kept {E : Ev0} {s s' : St} {p : Int} {H H1 : Heap} (h : okC E s p H) (hk : kd s' p = kd s p) (hF : ∀ k, gF s' p k = gF s p k) (hA : gA s' p = gA s p) (hx : ext s s') (hq : H1[n0 E + p.toNat]? = H[n0 E + p.toNat]?) : okC E s' p H1 := by
  rcases h with ⟨ci, h1, h2, h3, h4⟩ | ⟨h1, h2, h3, h4, h5⟩
  · refine Or.inl ⟨ci, by rw [hk]; exact h1, h2, ?_, fun k hkN => by rw [hF]; exact (h4 k hkN).ex hx⟩
    exact (h3.kept hq).to (fun k _ => by rw [hF])
  · refine Or.inr ⟨by rw [hk]; exact h1, by rw [hk]; exact h2, ?_, ?_, by rw [hA]; exact h5⟩
    · rw [hk, hA, hq]; exact h3
    · rw [hk, hA]; exact fun x hxm => (h4 x hxm).ex hx
theorem ad_ne {E : Ev0} {s : St} {H : Heap} (h : hp E s H) {p q : Int} (hp : kd s p ≠ 0) (hq : kd s q ≠ 0) (hne : q ≠ p) : n0 E + q.toNat ≠ n0 E + p.toNat := by
  have h1 := (h.1 p hp).1
  have h2 := (h.1 q hq).1
  omega
/-- a field is written -/
theorem hp.put {E : Ev0} {s : St} {H H1 : Heap} (h : hp E s H) {p : Int} {ci k : Nat} {v : Int} (hk : kd s p = ci + 4) (hc : ci < 13) (hv : tv s (fty ci k) v)
    (h1 : t_OB (n0 E + p.toNat) (E.1.1 ci) (cN ci) (E.1.2 ci) H1 (updV (fun k => mt E (fty ci k) (gF s p k)) k (mt E (fty ci k) v))) (hz : H1.size = H.size) (ho : ∀ q : Nat, q ≠ n0 E + p.toNat → H1[q]? = H[q]?) : hp E (sF s p k v) H1 := by
  have hx : ext s (sF s p k v) := fun _ _ => rfl
  refine ⟨h.1, by rw [hz]; exact h.2.1, fun q hq => ?_⟩
  have hq' : kd s q ≠ 0 := hq
  by_cases e : q = p
  · subst e
    refine Or.inl ⟨ci, hk, hc, h1.to (fun j _ => ?_), fun j hj => ?_⟩
    · by_cases ej : j = k
      · subst ej
        simp [updV, gF, sF]
      · simp [updV, gF, sF, ej]
    · by_cases ej : j = k
      · subst ej
        have e2 : gF (sF s q j v) q j = v := by simp [gF, sF]
        rw [e2]
        exact hv.ex hx
      · have e2 : gF (sF s q k v) q j = gF s q j := by simp [gF, sF, ej]
        rw [e2]
        exact ((h.obj hk hc).2 j hj).ex hx
  · refine (h.2.2 q hq').kept rfl (fun j => ?_) rfl hx (ho _ (ad_ne h (by rw [hk]; omega) hq' e))
    simp [gF, sF, e]
/-- an array is written -/
theorem hp.ast {E : Ev0} {s : St} {H H1 : Heap} (h : hp E s H) {p : Int} {t : Nat} {l : List Int} (hk : kd s p = t) (h1 : 20 ≤ t) (h2 : t < 27) (hl : ∀ x ∈ l, tv s (ety t) x) (hn : l.length ≤ 1000000)
    (h3 : H1[n0 E + p.toNat]? = some (arrV (E.2.1 t) l.length (fun j => mt E (ety t) (l.getD j 0)))) (hz : H1.size = H.size) (ho : ∀ q : Nat, q ≠ n0 E + p.toNat → H1[q]? = H[q]?) : hp E (sA s p l) H1 := by
  have hx : ext s (sA s p l) := fun _ _ => rfl
  refine ⟨h.1, by rw [hz]; exact h.2.1, fun q hq => ?_⟩
  have hq' : kd s q ≠ 0 := hq
  by_cases e : q = p
  · subst e
    have e2 : gA (sA s q l) q = l := by simp [gA, sA]
    have e3 : kd (sA s q l) q = t := hk
    refine Or.inr ⟨by rw [e3]; exact h1, by rw [e3]; exact h2, ?_, ?_, by rw [e2]; exact hn⟩
    · rw [e3, e2]; exact h3
    · rw [e3, e2]; exact fun x hxm => (hl x hxm).ex hx
  · refine (h.2.2 q hq').kept rfl (fun _ => rfl) ?_ hx (ho _ (ad_ne h (by omega) hq' e))
    simp [gA, sA, e]
theorem kd_nx {E : Ev0} {s : St} {H : Heap} (h : hp E s H) : kd s (nx s) = 0 := by
  by_cases e : kd s (nx s) = 0
  · exact e
  · have := (h.1 _ e).2
    omega
theorem tv_def (s : St) (t : Nat) : tv s t 0 := by
  match t with
  | 0 => exact rg0
  | 1 => exact Or.inl rfl
  | 2 => exact ⟨by omega, by omega⟩
  | 3 => exact rl0
  | t + 4 => exact Or.inl rfl
theorem nx_ge {E : Ev0} {s : St} {H : Heap} (h : hp E s H) (h0 : n0 E < H.size) : 0 < nx s := by
  have := h.2.1
  omega
/-- an object is made -/
theorem hp.newO {E : Ev0} {s : St} {H H1 : Heap} (h : hp E s H) (h0 : n0 E < H.size) {ci : Nat} (hc : ci < 13)
    (h1 : t_OB H.size (E.1.1 ci) (cN ci) (E.1.2 ci) H1 (fun k => mt E (fty ci k) 0)) (hz : H1.size = H.size + 1) (ho : ∀ q : Nat, q < H.size → H1[q]? = H[q]?) : hp E (nO s ci (cN ci)) H1 ∧ ext s (nO s ci (cN ci)) ∧ kd (nO s ci (cN ci)) (nx s) = ci + 4 ∧ rvE E (nx s) = .ref H.size := by
  have hp0 := nx_ge h h0
  have hs := h.2.1
  have hx : ext s (nO s ci (cN ci)) := fun q hq => by
    have hne : q ≠ nx s := fun e => hq (by rw [e]; exact kd_nx h)
    simp [kd, nO, hne]
  have hka : kd (nO s ci (cN ci)) (nx s) = ci + 4 := by simp [kd, nO]
  have had : n0 E + (nx s).toNat = H.size := by omega
  refine ⟨⟨fun q hq => ?_, ?_, fun q hq => ?_⟩, hx, hka, by rw [rvE_pos E (by omega), had]⟩
  · show 0 < q ∧ q < nx s + 1
    by_cases e : q = nx s
    · omega
    · have hq' : kd s q ≠ 0 := by simpa [kd, nO, e] using hq
      have := h.1 q hq'
      omega
  · show (H1.size : Int) = n0 E + (nx s + 1)
    omega
  · by_cases e : q = nx s
    · subst e
      refine Or.inl ⟨ci, hka, hc, ?_, fun k _ => ?_⟩
      · rw [had]
        exact h1.to (fun k _ => by simp [gF, nO])
      · have e2 : gF (nO s ci (cN ci)) (nx s) k = 0 := by simp [gF, nO]
        rw [e2]
        exact tv_def _ _
    · have hq' : kd s q ≠ 0 := by simpa [kd, nO, e] using hq
      have hb := h.1 q hq'
      refine (h.2.2 q hq').kept (hx q hq') (fun k => by simp [gF, nO, e]) rfl hx (ho _ (by omega))
/-- an array is made -/
theorem hp.newA {E : Ev0} {s : St} {H H1 : Heap} (h : hp E s H) (h0 : n0 E < H.size) {t n : Nat} (t1 : 20 ≤ t) (t2 : t < 27) (hn : n ≤ 1000000)
    (h1 : H1[H.size]? = some (arrV (E.2.1 t) n (fun _ => mt E (ety t) 0))) (hz : H1.size = H.size + 1) (ho : ∀ q : Nat, q < H.size → H1[q]? = H[q]?) : hp E (nA s t n) H1 ∧ ext s (nA s t n) ∧ kd (nA s t n) (nx s) = t ∧ rvE E (nx s) = .ref H.size := by
  have hp0 := nx_ge h h0
  have hs := h.2.1
  have hx : ext s (nA s t n) := fun q hq => by
    have hne : q ≠ nx s := fun e => hq (by rw [e]; exact kd_nx h)
    simp [kd, nA, hne]
  have hka : kd (nA s t n) (nx s) = t := by simp [kd, nA]
  have had : n0 E + (nx s).toNat = H.size := by omega
  refine ⟨⟨fun q hq => ?_, ?_, fun q hq => ?_⟩, hx, hka, by rw [rvE_pos E (by omega), had]⟩
  · show 0 < q ∧ q < nx s + 1
    by_cases e : q = nx s
    · omega
    · have hq' : kd s q ≠ 0 := by simpa [kd, nA, e] using hq
      have := h.1 q hq'
      omega
  · show (H1.size : Int) = n0 E + (nx s + 1)
    omega
  · by_cases e : q = nx s
    · subst e
      have e2 : gA (nA s t n) (nx s) = List.replicate n 0 := by simp [gA, nA]
      refine Or.inr ⟨by rw [hka]; exact t1, by rw [hka]; exact t2, ?_, ?_, by rw [e2, List.length_replicate]; exact hn⟩
      · rw [hka, e2, had, List.length_replicate, h1]
        congr 2
        funext j
        rcases Nat.lt_or_ge j n with hj | hj
        · simp [List.getD_eq_getElem?_getD, hj]
        · simp [List.getD_eq_getElem?_getD, hj]
      · rw [hka, e2]
        intro x hxm
        rw [(List.mem_replicate.mp hxm).2]
        exact tv_def _ _
    · have hq' : kd s q ≠ 0 := by simpa [kd, nA, e] using hq
      have hb := h.1 q hq'
      refine (h.2.2 q hq').kept (hx q hq') (fun k => rfl) (by simp [gA, nA, e]) hx (ho _ (by omega))
