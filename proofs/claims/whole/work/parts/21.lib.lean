/-! ===== reads and writes of stores as rewriting rules; loops; sums ===== -/
theorem rF_ok {s : St} {p : Int} {t k : Nat} {K : Int → Res} (h : kd s p = t) : rF s p t k K = K (gF s p k) := if_pos h
theorem wF_ok {s : St} {p : Int} {t k : Nat} {v : Int} {K : St → Res} (h : kd s p = t) : wF s p t k v K = K (sF s p k v) := if_pos h
theorem rA_ok {s : St} {p : Int} {t : Nat} {i : Int} {K : Int → Res} (h : kd s p = t) (h0 : 0 ≤ i) (h1 : i < (gA s p).length) : rA s p t i K = K ((gA s p).getD i.toNat 0) := if_pos ⟨h, h0, h1⟩
theorem wA_ok {s : St} {p : Int} {t : Nat} {i v : Int} {K : St → Res} (h : kd s p = t) (h0 : 0 ≤ i) (h1 : i < (gA s p).length) : wA s p t i v K = K (sA s p ((gA s p).set i.toNat v)) := if_pos ⟨h, h0, h1⟩
theorem lA_ok {s : St} {p : Int} {t : Nat} {K : Int → Res} (h : kd s p = t) : lA s p t K = K (gA s p).length := if_pos h
theorem oK_ok {s : St} {p : Int} {t : Nat} {r : Res} (h : kd s p = t) : oK s p t r = r := if_pos h
theorem aC_ok {s : St} {p sp q dp n : Int} {K : St → Res} (h : kd s p = 20) (h2 : kd s q = 20) (h3 : 0 ≤ sp) (h4 : 0 ≤ dp) (h5 : 0 ≤ n) (h6 : sp + n ≤ (gA s p).length) (h7 : dp + n ≤ (gA s q).length) : aC s p sp q dp n K = K (sA s q (cpL (gA s p) sp.toNat (gA s q) dp.toNat n.toNat)) := if_pos ⟨h, h2, h3, h4, h5, h6, h7⟩
theorem rk_ok {s : St} {t : Nat} {x : Int} {r : Res} (h : kd s x = t) : rk s t x r = r := if_pos (Or.inr h)
theorem rk_0 {s : St} {t : Nat} {r : Res} : rk s t 0 r = r := if_pos (Or.inl rfl)
theorem bk_0 {r : Res} : bk 0 r = r := rfl
theorem bk_1 {r : Res} : bk 1 r = r := rfl
theorem bk_b {x : Int} {r : Res} (h : x = 0 ∨ x = 1) : bk x r = r := by rcases h with rfl | rfl <;> rfl
theorem bk_ite {c : Prop} [Decidable c] {r : Res} : bk (if c then 1 else 0) r = r := by split <;> rfl
theorem kd_sF (s : St) (p : Int) (k : Nat) (v : Int) (q : Int) : kd (sF s p k v) q = kd s q := Eq.trans rfl rfl
theorem kd_sA (s : St) (p : Int) (l : List Int) (q : Int) : kd (sA s p l) q = kd s q := Eq.trans rfl rfl
theorem gA_sF (s : St) (p : Int) (k : Nat) (v : Int) (q : Int) : gA (sF s p k v) q = gA s q := Eq.trans rfl rfl
theorem gF_sA (s : St) (p : Int) (l : List Int) (q : Int) (j : Nat) : gF (sA s p l) q j = gF s q j := Eq.trans rfl rfl
theorem gF_sF (s : St) (p : Int) (k : Nat) (v : Int) (q : Int) (j : Nat) : gF (sF s p k v) q j = if q = p ∧ j = k then v else gF s q j := Eq.trans rfl rfl
theorem gA_sA (s : St) (p : Int) (l : List Int) (q : Int) : gA (sA s p l) q = if q = p then l else gA s q := Eq.trans rfl rfl
theorem gF_eq (s : St) (p : Int) (k : Nat) (v : Int) : gF (sF s p k v) p k = v := if_pos ⟨rfl, rfl⟩
theorem gA_eq (s : St) (p : Int) (l : List Int) : gA (sA s p l) p = l := if_pos rfl
theorem gA_ne {s : St} {p q : Int} {l : List Int} (h : q ≠ p) : gA (sA s p l) q = gA s q := if_neg h
theorem gF_nk {s : St} {p q : Int} {k j : Nat} {v : Int} (h : j ≠ k) : gF (sF s p k v) q j = gF s q j := if_neg fun e => h e.2
theorem gF_np {s : St} {p q : Int} {k j : Nat} {v : Int} (h : q ≠ p) : gF (sF s p k v) q j = gF s q j := if_neg fun e => h e.1
theorem nx_sF (s : St) (p : Int) (k : Nat) (v : Int) : nx (sF s p k v) = nx s := Eq.trans rfl rfl
theorem nx_sA (s : St) (p : Int) (l : List Int) : nx (sA s p l) = nx s := Eq.trans rfl rfl
theorem sl_sF (s : St) (p : Int) (k : Nat) (v : Int) : sl (sF s p k v) = sl s := Eq.trans rfl rfl
theorem sl_sA (s : St) (p : Int) (l : List Int) : sl (sA s p l) = sl s := Eq.trans rfl rfl
theorem cI_ok {x : Int} {s : St} {K : Int → St → Res} : cI (some ([(0, x)], s)) K = K x s := rfl
theorem cV_ok {s : St} {K : St → Res} : cV (some ([], s)) K = K s := rfl
theorem cL_ok {x : Int} {s : St} {K : Int → St → Res} : cL (some ([(2, x)], s)) K = K x s := rfl
theorem cR_ok {x : Int} {s : St} {K : Int → St → Res} : cR (some ([(1, x)], s)) K = K x s := rfl
theorem cI_if {c : Prop} [Decidable c] {a b : Res} {K : Int → St → Res} : cI (if c then a else b) K = if c then cI a K else cI b K := by split <;> rfl
/-- only the arrays of P are written -/
def Fa (P : List Int) (s s' : St) : Prop := ∀ p, p ∉ P → gA s' p = gA s p
theorem Fa.rf (P : List Int) (s : St) : Fa P s s := fun _ _ => rfl
theorem Fa.tr {P : List Int} {a b c : St} (h : Fa P a b) (g : Fa P b c) : Fa P a c := fun p hp => (g p hp).trans (h p hp)
theorem Fa.mono {P Q : List Int} {a b : St} (h : Fa P a b) (hq : P.all (fun x => Q.any fun y => y == x) = true) : Fa Q a b := fun p hp => h p fun hm => by
  obtain ⟨y, hy, e⟩ := List.any_eq_true.mp (List.all_eq_true.mp hq p hm)
  rw [beq_iff_eq] at e
  exact hp (e ▸ hy)
theorem Fa.sA {P : List Int} {s : St} {p : Int} (l : List Int) (h : p ∈ P) : Fa P s (sA s p l) := fun q hq => gA_ne (fun e => hq (e ▸ h))
theorem Fa.sF {P : List Int} {s : St} {p : Int} {k : Nat} {v : Int} : Fa P s (sF s p k v) := fun _ _ => rfl
/-- what is to be shown of a run -/
def Gl (T : Res → Prop) (r : Res) : Prop := T r
def GI (Q : Int → St → Prop) (r : Res) : Prop := ∃ x s, r = some ([(0, x)], s) ∧ Q x s
def GJ (Q : Int → St → Prop) (r : Res) : Prop := ∃ x s, r = some ([(2, x)], s) ∧ Q x s
def GR (Q : Int → St → Prop) (r : Res) : Prop := ∃ x s, r = some ([(1, x)], s) ∧ Q x s
def GV (Q : St → Prop) (r : Res) : Prop := ∃ s, r = some ([], s) ∧ Q s
theorem reI {Q : Int → St → Prop} {x : Int} {s : St} (h : Q x s) : Gl (GI Q) (some ([(0, x)], s)) := ⟨x, s, rfl, h⟩
theorem reJ {Q : Int → St → Prop} {x : Int} {s : St} (h : Q x s) : Gl (GJ Q) (some ([(2, x)], s)) := ⟨x, s, rfl, h⟩
theorem reR {Q : Int → St → Prop} {x : Int} {s : St} (h : Q x s) : Gl (GR Q) (some ([(1, x)], s)) := ⟨x, s, rfl, h⟩
theorem reV {Q : St → Prop} {s : St} (h : Q s) : Gl (GV Q) (some ([], s)) := ⟨s, rfl, h⟩
theorem biI {T : Res → Prop} {o : Res} {Q : Int → St → Prop} {K : Int → St → Res} (h : Gl (GI Q) o) (k : ∀ x s, o = some ([(0, x)], s) → Q x s → Gl T (K x s)) : Gl T (cI o K) := by
  obtain ⟨x, s, rfl, h⟩ := h
  exact k x s rfl h
theorem biJ {T : Res → Prop} {o : Res} {Q : Int → St → Prop} {K : Int → St → Res} (h : Gl (GJ Q) o) (k : ∀ x s, o = some ([(2, x)], s) → Q x s → Gl T (K x s)) : Gl T (cL o K) := by
  obtain ⟨x, s, rfl, h⟩ := h
  exact k x s rfl h
theorem biR {T : Res → Prop} {o : Res} {Q : Int → St → Prop} {K : Int → St → Res} (h : Gl (GR Q) o) (k : ∀ x s, o = some ([(1, x)], s) → Q x s → Gl T (K x s)) : Gl T (cR o K) := by
  obtain ⟨x, s, rfl, h⟩ := h
  exact k x s rfl h
theorem biV {T : Res → Prop} {o : Res} {Q : St → Prop} {K : St → Res} (h : Gl (GV Q) o) (k : ∀ s, o = some ([], s) → Q s → Gl T (K s)) : Gl T (cV o K) := by
  obtain ⟨s, rfl, h⟩ := h
  exact k s rfl h
theorem wkI {o : Res} {Q Q' : Int → St → Prop} (h : Gl (GI Q) o) (k : ∀ x s, o = some ([(0, x)], s) → Q x s → Q' x s) : Gl (GI Q') o := by
  obtain ⟨x, s, rfl, h⟩ := h
  exact ⟨x, s, rfl, k x s rfl h⟩
theorem wkJ {o : Res} {Q Q' : Int → St → Prop} (h : Gl (GJ Q) o) (k : ∀ x s, o = some ([(2, x)], s) → Q x s → Q' x s) : Gl (GJ Q') o := by
  obtain ⟨x, s, rfl, h⟩ := h
  exact ⟨x, s, rfl, k x s rfl h⟩
theorem wkV {o : Res} {Q Q' : St → Prop} (h : Gl (GV Q) o) (k : ∀ s, o = some ([], s) → Q s → Q' s) : Gl (GV Q') o := by
  obtain ⟨s, rfl, h⟩ := h
  exact ⟨s, rfl, k s rfl h⟩
theorem wkR {o : Res} {Q Q' : Int → St → Prop} (h : Gl (GR Q) o) (k : ∀ x s, o = some ([(1, x)], s) → Q x s → Q' x s) : Gl (GR Q') o := by
  obtain ⟨x, s, rfl, h⟩ := h
  exact ⟨x, s, rfl, k x s rfl h⟩
/-- a loop that counts up -/
theorem lpG {α : Type} {T : Res → Prop} (G : Nat → α → Res) (P : Nat → α → Prop) (n : Nat) (hs : ∀ T k a, k < n → P k a → (∀ a', P (k + 1) a' → Gl T (G (k + 1) a')) → Gl T (G k a)) (he : ∀ a, P n a → Gl T (G n a)) : ∀ (k : Nat) (a : α), k ≤ n → P k a → Gl T (G k a) := by
  intro k a hk hP
  obtain ⟨m, rfl⟩ := Nat.le.dest hk
  clear hk
  induction m generalizing k a with
  | zero => exact he a hP
  | succ m ih =>
    refine hs T k a (by omega) hP fun a' ha' => ih (k + 1) a' ha' ?_ ?_
    · rw [show k + 1 + m = k + (m + 1) by omega]; exact hs
    · rw [show k + 1 + m = k + (m + 1) by omega]; exact he
/-- a loop that counts up and may end early -/
theorem lpF {α : Type} {T : Res → Prop} (G : Nat → α → Res) (P : Nat → α → Prop) (n : Nat) (hs : ∀ k a, k < n → P k a → (∀ a', P (k + 1) a' → Gl T (G (k + 1) a')) → Gl T (G k a)) (he : ∀ a, P n a → Gl T (G n a)) : ∀ (k : Nat) (a : α), k ≤ n → P k a → Gl T (G k a) := by
  intro k a hk hP
  obtain ⟨m, rfl⟩ := Nat.le.dest hk
  clear hk
  induction m generalizing k a with
  | zero => exact he a hP
  | succ m ih =>
    refine hs k a (by omega) hP fun a' ha' => ih (k + 1) a' ha' ?_ ?_
    · rw [show k + 1 + m = k + (m + 1) by omega]; exact hs
    · rw [show k + 1 + m = k + (m + 1) by omega]; exact he
/-- a loop by a measure that falls, which may end anywhere -/
theorem lpM {α : Type} {T : Res → Prop} (G : α → Res) (P : α → Prop) (m : α → Nat) (hs : ∀ a, P a → (∀ a', P a' → m a' < m a → Gl T (G a')) → Gl T (G a)) : ∀ a, P a → Gl T (G a) := by
  intro a
  generalize hn : m a = n
  induction n using Nat.strongRecOn generalizing a with
  | ind n ih =>
    intro hP
    exact hs a hP fun a' h1 h2 => ih (m a') (by omega) a' rfl h1
def sumN (f : Nat → Int) : Nat → Int
  | 0 => 0
  | n + 1 => sumN f n + f n
theorem sumN_congr {f g : Nat → Int} : ∀ {n : Nat}, (∀ k, k < n → f k = g k) → sumN f n = sumN g n
  | 0, _ => rfl
  | n + 1, h => by rw [sumN, sumN, sumN_congr (fun k hk => h k (by omega)), h n (by omega)]
theorem sumN_bd {f : Nat → Int} {a b : Int} : ∀ {n : Nat}, (∀ k, k < n → a ≤ f k ∧ f k ≤ b) → n * a ≤ sumN f n ∧ sumN f n ≤ n * b
  | 0, _ => by simp [sumN]
  | n + 1, h => by
    have h1 := sumN_bd (n := n) (fun k hk => h k (by omega))
    have h2 := h n (by omega)
    rw [sumN]
    have e1 : ((n + 1 : Nat) : Int) * a = n * a + a := by rw [Int.natCast_succ, Int.add_mul, Int.one_mul]
    have e2 : ((n + 1 : Nat) : Int) * b = n * b + b := by rw [Int.natCast_succ, Int.add_mul, Int.one_mul]
    omega
theorem wi_sc {k : Nat} (h : k < 2147483647) : wi ((k : Int) + 1) = ((k + 1 : Nat) : Int) := by
  rw [wi_id (by unfold rg; omega)]
  omega
theorem wi_sm {x : Int} (h1 : -2147483648 ≤ x) (h2 : x < 2147483648) : wi x = x := wi_id ⟨h1, h2⟩
theorem wl_sm {x : Int} (h1 : -9223372036854775808 ≤ x) (h2 : x < 9223372036854775808) : wl x = x := wl_id ⟨h1, h2⟩
theorem setD_getD {l : List Int} {i j : Nat} {v : Int} (h : i < l.length) : (l.set i v).getD j 0 = if i = j then v else l.getD j 0 := by
  rw [List.getD_eq_getElem?_getD, List.getD_eq_getElem?_getD, List.getElem?_set]
  by_cases e : i = j
  · subst e; simp [h]
  · simp [e]
theorem set_eq {l : List Int} {i : Nat} {v : Int} (h : i < l.length) : (l.set i v).getD i 0 = v := by rw [setD_getD h, if_pos rfl]
theorem set_ne {l : List Int} {i j : Nat} {v : Int} (h : i ≠ j) : (l.set i v).getD j 0 = l.getD j 0 := by
  rw [List.getD_eq_getElem?_getD, List.getD_eq_getElem?_getD, List.getElem?_set, if_neg h]
theorem list_ext0 {a b : List Int} (hl : a.length = b.length) (h : ∀ i, i < a.length → a.getD i 0 = b.getD i 0) : a = b := by
  apply List.ext_getElem hl
  intro i h1 h2
  have := h i h1
  rw [List.getD_eq_getElem?_getD, List.getD_eq_getElem?_getD, List.getElem?_eq_getElem h1, List.getElem?_eq_getElem h2] at this
  exact this
theorem i2n {a : Int} (h : 0 ≤ a) : ((a.toNat : Nat) : Int) = a := Int.toNat_of_nonneg h
