/-! ===== what runs leave: kinds, lengths, rooms; fields and array kinds that a method does not write ===== -/
def Pv (W : Nat → Nat → Bool) (A : Nat → Bool) (s s' : St) : Prop := (∀ p, kd s' p = kd s p) ∧ nx s' = nx s ∧ sl s' = sl s ∧ (∀ p, (gA s' p).length = (gA s p).length) ∧ (∀ p k, W (kd s p) k = false → gF s' p k = gF s p k) ∧ (∀ p, A (kd s p) = false → gA s' p = gA s p)
theorem Pv.rf (W : Nat → Nat → Bool) (A : Nat → Bool) (s : St) : Pv W A s s := ⟨fun _ => rfl, rfl, rfl, fun _ => rfl, fun _ _ _ => rfl, fun _ _ => rfl⟩
theorem Pv.tr {W : Nat → Nat → Bool} {A : Nat → Bool} {a b c : St} (h : Pv W A a b) (g : Pv W A b c) : Pv W A a c := by
  obtain ⟨h1, h2, h3, h4, h5, h6⟩ := h
  obtain ⟨g1, g2, g3, g4, g5, g6⟩ := g
  exact ⟨fun p => (g1 p).trans (h1 p), g2.trans h2, g3.trans h3, fun p => (g4 p).trans (h4 p), fun p k w => (g5 p k (by rw [h1]; exact w)).trans (h5 p k w), fun p w => (g6 p (by rw [h1]; exact w)).trans (h6 p w)⟩
theorem Pv.mono {W W' : Nat → Nat → Bool} {A A' : Nat → Bool} {a b : St} (h : Pv W A a b) (hw : ∀ x y, W' x y = false → W x y = false) (ha : ∀ x, A' x = false → A x = false) : Pv W' A' a b := by
  obtain ⟨h1, h2, h3, h4, h5, h6⟩ := h
  exact ⟨h1, h2, h3, h4, fun p k w => h5 p k (hw _ _ w), fun p w => h6 p (ha _ w)⟩
theorem Pv.sF {W : Nat → Nat → Bool} {A : Nat → Bool} {s : St} {p : Int} {k : Nat} (v : Int) (h : W (kd s p) k = true) : Pv W A s (sF s p k v) := by
  refine ⟨fun _ => rfl, rfl, rfl, fun _ => rfl, fun q j w => ?_, fun _ _ => rfl⟩
  show (if q = p ∧ j = k then v else gF s q j) = gF s q j
  by_cases e : q = p ∧ j = k
  · rw [e.1, e.2, h] at w; cases w
  · rw [if_neg e]
theorem Pv.sA {W : Nat → Nat → Bool} {A : Nat → Bool} {s : St} {p : Int} {l : List Int} (hl : l.length = (gA s p).length) (h : A (kd s p) = true) : Pv W A s (sA s p l) := by
  refine ⟨fun _ => rfl, rfl, rfl, fun q => ?_, fun _ _ _ => rfl, fun q w => ?_⟩
  · show (if q = p then l else gA s q).length = (gA s q).length
    by_cases e : q = p
    · rw [if_pos e, e]; exact hl
    · rw [if_neg e]
  · show (if q = p then l else gA s q) = gA s q
    by_cases e : q = p
    · rw [e, h] at w; cases w
    · rw [if_neg e]
def Fp (W : Nat → Nat → Bool) (A : Nat → Bool) (Q : Nat → Bool) (L : Lc) (s : St) (G : Hc → Hl → Hl → Res) : Prop :=
  (∀ cv lb K, G cv lb K = none) ∨ (∃ k L' st' s', Pv W A s s' ∧ ∀ cv lb K, G cv lb K = K k L' st' s') ∨
  (∃ r, ∀ cv lb K, G cv lb K = some (r, s)) ∨ (∃ i L' st', ∀ cv lb K, G cv lb K = lb i L' st' s) ∨
  (∃ a q as st', Q q = true ∧ ∀ cv lb K, G cv lb K = cX a (cv q as s) (fun r s1 => K 0 L (r ++ st') s1))
section PV
variable {W : Nat → Nat → Bool} {Ak : Nat → Bool} {Q : Nat → Bool}
theorem fp_none {L : Lc} {s : St} : Fp W Ak Q L s (fun _ _ _ => none) := Or.inl fun _ _ _ => rfl
theorem fp_K {L : Lc} {s : St} (k : Nat) (L' : Lc) (st' : List V) : Fp W Ak Q L s (fun _ _ K => K k L' st' s) := Or.inr (Or.inl ⟨k, L', st', s, Pv.rf W Ak s, fun _ _ _ => rfl⟩)
theorem fp_Ks {L : Lc} {s : St} (k : Nat) (L' : Lc) (st' : List V) (s' : St) (h1 : Pv W Ak s s') : Fp W Ak Q L s (fun _ _ K => K k L' st' s') := Or.inr (Or.inl ⟨k, L', st', s', h1, fun _ _ _ => rfl⟩)
theorem fp_ret {L : Lc} {s : St} (r : List V) : Fp W Ak Q L s (fun _ _ _ => some (r, s)) := Or.inr (Or.inr (Or.inl ⟨r, fun _ _ _ => rfl⟩))
theorem fp_lb {L : Lc} {s : St} (i : Nat) (L' : Lc) (st' : List V) : Fp W Ak Q L s (fun _ lb _ => lb i L' st' s) := Or.inr (Or.inr (Or.inr (Or.inl ⟨i, L', st', fun _ _ _ => rfl⟩)))
theorem fp_call {L : Lc} {s : St} (a q : Nat) (as st' : List V) (h : Q q = true) : Fp W Ak Q L s (fun cv _ K => cX a (cv q as s) (fun r s1 => K 0 L (r ++ st') s1)) := Or.inr (Or.inr (Or.inr (Or.inr ⟨a, q, as, st', h, fun _ _ _ => rfl⟩)))
theorem fp_ite {L : Lc} {s : St} {P : Prop} [Decidable P] {A B : Hc → Hl → Hl → Res} (h1 : Fp W Ak Q L s A) (h2 : Fp W Ak Q L s B) : Fp W Ak Q L s (fun cv lb K => if P then A cv lb K else B cv lb K) := by
  by_cases h : P
  · simp only [if_pos h]; exact h1
  · simp only [if_neg h]; exact h2
theorem fp_ldI {L : Lc} {s : St} {M : Lc} {i : Nat} {F : Int → Hc → Hl → Hl → Res} (h : ∀ x, Fp W Ak Q L s (F x)) : Fp W Ak Q L s (fun cv lb K => ldI M i fun x => F x cv lb K) := by
  unfold ldI
  rcases lk M i with _ | ⟨_ | n, x⟩
  · exact fp_none
  · exact h x
  · exact fp_none
theorem fp_ldJ {L : Lc} {s : St} {M : Lc} {i : Nat} {F : Int → Hc → Hl → Hl → Res} (h : ∀ x, Fp W Ak Q L s (F x)) : Fp W Ak Q L s (fun cv lb K => ldJ M i fun x => F x cv lb K) := by
  unfold ldJ
  rcases lk M i with _ | ⟨_ | _ | _ | n, x⟩
  · exact fp_none
  · exact fp_none
  · exact fp_none
  · exact h x
  · exact fp_none
theorem fp_ldR {L : Lc} {s : St} {M : Lc} {i : Nat} {F : V → Hc → Hl → Hl → Res} (h : ∀ x, Fp W Ak Q L s (F x)) : Fp W Ak Q L s (fun cv lb K => ldR M i fun x => F x cv lb K) := by
  unfold ldR
  rcases lk M i with _ | ⟨_ | _ | _ | _ | n, x⟩
  · exact fp_none
  · exact fp_none
  · exact h _
  · exact fp_none
  · exact h _
  · exact fp_none
theorem fp_pI {L : Lc} {s : St} {st : List V} {F : Int → List V → Hc → Hl → Hl → Res} (h : ∀ x st, Fp W Ak Q L s (F x st)) : Fp W Ak Q L s (fun cv lb K => pI st fun x st => F x st cv lb K) := by
  unfold pI
  rcases st with _ | ⟨⟨_ | n, x⟩, st⟩
  · exact fp_none
  · exact h _ _
  · exact fp_none
theorem fp_pJ {L : Lc} {s : St} {st : List V} {F : Int → List V → Hc → Hl → Hl → Res} (h : ∀ x st, Fp W Ak Q L s (F x st)) : Fp W Ak Q L s (fun cv lb K => pJ st fun x st => F x st cv lb K) := by
  unfold pJ
  rcases st with _ | ⟨⟨_ | _ | _ | n, x⟩, st⟩
  · exact fp_none
  · exact fp_none
  · exact fp_none
  · exact h _ _
  · exact fp_none
theorem fp_pR {L : Lc} {s : St} {st : List V} {F : Int → List V → Hc → Hl → Hl → Res} (h : ∀ x st, Fp W Ak Q L s (F x st)) : Fp W Ak Q L s (fun cv lb K => pR st fun x st => F x st cv lb K) := by
  unfold pR
  rcases st with _ | ⟨⟨_ | _ | n, x⟩, st⟩
  · exact fp_none
  · exact fp_none
  · exact h _ _
  · exact fp_none
theorem fp_pS {L : Lc} {s : St} {st : List V} {F : Int → List V → Hc → Hl → Hl → Res} (h : ∀ x st, Fp W Ak Q L s (F x st)) : Fp W Ak Q L s (fun cv lb K => pS st fun x st => F x st cv lb K) := by
  unfold pS
  rcases st with _ | ⟨⟨_ | _ | _ | _ | n, x⟩, st⟩
  · exact fp_none
  · exact fp_none
  · exact fp_none
  · exact fp_none
  · exact h _ _
  · exact fp_none
theorem fp_pQ {L : Lc} {s : St} {st : List V} {F : V → List V → Hc → Hl → Hl → Res} (h : ∀ x st, Fp W Ak Q L s (F x st)) : Fp W Ak Q L s (fun cv lb K => pQ st fun x st => F x st cv lb K) := by
  unfold pQ
  rcases st with _ | ⟨⟨_ | _ | _ | _ | n, x⟩, st⟩
  · exact fp_none
  · exact fp_none
  · exact h _ _
  · exact fp_none
  · exact h _ _
  · exact fp_none
theorem fp_p1 {L : Lc} {s : St} {st : List V} {F : V → List V → Hc → Hl → Hl → Res} (h : ∀ x st, Fp W Ak Q L s (F x st)) : Fp W Ak Q L s (fun cv lb K => p1 st fun x st => F x st cv lb K) := by
  unfold p1
  rcases st with _ | ⟨⟨_ | _ | _ | _ | n, x⟩, st⟩
  · exact fp_none
  · exact h _ _
  · exact h _ _
  · exact fp_none
  · exact h _ _
  · exact fp_none
theorem fp_pE {L : Lc} {s : St} {st : List V} {A : Hc → Hl → Hl → Res} (h : Fp W Ak Q L s A) : Fp W Ak Q L s (fun cv lb K => pE st (A cv lb K)) := by
  unfold pE
  rcases st with _ | ⟨v, st⟩
  · exact h
  · exact fp_none
theorem fp_bk {L : Lc} {s : St} {x : Int} {A : Hc → Hl → Hl → Res} (h : Fp W Ak Q L s A) : Fp W Ak Q L s (fun cv lb K => bk x (A cv lb K)) := by
  unfold bk
  rcases x with (_ | _ | n) | n
  · exact h
  · exact h
  · exact fp_none
  · exact fp_none
theorem fp_wk {L : Lc} {s : St} {st : List V} {A : Hc → Hl → Hl → Res} (h : Fp W Ak Q L s A) : Fp W Ak Q L s (fun cv lb K => wk st (A cv lb K)) := by
  unfold wk
  cases Nat.ble (wt st) 8
  · exact fp_none
  · exact h
theorem fp_ak {L : Lc} {s : St} {as : List V} {n : Nat} {A : Hc → Hl → Hl → Res} (h : Fp W Ak Q L s A) : Fp W Ak Q L s (fun cv lb K => ak as n (A cv lb K)) := by
  unfold ak
  cases Nat.ble (wt as) n
  · exact fp_none
  · exact h
theorem fp_rk {L : Lc} {s : St} {t : Nat} {x : Int} {A : Hc → Hl → Hl → Res} (h : Fp W Ak Q L s A) : Fp W Ak Q L s (fun cv lb K => rk s t x (A cv lb K)) := by
  unfold rk
  exact fp_ite h fp_none
theorem fp_oK {L : Lc} {s : St} {t : Nat} {p : Int} {A : Hc → Hl → Hl → Res} (h : Fp W Ak Q L s A) : Fp W Ak Q L s (fun cv lb K => oK s p t (A cv lb K)) := by
  unfold oK
  exact fp_ite h fp_none
theorem fp_rF {L : Lc} {s : St} {t k : Nat} {p : Int} {F : Int → Hc → Hl → Hl → Res} (h : ∀ x, Fp W Ak Q L s (F x)) : Fp W Ak Q L s (fun cv lb K => rF s p t k fun x => F x cv lb K) := by
  unfold rF
  exact fp_ite (h _) fp_none
theorem fp_rA {L : Lc} {s : St} {t : Nat} {p i : Int} {F : Int → Hc → Hl → Hl → Res} (h : ∀ x, Fp W Ak Q L s (F x)) : Fp W Ak Q L s (fun cv lb K => rA s p t i fun x => F x cv lb K) := by
  unfold rA
  exact fp_ite (h _) fp_none
theorem fp_lA {L : Lc} {s : St} {t : Nat} {p : Int} {F : Int → Hc → Hl → Hl → Res} (h : ∀ x, Fp W Ak Q L s (F x)) : Fp W Ak Q L s (fun cv lb K => lA s p t fun x => F x cv lb K) := by
  unfold lA
  exact fp_ite (h _) fp_none
theorem fp_sC {L : Lc} {s : St} {i k : Int} {F : Int → Hc → Hl → Hl → Res} (h : ∀ x, Fp W Ak Q L s (F x)) : Fp W Ak Q L s (fun cv lb K => sC i k fun x => F x cv lb K) := by
  unfold sC
  exact fp_ite (h _) fp_none
theorem fp_tkA {L : Lc} {s : St} : ∀ (n : Nat) (st acc : List V) {F : List V → List V → Hc → Hl → Hl → Res}, (∀ as st, Fp W Ak Q L s (F as st)) → Fp W Ak Q L s (fun cv lb K => tkA n st acc fun as st => F as st cv lb K)
  | 0, st, acc, F, h => h acc st
  | n + 1, v :: st, acc, F, h => fp_tkA n st (v :: acc) h
  | n + 1, [], acc, F, h => fp_none
theorem fp_rcv {L : Lc} {s : St} {as : List V} {F : Int → Hc → Hl → Hl → Res} (h : ∀ x, Fp W Ak Q L s (F x)) : Fp W Ak Q L s (fun cv lb K => rcv as fun x => F x cv lb K) := by
  unfold rcv
  rcases as with _ | ⟨⟨_ | _ | n, x⟩, st⟩
  · exact fp_none
  · exact fp_none
  · exact h _
  · exact fp_none
theorem fp_wF {L : Lc} {s : St} {t k : Nat} {p v : Int} {L' : Lc} {st' : List V} (h : W t k = true) : Fp W Ak Q L s (fun _ _ K => wF s p t k v fun s => K 0 L' st' s) := by
  unfold wF
  by_cases e : kd s p = t
  · simp only [if_pos e]
    exact fp_Ks _ _ _ _ (Pv.sF v (by rw [e]; exact h))
  · simp only [if_neg e]
    exact fp_none
theorem fp_wA {L : Lc} {s : St} {t : Nat} {p i v : Int} {L' : Lc} {st' : List V} (h : Ak t = true) : Fp W Ak Q L s (fun _ _ K => wA s p t i v fun s => K 0 L' st' s) := by
  unfold wA
  by_cases e : kd s p = t ∧ 0 ≤ i ∧ i < (gA s p).length
  · simp only [if_pos e]
    exact fp_Ks _ _ _ _ (Pv.sA (List.length_set ..) (by rw [e.1]; exact h))
  · simp only [if_neg e]
    exact fp_none
theorem fp_aC {L : Lc} {s : St} {p sp q dp n : Int} {L' : Lc} {st' : List V} (h : Ak 20 = true) : Fp W Ak Q L s (fun _ _ K => aC s p sp q dp n fun s => K 0 L' st' s) := by
  unfold aC
  by_cases e : kd s p = 20 ∧ kd s q = 20 ∧ 0 ≤ sp ∧ 0 ≤ dp ∧ 0 ≤ n ∧ sp + n ≤ (gA s p).length ∧ dp + n ≤ (gA s q).length
  · simp only [if_pos e]
    exact fp_Ks _ _ _ _ (Pv.sA (cpL_len _ _ _ _ _ (by omega) (by omega)) (by rw [e.2.1]; exact h))
  · simp only [if_neg e]
    exact fp_none
theorem fp_swt {L : Lc} {s : St} {x : Int} {L' : Lc} {st' : List V} : ∀ (ls : List Nat) (a : Int) (b : Nat), Fp W Ak Q L s (fun _ _ K => swt x (fun k => K k L' st' s) a ls b)
  | [], a, b => fp_K _ _ _
  | k :: ks, a, b => fp_ite (fp_K _ _ _) (fp_swt ks (a + 1) b)
theorem fp_semX (c : Nat) (L : Lc) (st : List V) (s : St) (h : (c != 5 || Ak 20) = true) : Fp W Ak Q L s (fun _ _ K => semX c L st s K) := by
  unfold semX
  split
  · exact fp_pR fun p st => fp_ite fp_none (fp_wk (fp_K _ _ _))
  · exact fp_pI fun y st => fp_pI fun x st => fp_wk (fp_K _ _ _)
  · exact fp_pI fun y st => fp_pI fun x st => fp_wk (fp_K _ _ _)
  · exact fp_pI fun x st => fp_wk (fp_K _ _ _)
  · exact fp_pI fun y st => fp_pI fun x st => fp_pR fun _ _ => fp_pI fun _ _ => fp_pR fun _ _ => fp_wk (fp_aC h)
  · exact fp_pS fun x st => fp_wk (fp_K _ _ _)
  · exact fp_pI fun y st => fp_pS fun x st => fp_wk (fp_sC fun _ => fp_K _ _ _)
  · exact fp_none
/-- an instruction writes nothing else, and makes nothing -/
def iw (W : Nat → Nat → Bool) (A : Nat → Bool) (Q : Nat → Bool) (ins : Instr) (b c e : Nat) : Bool := match ins with
  | .putfield _ => W (b + 4) c
  | .iastore => A 20
  | .bastore => if e = 1 then A 22 else A 21
  | .lastore => A 23
  | .aastore => A b
  | .newarray _ => false
  | .anewarray _ => false
  | .new _ => false
  | .invokestatic _ => (c != 0 || Q b) && (c != 5 || A 20)
  | .invokevirtual _ => (c != 0 || Q b) && (c != 5 || A 20)
  | .invokespecial _ => (c != 0 || Q b) && (c != 5 || A 20)
  | _ => true
theorem bast_ne {e : Nat} {x y : Bool} (hne : e = 1 → False) (h : (if e = 1 then x else y) = true) : y = true := by rwa [if_neg hne] at h
theorem fp_semI (ins : Instr) (a : Int) (b c e : Nat) (ls : List Nat) (L : Lc) (st : List V) (s : St) (h : iw W Ak Q ins b c e = true) : Fp W Ak Q L s (fun cv lb K => semI cv lb ins a b c e ls L st s K) := by
  unfold semI
  unfold iw at h
  split
  all_goals first
    | exact fp_none
    | exact fp_K _ _ _
    | exact fp_ldI fun x => fp_K _ _ _
    | exact fp_ldJ fun x => fp_K _ _ _
    | exact fp_ldR fun x => fp_K _ _ _
    | exact fp_pI fun x st => fp_K _ _ _
    | exact fp_pJ fun x st => fp_K _ _ _
    | exact fp_pQ fun x st => fp_K _ _ _
    | exact fp_p1 fun x st => fp_K _ _ _
    | exact fp_pI fun y st => fp_pI fun x st => fp_K _ _ _
    | exact fp_pJ fun y st => fp_pJ fun x st => fp_K _ _ _
    | exact fp_pI fun y st => fp_pI fun x st => fp_ite fp_none (fp_K _ _ _)
    | exact fp_pJ fun y st => fp_pJ fun x st => fp_ite fp_none (fp_K _ _ _)
    | exact fp_pI fun y st => fp_pR fun x st => fp_K _ _ _
    | exact fp_pI fun x st => fp_ite (fp_K _ _ _) (fp_K _ _ _)
    | exact fp_pR fun x st => fp_ite (fp_K _ _ _) (fp_K _ _ _)
    | exact fp_pI fun y st => fp_pI fun x st => fp_ite (fp_K _ _ _) (fp_K _ _ _)
    | exact fp_pR fun y st => fp_pR fun x st => fp_ite (fp_K _ _ _) (fp_K _ _ _)
    | exact fp_pI fun x st => fp_swt _ _ _
    | exact fp_pR fun p st => fp_rF fun x => fp_K _ _ _
    | exact fp_pI fun i st => fp_pR fun p st => fp_rA fun x => fp_K _ _ _
    | exact fp_pI fun x st => fp_pI fun i st => fp_pR fun p st => fp_wA h
    | exact fp_pJ fun x st => fp_pI fun i st => fp_pR fun p st => fp_wA h
    | exact fp_pR fun x st => fp_pI fun i st => fp_pR fun p st => fp_rk (fp_wA h)
    | exact fp_pR fun p st => fp_lA fun x => fp_K _ _ _
    | exact fp_pE (fp_ret _)
    | exact fp_pJ fun x st => fp_pE (fp_ret _)
    | exact fp_pR fun x st => fp_pE (fp_ret _)
    | exact absurd h Bool.false_ne_true
    | (split
       all_goals first
         | exact fp_K _ _ _
         | exact fp_lb _ _ _
         | exact fp_pI fun x st => fp_pR fun p st => fp_wF h
         | exact fp_pI fun x st => fp_pR fun p st => fp_bk (fp_wF h)
         | exact fp_pR fun x st => fp_pR fun p st => fp_rk (fp_wF h)
         | exact fp_pI fun x st => fp_pI fun i st => fp_pR fun p st => fp_bk (fp_wA h)
         | exact fp_pI fun x st => fp_pI fun i st => fp_pR fun p st => fp_wA (bast_ne (by assumption) h)
         | exact fp_tkA _ _ _ fun as st => fp_ak (fp_wk (fp_call _ _ _ _ (Bool.and_eq_true_iff.mp h).1))
         | exact fp_tkA _ _ _ fun as st => fp_rcv fun p => fp_oK (fp_ak (fp_wk (fp_call _ _ _ _ (Bool.and_eq_true_iff.mp h).1)))
         | exact fp_semX _ _ _ _ (Bool.and_eq_true_iff.mp h).2)
    | (refine fp_pI fun x st => fp_pE ?_
       split
       · exact fp_bk (fp_ret _)
       · exact fp_ret _)
def tw (W : Nat → Nat → Bool) (A : Nat → Bool) (Q : Nat → Bool) (t : Tp) : Bool := match t with
  | (_, some ins, _, b, c, e, _) => iw W A Q ins b c e
  | _ => true
theorem fp_sem (t : Tp) (L : Lc) (st : List V) (s : St) (h : tw W Ak Q t = true) : Fp W Ak Q L s (fun cv lb K => sem cv lb t L st s K) := by
  obtain ⟨pc, ins, a, b, c, e, ls⟩ := t
  cases ins with
  | none => exact fp_lb _ _ _
  | some i => exact fp_semI _ _ _ _ _ _ _ _ _ h
theorem inner_pv {cv : Hc} {lb : Hl} (h1 : ∀ q as s r, Q q = true → cv q as s = some r → Pv W Ak s r.2) (h2 : ∀ i L st s r, lb i L st s = some r → Pv W Ak s r.2) :
    ∀ (n : Nat) (c : List Tp) (L : Lc) (st : List V) (s : St) (r : List V × St), (∀ t ∈ c, tw W Ak Q t = true) → inner cv lb n c L st s = some r → Pv W Ak s r.2
  | 0, c, L, st, s, r, _, h => by cases c <;> simp [inner] at h
  | n + 1, [], L, st, s, r, _, h => by simp [inner] at h
  | n + 1, t :: c, L, st, s, r, hc, h => by
    simp only [inner] at h
    have hfc := fp_sem (W := W) (Ak := Ak) (Q := Q) t L st s (hc t List.mem_cons_self)
    simp only [Fp] at hfc
    have hd : ∀ k, ∀ t ∈ c.drop k, tw W Ak Q t = true := fun k t ht => hc t (List.mem_cons_of_mem _ (List.mem_of_mem_drop ht))
    rcases hfc with hN | ⟨k, L', st', s', g1, hK⟩ | ⟨r', hR⟩ | ⟨i, L', st', hL⟩ | ⟨a, q, as, st', hq, hC⟩
    · rw [hN] at h; cases h
    · rw [hK] at h
      exact g1.tr (inner_pv h1 h2 n _ _ _ _ _ (hd k) h)
    · rw [hR] at h
      cases h
      exact Pv.rf W Ak _
    · rw [hL] at h
      exact h2 _ _ _ _ _ h
    · rw [hC] at h
      obtain ⟨r1, s1, ho, hk, hX⟩ := cX_inv h
      exact (h1 _ _ _ _ hq ho).tr (inner_pv h1 h2 n _ _ _ _ _ (hd 0) hk)
end PV
def wsT : List (List Nat) := [[400, 401, 402, 403, 404, 405, 406, 407, 408, 409, 410, 411, 700, 701, 702, 703, 704, 705, 1300, 1301, 1302, 1303], [], [], [401, 700, 701, 702, 703, 704], [403], [406], [409], [401, 403, 406, 409, 410, 700, 701, 702, 703, 704, 1300], [500, 501, 502, 503, 504, 505], [500, 501, 502, 503, 504], [500], [500], [600, 601, 602, 603, 604, 605, 606], [602, 603, 604], [], [602, 603, 604], [602, 603, 604, 605, 606], [700, 701, 702, 703, 704, 705], [700, 701, 702, 703, 704], [700, 701, 702, 703, 704], [], [], [703], [703], [], [800, 801, 802, 803, 804, 805, 806, 807, 808, 809, 810, 811, 812, 813, 814, 815, 816], [602, 603, 604, 801, 802, 803], [], [602, 603, 604], [602, 603, 604], [], [], [], [], [], [], [], [], [], [], [], [], [], [], [602, 603, 604, 801, 802, 803, 814], [814], [], [815, 816], [], [], [], [], [900, 901, 902, 903, 904, 905, 906, 907, 908, 909, 1100, 1101, 1102, 1103, 1104, 1105, 1106, 1107, 1108, 1109], [904, 905, 906, 907, 908, 909, 1102, 1103], [904], [], [], [], [904], [], [], [905, 906], [906, 907], [905, 906, 907, 908, 1102, 1103], [905, 906, 907, 908, 1102], [905, 906, 907, 908, 1102], [905, 906, 907, 908, 1102], [905, 906, 907, 908, 1102], [], [1000, 1001, 1002, 1003], [401, 403, 406, 409, 410, 602, 603, 604, 605, 606, 700, 701, 702, 703, 704, 1003, 1300], [602, 603, 604, 605, 606, 703, 704, 1300], [602, 603, 604, 605, 606], [1100, 1101, 1102, 1103, 1104, 1105, 1106, 1107, 1108, 1109], [1100, 1101, 1102, 1103, 1104, 1105, 1106, 1107, 1108, 1109], [1102], [], [], [], [400, 401, 402, 403, 404, 405, 406, 407, 408, 409, 410, 411, 700, 701, 702, 703, 704, 705, 1200, 1201, 1202, 1300, 1301, 1302, 1303], [401, 403, 406, 409, 410, 700, 701, 702, 703, 704, 1300], [401, 403, 406, 409, 410, 700, 701, 702, 703, 704, 1300], [602, 603, 604, 605, 606, 703, 1300], [704, 1300], [703, 704, 1300], [1300], [703, 704, 1300], [1300, 1301, 1302, 1303], [1300], [1300], [1300], [1300], [1400, 1401, 1402, 1403, 1404], [], [602, 603, 604, 605, 606], [602, 603, 604, 605, 606], [], [], [], [400, 401, 402, 403, 404, 405, 406, 407, 408, 409, 410, 411, 500, 501, 502, 503, 504, 505, 600, 601, 602, 603, 604, 605, 606, 700, 701, 702, 703, 704, 705, 800, 801, 802, 803, 804, 805, 806, 807, 808, 809, 810, 811, 812, 813, 814, 815, 816, 900, 901, 902, 903, 904, 905, 906, 907, 908, 909, 1000, 1001, 1002, 1003, 1100, 1101, 1102, 1103, 1104, 1105, 1106, 1107, 1108, 1109, 1200, 1201, 1202, 1300, 1301, 1302, 1303, 1400, 1401, 1402, 1403, 1404, 1500, 1501, 1502, 1503, 1504, 1505, 1506, 1507, 1508, 1509, 1510, 1511, 1512, 1513, 1514], [401, 700, 701, 702, 703, 704, 1300, 1512], [602, 603, 604, 605, 606], [1300, 1512], [1501], [1501], [401, 700, 701, 702, 703, 704, 1300, 1501, 1512, 1514], [], [409, 904, 905, 906, 907, 908, 909, 1100, 1101, 1102, 1103, 1104, 1105, 1106, 1107, 1108, 1109, 1501, 1512, 1513], [401, 403, 406, 409, 410, 602, 603, 604, 605, 606, 700, 701, 702, 703, 704, 904, 905, 906, 907, 908, 909, 1003, 1102, 1103, 1300, 1501, 1512, 1513], [], [], [410, 1512], [602, 603, 604], [602, 603, 604, 605, 606, 703, 1300, 1512], [704, 1300, 1512], [703, 704, 1300, 1512], [1300, 1512], [703, 704, 1300, 1512], [], [602, 603, 604, 801, 802, 803], [602, 603, 604, 801, 802, 803], [602, 603, 604, 801, 802, 803], [602, 603, 604, 801, 802, 803, 814], [602, 603, 604, 801, 802, 803, 814], [602, 603, 604, 801, 802, 803, 815, 816], [406, 1512], [406], [602, 603, 604, 801, 802, 803], [602, 603, 604, 801, 802, 803], [403, 1512], [403], [602, 603, 604, 605, 606], [500, 501, 502, 503, 504, 602, 603, 604, 801, 802, 803, 1512], [], [400, 401, 402, 403, 404, 405, 406, 407, 408, 409, 410, 411, 700, 701, 702, 703, 704, 705, 1300, 1301, 1302, 1303, 1512], [401, 403, 406, 409, 410, 700, 701, 702, 703, 704, 1300, 1512], [], [], [1512], [1512], [1512], [1501], [1501], [], [], [], [], [], [], [], [], [], [], [], [], [], [], [], [], [1600], [1600], [1600, 1633], [1601, 1602, 1603, 1604, 1605, 1607, 1611, 1612, 1614, 1615, 1616, 1617, 1625, 1626, 1630, 1631, 1632, 1634, 1635, 1636, 1642, 1643, 1644, 1645, 1646, 1647, 1649, 1657, 1658, 1659], [1600], [1600, 1633], [], [], [], [], [], [1600, 1633], [1608, 1622, 1623, 1624, 1627, 1628, 1629], [], [1600, 1633], [1600, 1606, 1613, 1633], [], [1613], [1613], [], [], [], [1618], [], [1621], [1619], [1619, 1621], [1619, 1620, 1621], [], [1619, 1621], [1619, 1620, 1621], [1619, 1620, 1621], [1619, 1620, 1621], [1619, 1620, 1621], [1619, 1620, 1621], [1619, 1620, 1621], [1619, 1620, 1621], [1619, 1620, 1621], [1619, 1620, 1621], [1613, 1614, 1618, 1619, 1620, 1621], [1608, 1609, 1610, 1613, 1614, 1618, 1619, 1620, 1621], [], [1600, 1608, 1609, 1610, 1613, 1614, 1618, 1619, 1620, 1621], [], [1600], [], [1622], [1624], [1622, 1624], [1622, 1624], [1622, 1624], [1622, 1624], [1622, 1624], [1622, 1624], [1622, 1624], [1608, 1622, 1623, 1624], [], [], [1608, 1622, 1623, 1624], [1608, 1622, 1623, 1624], [1608, 1622, 1623, 1624], [1627, 1628, 1629], [1608, 1622, 1623, 1624], [1608, 1622, 1623, 1624], [], [], [], [], [], [], [1608, 1622, 1623, 1624, 1627, 1628, 1629], [], [1627, 1628, 1629], [1608, 1622, 1623, 1624, 1627, 1628, 1629], [1633], [1600, 1633], [1600], [1608, 1622, 1623, 1624, 1627, 1628, 1629, 1633], [1627, 1628, 1629, 1633], [1633], [1633], [], [1600, 1608, 1622, 1623, 1624, 1627, 1628, 1629, 1633], [1600, 1627, 1628, 1629, 1633], [1600, 1633], [1600, 1633], [], [1608, 1622, 1623, 1624, 1627, 1628], [], [], [], [1627, 1628, 1629], [], [], [], [], [1627, 1628, 1629], [1608, 1622, 1623, 1624, 1627, 1628, 1629], [1608, 1622, 1623, 1624, 1627, 1628, 1629], [], [1608, 1622, 1623, 1624, 1627, 1628, 1629], [], [1608, 1622, 1623, 1624, 1627, 1628, 1629, 1637, 1638, 1639, 1640, 1641], [1608, 1622, 1623, 1624, 1627, 1628, 1629], [1608, 1622, 1623, 1624, 1627, 1628, 1629], [1600], [], [1627, 1628, 1629], [1608, 1622, 1623, 1624, 1627, 1628, 1629], [1608, 1622, 1623, 1624, 1627, 1628, 1629], [1600], [], [], [1648], [1608, 1622, 1623, 1624, 1627, 1628, 1629, 1648], [], [1600, 1608, 1609, 1610, 1613, 1614, 1618, 1619, 1620, 1621, 1622, 1623, 1624, 1627, 1628, 1629, 1633, 1649, 1650, 1651, 1652, 1653, 1654, 1655, 1656], [1608, 1622, 1623, 1624, 1627, 1628, 1629], [1608, 1622, 1623, 1624, 1627, 1628, 1629, 1653, 1654, 1655, 1656], [], [1608, 1622, 1623, 1624, 1627, 1628, 1629, 1633], [1608, 1622, 1623, 1624, 1627, 1628, 1629, 1633, 1650, 1651, 1652, 1653, 1654, 1655, 1656], [1662], [1600, 1608, 1622, 1623, 1624, 1627, 1628, 1629, 1659, 1660, 1661, 1662], [], [], []]
def waT : List (List Nat) := [[20, 24], [], [], [], [20], [20], [26], [20, 26], [], [20], [20], [], [], [20], [], [20], [20], [], [], [20], [], [], [20], [], [20], [], [20, 22], [], [20, 22], [20, 22], [20], [20], [], [20], [], [], [], [], [], [20], [20], [20], [20], [], [20, 22], [], [20], [20], [], [], [], [20], [], [20], [20], [], [], [], [20], [], [], [], [], [20], [20], [20], [20], [20], [], [], [20, 26], [20], [20], [], [20], [20], [20], [20], [], [20, 24], [20, 26], [20, 26], [20], [20], [20], [20], [20], [], [], [20], [20], [20], [], [], [20], [20], [], [], [], [20, 24], [20], [20], [20], [20], [], [20], [], [20, 26], [20, 26], [], [], [20], [20], [20], [20], [20], [20], [20], [], [20, 22], [20, 22], [20, 22], [20, 22], [20, 22], [20, 22], [20], [], [20, 22], [20, 22], [20], [], [20], [20, 22], [], [20, 24, 25, 26], [20, 26], [], [], [], [20], [20], [20], [], [], [], [], [], [], [], [], [], [], [], [], [], [], [], [], [], [20], [], [], [20, 21], [20, 22], [20], [], [], [20], [], [20], [20], [20], [], [20], [20], [], [20, 21], [], [], [], [], [20], [], [], [], [], [], [], [], [], [], [], [], [], [], [], [], [], [20], [20], [20], [20], [], [20], [], [], [], [], [], [], [], [], [], [], [], [], [20], [20], [20], [20], [20], [20], [20], [], [], [], [], [], [], [20], [], [20], [20], [20], [20], [20], [20], [20], [20], [20], [], [20], [20], [20], [20], [], [20, 22], [], [], [], [20], [], [], [], [], [20], [20, 22], [20, 22], [], [20, 22], [], [20, 22], [20, 22], [20, 22], [20], [20], [20], [20, 22], [20, 22], [20], [20], [], [20], [20], [], [20, 23], [20], [20, 23], [], [20], [20, 23], [], [20, 22], [], [], []]
def okT : List Bool := [false, true, true, true, true, true, true, true, false, true, true, true, false, true, true, true, true, false, true, true, true, true, true, true, true, false, true, true, true, true, true, true, true, true, true, true, true, true, true, true, true, true, true, true, true, true, true, true, true, true, true, true, false, true, true, true, true, true, true, true, true, true, true, true, true, true, true, true, true, false, true, true, true, false, false, true, true, true, true, false, true, true, true, true, true, true, true, false, true, true, true, true, false, true, true, true, true, true, true, false, true, true, true, true, true, true, true, false, true, true, true, true, true, true, true, true, true, true, true, true, true, true, true, true, true, true, true, true, true, true, true, true, true, true, false, true, true, true, true, true, true, true, true, true, true, true, true, true, true, true, true, true, true, true, true, true, true, true, true, true, true, true, false, true, true, true, true, true, true, true, true, true, true, true, true, true, true, true, true, true, true, true, true, true, true, true, true, true, true, true, true, true, true, true, true, true, true, true, true, true, true, true, true, true, true, true, true, true, true, true, true, true, true, true, true, true, true, true, true, true, true, true, true, true, true, true, true, true, true, true, true, true, true, true, true, true, true, true, true, true, true, true, true, true, true, true, true, true, true, true, true, true, true, true, true, true, true, true, true, true, true, true, true, true, true, true, true, true, true, true, true, true, true, true, true, true, true, true, true, true, true, true, true, true, true, true]
def wsB (j a b : Nat) : Bool := (wsT.getD j []).any fun x => x == a * 100 + b
def waB (j a : Nat) : Bool := (waT.getD j []).any fun x => x == a
def okB (j : Nat) : Bool := okT.getD j false
def subN (x y : List Nat) : Bool := x.all fun u => y.any fun v => v == u
def quB (j q : Nat) : Bool := okB q && (subN (wsT.getD q []) (wsT.getD j []) && subN (waT.getD q []) (waT.getD j []))
def pvC (j : Nat) : Bool := !okB j || (mCode j).all (tw (wsB j) (waB j) (quB j))
theorem pv_all : (List.range 286).all pvC = true := by decide +kernel
theorem subN_any {x y : List Nat} (h : subN x y = true) (a : Nat) (h2 : y.any (fun v => v == a) = false) : x.any (fun v => v == a) = false := by
  rw [List.any_eq_false] at h2 ⊢
  intro u hu e
  unfold subN at h
  have := List.all_eq_true.mp h u hu
  obtain ⟨v, hv, e2⟩ := List.any_eq_true.mp this
  exact h2 v hv (by rw [beq_iff_eq] at *; omega)
theorem qu_pv {j q : Nat} {s s' : St} (h : quB j q = true) (g : Pv (wsB q) (waB q) s s') : Pv (wsB j) (waB j) s s' := by
  unfold quB at h
  rw [Bool.and_eq_true, Bool.and_eq_true] at h
  exact g.mono (fun x y e => subN_any h.2.1 _ e) (fun x e => subN_any h.2.2 _ e)
theorem okT_len : okT.length = 286 := by decide +kernel
theorem pv_code {j : Nat} (h : okB j = true) : ∀ t ∈ mCode j, tw (wsB j) (waB j) (quB j) t = true := by
  have hj : j < 286 := by
    by_cases e : j < 286
    · exact e
    · unfold okB at h
      rw [List.getD_eq_getElem?_getD, List.getElem?_eq_none (by rw [okT_len]; omega)] at h
      cases h
  have := List.all_eq_true.mp pv_all j (List.mem_range.mpr hj)
  unfold pvC at this
  rw [h] at this
  exact List.all_eq_true.mp this
theorem ev_pvF : ∀ (F d j i : Nat) (L : Lc) (st : List V) (s : St) (r : List V × St), okB j = true → ev F d j i L st s = some r → Pv (wsB j) (waB j) s r.2
  | 0, d, j, i, L, st, s, r, _, h => by simp [ev] at h
  | F + 1, d, j, i, L, st, s, r, hj, h => by
    rw [ev] at h
    refine inner_pv (Q := quB j) ?_ (fun i L st s r h => ev_pvF F _ _ _ _ _ _ _ hj h) _ _ _ _ _ _ (fun t ht => pv_code hj t (List.mem_of_mem_drop ht)) h
    intro q as s r hq h
    cases d with
    | zero => cases h
    | succ d => exact qu_pv hq (ev_pvF F _ _ _ _ _ _ _ (Bool.and_eq_true_iff.mp hq).1 h)
/-- what a run of a method that makes nothing leaves -/
theorem ev_pv {d j i : Nat} {L : Lc} {st : List V} {s s' : St} {r : List V} (h : EV d j i L st s = some (r, s')) (hj : okB j = true) : Pv (wsB j) (waB j) s s' := by
  obtain ⟨F, hF⟩ := EV_get h
  exact ev_pvF F d j i L st s (r, s') hj hF
