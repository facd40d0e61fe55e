/-! ===== what no run touches: cells that are not there stay so ===== -/
def Qz (s s' : St) : Prop := nx s ≤ nx s' ∧ ∀ p, (p < nx s ∨ nx s' ≤ p) → kd s p = 0 → gA s p = [] → kd s' p = 0 ∧ gA s' p = []
theorem Qz.rf (s : St) : Qz s s := ⟨Int.le_refl _, fun _ _ h1 h2 => ⟨h1, h2⟩⟩
theorem Qz.tr {a b c : St} (h : Qz a b) (g : Qz b c) : Qz a c := by
  obtain ⟨h1, h2⟩ := h
  obtain ⟨g1, g2⟩ := g
  refine ⟨by omega, fun p hp k0 a0 => ?_⟩
  obtain ⟨k1, a1⟩ := h2 p (by omega) k0 a0
  exact g2 p (by omega) k1 a1
theorem Qz.sF (s : St) (p : Int) (k : Nat) (v : Int) : Qz s (sF s p k v) := ⟨Int.le_refl _, fun _ _ h1 h2 => ⟨h1, h2⟩⟩
theorem Qz.sA {s : St} {p : Int} {l : List Int} (h : kd s p = 0 → gA s p = [] → False) : Qz s (sA s p l) := by
  refine ⟨Int.le_refl _, fun q _ h1 h2 => ⟨h1, ?_⟩⟩
  show (if q = p then l else gA s q) = []
  by_cases e : q = p
  · subst e
    exact (h h1 h2).elim
  · rw [if_neg e]
    exact h2
theorem Qz.nA (s : St) (t n : Nat) : Qz s (nA s t n) := by
  refine ⟨by show nx s ≤ nx s + 1; omega, fun q hq h1 h2 => ?_⟩
  have hq' : q < nx s ∨ nx s + 1 ≤ q := hq
  refine ⟨?_, ?_⟩
  · show (if q = nx s then t else kd s q) = 0
    rw [if_neg (by omega)]
    exact h1
  · show (if q = nx s then List.replicate n 0 else gA s q) = []
    rw [if_neg (by omega)]
    exact h2
theorem Qz.nO (s : St) (c n : Nat) : Qz s (nO s c n) := by
  refine ⟨by show nx s ≤ nx s + 1; omega, fun q hq h1 h2 => ?_⟩
  have hq' : q < nx s ∨ nx s + 1 ≤ q := hq
  refine ⟨?_, h2⟩
  show (if q = nx s then c + 4 else kd s q) = 0
  rw [if_neg (by omega)]
  exact h1
def Fg (L : Lc) (s : St) (G : Hc → Hl → Hl → Res) : Prop :=
  (∀ cv lb K, G cv lb K = none) ∨ (∃ k L' st' s', Qz s s' ∧ ∀ cv lb K, G cv lb K = K k L' st' s') ∨
  (∃ r, ∀ cv lb K, G cv lb K = some (r, s)) ∨ (∃ i L' st', ∀ cv lb K, G cv lb K = lb i L' st' s) ∨
  (∃ a q as st', ∀ cv lb K, G cv lb K = cX a (cv q as s) (fun r s1 => K 0 L (r ++ st') s1))
theorem fg_none {L : Lc} {s : St} : Fg L s (fun _ _ _ => none) := Or.inl fun _ _ _ => rfl
theorem fg_K {L : Lc} {s : St} (k : Nat) (L' : Lc) (st' : List V) : Fg L s (fun _ _ K => K k L' st' s) := Or.inr (Or.inl ⟨k, L', st', s, Qz.rf s, fun _ _ _ => rfl⟩)
theorem fg_Ks {L : Lc} {s : St} (k : Nat) (L' : Lc) (st' : List V) (s' : St) (h1 : Qz s s') : Fg L s (fun _ _ K => K k L' st' s') := Or.inr (Or.inl ⟨k, L', st', s', h1, fun _ _ _ => rfl⟩)
theorem fg_ret {L : Lc} {s : St} (r : List V) : Fg L s (fun _ _ _ => some (r, s)) := Or.inr (Or.inr (Or.inl ⟨r, fun _ _ _ => rfl⟩))
theorem fg_lb {L : Lc} {s : St} (i : Nat) (L' : Lc) (st' : List V) : Fg L s (fun _ lb _ => lb i L' st' s) := Or.inr (Or.inr (Or.inr (Or.inl ⟨i, L', st', fun _ _ _ => rfl⟩)))
theorem fg_call {L : Lc} {s : St} (a q : Nat) (as st' : List V) : Fg L s (fun cv _ K => cX a (cv q as s) (fun r s1 => K 0 L (r ++ st') s1)) := Or.inr (Or.inr (Or.inr (Or.inr ⟨a, q, as, st', fun _ _ _ => rfl⟩)))
theorem fg_ite {L : Lc} {s : St} {P : Prop} [Decidable P] {A B : Hc → Hl → Hl → Res} (h1 : Fg L s A) (h2 : Fg L s B) : Fg L s (fun cv lb K => if P then A cv lb K else B cv lb K) := by
  by_cases h : P
  · simp only [if_pos h]; exact h1
  · simp only [if_neg h]; exact h2
theorem fg_ldI {L : Lc} {s : St} {M : Lc} {i : Nat} {F : Int → Hc → Hl → Hl → Res} (h : ∀ x, Fg L s (F x)) : Fg L s (fun cv lb K => ldI M i fun x => F x cv lb K) := by
  unfold ldI
  rcases lk M i with _ | ⟨_ | n, x⟩
  · exact fg_none
  · exact h x
  · exact fg_none
theorem fg_ldJ {L : Lc} {s : St} {M : Lc} {i : Nat} {F : Int → Hc → Hl → Hl → Res} (h : ∀ x, Fg L s (F x)) : Fg L s (fun cv lb K => ldJ M i fun x => F x cv lb K) := by
  unfold ldJ
  rcases lk M i with _ | ⟨_ | _ | _ | n, x⟩
  · exact fg_none
  · exact fg_none
  · exact fg_none
  · exact h x
  · exact fg_none
theorem fg_ldR {L : Lc} {s : St} {M : Lc} {i : Nat} {F : V → Hc → Hl → Hl → Res} (h : ∀ x, Fg L s (F x)) : Fg L s (fun cv lb K => ldR M i fun x => F x cv lb K) := by
  unfold ldR
  rcases lk M i with _ | ⟨_ | _ | _ | _ | n, x⟩
  · exact fg_none
  · exact fg_none
  · exact h _
  · exact fg_none
  · exact h _
  · exact fg_none
theorem fg_pI {L : Lc} {s : St} {st : List V} {F : Int → List V → Hc → Hl → Hl → Res} (h : ∀ x st, Fg L s (F x st)) : Fg L s (fun cv lb K => pI st fun x st => F x st cv lb K) := by
  unfold pI
  rcases st with _ | ⟨⟨_ | n, x⟩, st⟩
  · exact fg_none
  · exact h _ _
  · exact fg_none
theorem fg_pJ {L : Lc} {s : St} {st : List V} {F : Int → List V → Hc → Hl → Hl → Res} (h : ∀ x st, Fg L s (F x st)) : Fg L s (fun cv lb K => pJ st fun x st => F x st cv lb K) := by
  unfold pJ
  rcases st with _ | ⟨⟨_ | _ | _ | n, x⟩, st⟩
  · exact fg_none
  · exact fg_none
  · exact fg_none
  · exact h _ _
  · exact fg_none
theorem fg_pR {L : Lc} {s : St} {st : List V} {F : Int → List V → Hc → Hl → Hl → Res} (h : ∀ x st, Fg L s (F x st)) : Fg L s (fun cv lb K => pR st fun x st => F x st cv lb K) := by
  unfold pR
  rcases st with _ | ⟨⟨_ | _ | n, x⟩, st⟩
  · exact fg_none
  · exact fg_none
  · exact h _ _
  · exact fg_none
theorem fg_pS {L : Lc} {s : St} {st : List V} {F : Int → List V → Hc → Hl → Hl → Res} (h : ∀ x st, Fg L s (F x st)) : Fg L s (fun cv lb K => pS st fun x st => F x st cv lb K) := by
  unfold pS
  rcases st with _ | ⟨⟨_ | _ | _ | _ | n, x⟩, st⟩
  · exact fg_none
  · exact fg_none
  · exact fg_none
  · exact fg_none
  · exact h _ _
  · exact fg_none
theorem fg_pQ {L : Lc} {s : St} {st : List V} {F : V → List V → Hc → Hl → Hl → Res} (h : ∀ x st, Fg L s (F x st)) : Fg L s (fun cv lb K => pQ st fun x st => F x st cv lb K) := by
  unfold pQ
  rcases st with _ | ⟨⟨_ | _ | _ | _ | n, x⟩, st⟩
  · exact fg_none
  · exact fg_none
  · exact h _ _
  · exact fg_none
  · exact h _ _
  · exact fg_none
theorem fg_p1 {L : Lc} {s : St} {st : List V} {F : V → List V → Hc → Hl → Hl → Res} (h : ∀ x st, Fg L s (F x st)) : Fg L s (fun cv lb K => p1 st fun x st => F x st cv lb K) := by
  unfold p1
  rcases st with _ | ⟨⟨_ | _ | _ | _ | n, x⟩, st⟩
  · exact fg_none
  · exact h _ _
  · exact h _ _
  · exact fg_none
  · exact h _ _
  · exact fg_none
theorem fg_pE {L : Lc} {s : St} {st : List V} {A : Hc → Hl → Hl → Res} (h : Fg L s A) : Fg L s (fun cv lb K => pE st (A cv lb K)) := by
  unfold pE
  rcases st with _ | ⟨v, st⟩
  · exact h
  · exact fg_none
theorem fg_bk {L : Lc} {s : St} {x : Int} {A : Hc → Hl → Hl → Res} (h : Fg L s A) : Fg L s (fun cv lb K => bk x (A cv lb K)) := by
  unfold bk
  rcases x with (_ | _ | n) | n
  · exact h
  · exact h
  · exact fg_none
  · exact fg_none
theorem fg_wk {L : Lc} {s : St} {st : List V} {A : Hc → Hl → Hl → Res} (h : Fg L s A) : Fg L s (fun cv lb K => wk st (A cv lb K)) := by
  unfold wk
  cases Nat.ble (wt st) 8
  · exact fg_none
  · exact h
theorem fg_ak {L : Lc} {s : St} {as : List V} {n : Nat} {A : Hc → Hl → Hl → Res} (h : Fg L s A) : Fg L s (fun cv lb K => ak as n (A cv lb K)) := by
  unfold ak
  cases Nat.ble (wt as) n
  · exact fg_none
  · exact h
theorem fg_rk {L : Lc} {s : St} {t : Nat} {x : Int} {A : Hc → Hl → Hl → Res} (h : Fg L s A) : Fg L s (fun cv lb K => rk s t x (A cv lb K)) := by
  unfold rk
  exact fg_ite h fg_none
theorem fg_oK {L : Lc} {s : St} {t : Nat} {p : Int} {A : Hc → Hl → Hl → Res} (h : Fg L s A) : Fg L s (fun cv lb K => oK s p t (A cv lb K)) := by
  unfold oK
  exact fg_ite h fg_none
theorem fg_rF {L : Lc} {s : St} {t k : Nat} {p : Int} {F : Int → Hc → Hl → Hl → Res} (h : ∀ x, Fg L s (F x)) : Fg L s (fun cv lb K => rF s p t k fun x => F x cv lb K) := by
  unfold rF
  exact fg_ite (h _) fg_none
theorem fg_rA {L : Lc} {s : St} {t : Nat} {p i : Int} {F : Int → Hc → Hl → Hl → Res} (h : ∀ x, Fg L s (F x)) : Fg L s (fun cv lb K => rA s p t i fun x => F x cv lb K) := by
  unfold rA
  exact fg_ite (h _) fg_none
theorem fg_lA {L : Lc} {s : St} {t : Nat} {p : Int} {F : Int → Hc → Hl → Hl → Res} (h : ∀ x, Fg L s (F x)) : Fg L s (fun cv lb K => lA s p t fun x => F x cv lb K) := by
  unfold lA
  exact fg_ite (h _) fg_none
theorem fg_sC {L : Lc} {s : St} {i k : Int} {F : Int → Hc → Hl → Hl → Res} (h : ∀ x, Fg L s (F x)) : Fg L s (fun cv lb K => sC i k fun x => F x cv lb K) := by
  unfold sC
  exact fg_ite (h _) fg_none
theorem fg_wF {L : Lc} {s : St} {t k : Nat} {p v : Int} {L' : Lc} {st' : List V} : Fg L s (fun _ _ K => wF s p t k v fun s => K 0 L' st' s) := by
  unfold wF
  exact fg_ite (fg_Ks _ _ _ _ (Qz.sF ..)) fg_none
theorem fg_wA {L : Lc} {s : St} {t : Nat} {p i v : Int} {L' : Lc} {st' : List V} : Fg L s (fun _ _ K => wA s p t i v fun s => K 0 L' st' s) := by
  unfold wA
  by_cases h : kd s p = t ∧ 0 ≤ i ∧ i < (gA s p).length
  · simp only [if_pos h]
    exact fg_Ks _ _ _ _ (Qz.sA fun h0 h1 => by rw [h1] at h; have := h.2; simp at this; omega)
  · simp only [if_neg h]
    exact fg_none
theorem fg_aC {L : Lc} {s : St} {p sp q dp n : Int} {L' : Lc} {st' : List V} : Fg L s (fun _ _ K => aC s p sp q dp n fun s => K 0 L' st' s) := by
  unfold aC
  by_cases h : kd s p = 20 ∧ kd s q = 20 ∧ 0 ≤ sp ∧ 0 ≤ dp ∧ 0 ≤ n ∧ sp + n ≤ (gA s p).length ∧ dp + n ≤ (gA s q).length
  · simp only [if_pos h]
    exact fg_Ks _ _ _ _ (Qz.sA fun h0 _ => by rw [h.2.1] at h0; cases h0)
  · simp only [if_neg h]
    exact fg_none
theorem fg_mA {L : Lc} {s : St} {t : Nat} {n : Int} {L' : Lc} {st' : Int → List V} : Fg L s (fun _ _ K => mA s t n fun x s => K 0 L' (st' x) s) := by
  unfold mA
  exact fg_ite (fg_Ks _ _ _ _ (Qz.nA ..)) fg_none
theorem fg_mO {L : Lc} {s : St} {ci N : Nat} {L' : Lc} {st' : Int → List V} : Fg L s (fun _ _ K => mO s ci N fun x s => K 0 L' (st' x) s) :=
  fg_Ks _ _ _ _ (Qz.nO ..)
theorem fg_tkA {L : Lc} {s : St} : ∀ (n : Nat) (st acc : List V) {F : List V → List V → Hc → Hl → Hl → Res}, (∀ as st, Fg L s (F as st)) → Fg L s (fun cv lb K => tkA n st acc fun as st => F as st cv lb K)
  | 0, st, acc, F, h => h acc st
  | n + 1, v :: st, acc, F, h => fg_tkA n st (v :: acc) h
  | n + 1, [], acc, F, h => fg_none
theorem fg_rcv {L : Lc} {s : St} {as : List V} {F : Int → Hc → Hl → Hl → Res} (h : ∀ x, Fg L s (F x)) : Fg L s (fun cv lb K => rcv as fun x => F x cv lb K) := by
  unfold rcv
  rcases as with _ | ⟨⟨_ | _ | n, x⟩, st⟩
  · exact fg_none
  · exact fg_none
  · exact h _
  · exact fg_none
theorem fg_swt {L : Lc} {s : St} {x : Int} {L' : Lc} {st' : List V} : ∀ (ls : List Nat) (a : Int) (b : Nat), Fg L s (fun _ _ K => swt x (fun k => K k L' st' s) a ls b)
  | [], a, b => fg_K _ _ _
  | k :: ks, a, b => fg_ite (fg_K _ _ _) (fg_swt ks (a + 1) b)
theorem fg_semX (c : Nat) (L : Lc) (st : List V) (s : St) : Fg L s (fun _ _ K => semX c L st s K) := by
  unfold semX
  split
  · exact fg_pR fun p st => fg_ite fg_none (fg_wk (fg_K _ _ _))
  · exact fg_pI fun y st => fg_pI fun x st => fg_wk (fg_K _ _ _)
  · exact fg_pI fun y st => fg_pI fun x st => fg_wk (fg_K _ _ _)
  · exact fg_pI fun x st => fg_wk (fg_K _ _ _)
  · exact fg_pI fun y st => fg_pI fun x st => fg_pR fun _ _ => fg_pI fun _ _ => fg_pR fun _ _ => fg_wk fg_aC
  · exact fg_pS fun x st => fg_wk (fg_K _ _ _)
  · exact fg_pI fun y st => fg_pS fun x st => fg_wk (fg_sC fun _ => fg_K _ _ _)
  · exact fg_none
theorem fg_semI (ins : Instr) (a : Int) (b c e : Nat) (ls : List Nat) (L : Lc) (st : List V) (s : St) : Fg L s (fun cv lb K => semI cv lb ins a b c e ls L st s K) := by
  unfold semI
  split
  all_goals first
    | exact fg_none
    | exact fg_K _ _ _
    | exact fg_ldI fun x => fg_K _ _ _
    | exact fg_ldJ fun x => fg_K _ _ _
    | exact fg_ldR fun x => fg_K _ _ _
    | exact fg_pI fun x st => fg_K _ _ _
    | exact fg_pJ fun x st => fg_K _ _ _
    | exact fg_pQ fun x st => fg_K _ _ _
    | exact fg_p1 fun x st => fg_K _ _ _
    | exact fg_pI fun y st => fg_pI fun x st => fg_K _ _ _
    | exact fg_pJ fun y st => fg_pJ fun x st => fg_K _ _ _
    | exact fg_pI fun y st => fg_pI fun x st => fg_ite fg_none (fg_K _ _ _)
    | exact fg_pJ fun y st => fg_pJ fun x st => fg_ite fg_none (fg_K _ _ _)
    | exact fg_pI fun y st => fg_pR fun x st => fg_K _ _ _
    | exact fg_pI fun x st => fg_ite (fg_K _ _ _) (fg_K _ _ _)
    | exact fg_pR fun x st => fg_ite (fg_K _ _ _) (fg_K _ _ _)
    | exact fg_pI fun y st => fg_pI fun x st => fg_ite (fg_K _ _ _) (fg_K _ _ _)
    | exact fg_pR fun y st => fg_pR fun x st => fg_ite (fg_K _ _ _) (fg_K _ _ _)
    | exact fg_pI fun x st => fg_swt _ _ _
    | exact fg_pR fun p st => fg_rF fun x => fg_K _ _ _
    | exact fg_pI fun i st => fg_pR fun p st => fg_rA fun x => fg_K _ _ _
    | exact fg_pI fun x st => fg_pI fun i st => fg_pR fun p st => fg_wA
    | exact fg_pJ fun x st => fg_pI fun i st => fg_pR fun p st => fg_wA
    | exact fg_pR fun x st => fg_pI fun i st => fg_pR fun p st => fg_rk fg_wA
    | exact fg_pR fun p st => fg_lA fun x => fg_K _ _ _
    | exact fg_pI fun n st => fg_mA (st' := fun x => (1, x) :: st)
    | exact fg_mO (st' := fun x => (1, x) :: st)
    | exact fg_pE (fg_ret _)
    | exact fg_pJ fun x st => fg_pE (fg_ret _)
    | exact fg_pR fun x st => fg_pE (fg_ret _)
    | (split
       all_goals first
         | exact fg_K _ _ _
         | exact fg_lb _ _ _
         | exact fg_pI fun x st => fg_pR fun p st => fg_wF
         | exact fg_pI fun x st => fg_pR fun p st => fg_bk fg_wF
         | exact fg_pR fun x st => fg_pR fun p st => fg_rk fg_wF
         | exact fg_pI fun x st => fg_pI fun i st => fg_pR fun p st => fg_bk fg_wA
         | exact fg_pI fun x st => fg_pI fun i st => fg_pR fun p st => fg_wA
         | exact fg_tkA _ _ _ fun as st => fg_ak (fg_wk (fg_call _ _ _ _))
         | exact fg_tkA _ _ _ fun as st => fg_rcv fun p => fg_oK (fg_ak (fg_wk (fg_call _ _ _ _)))
         | exact fg_semX _ _ _ _)
    | (refine fg_pI fun x st => fg_pE ?_
       split
       · exact fg_bk (fg_ret _)
       · exact fg_ret _)
theorem fg_sem (t : Tp) (L : Lc) (st : List V) (s : St) : Fg L s (fun cv lb K => sem cv lb t L st s K) := by
  obtain ⟨pc, ins, a, b, c, e, ls⟩ := t
  cases ins with
  | none => exact fg_lb _ _ _
  | some i => exact fg_semI _ _ _ _ _ _ _ _ _
theorem inner_qz {cv : Hc} {lb : Hl} (h1 : ∀ q as s r, cv q as s = some r → Qz s r.2) (h2 : ∀ i L st s r, lb i L st s = some r → Qz s r.2) :
    ∀ (n : Nat) (c : List Tp) (L : Lc) (st : List V) (s : St) (r : List V × St), inner cv lb n c L st s = some r → Qz s r.2
  | 0, c, L, st, s, r, h => by cases c <;> simp [inner] at h
  | n + 1, [], L, st, s, r, h => by simp [inner] at h
  | n + 1, t :: c, L, st, s, r, h => by
    simp only [inner] at h
    have hfc := fg_sem t L st s
    simp only [Fg] at hfc
    rcases hfc with hN | ⟨k, L', st', s', g1, hK⟩ | ⟨r', hR⟩ | ⟨i, L', st', hL⟩ | ⟨a, q, as, st', hC⟩
    · rw [hN] at h; cases h
    · rw [hK] at h
      exact g1.tr (inner_qz h1 h2 n _ _ _ _ _ h)
    · rw [hR] at h
      cases h
      exact Qz.rf _
    · rw [hL] at h
      exact h2 _ _ _ _ _ h
    · rw [hC] at h
      obtain ⟨r1, s1, ho, hk, hX⟩ := cX_inv h
      have g1 := h1 _ _ _ _ ho
      exact g1.tr (inner_qz h1 h2 n _ _ _ _ _ hk)
theorem ev_qz : ∀ (F d j i : Nat) (L : Lc) (st : List V) (s : St) (r : List V × St), ev F d j i L st s = some r → Qz s r.2
  | 0, d, j, i, L, st, s, r, h => by simp [ev] at h
  | F + 1, d, j, i, L, st, s, r, h => by
    rw [ev] at h
    refine inner_qz ?_ (fun i L st s r h => ev_qz F _ _ _ _ _ _ _ h) _ _ _ _ _ _ h
    intro q as s r h
    cases d with
    | zero => cases h
    | succ d => exact ev_qz F _ _ _ _ _ _ _ h
