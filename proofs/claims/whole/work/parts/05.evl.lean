/-! ===== the evaluator's theory: what one instruction does, fuel, the limit ===== -/
abbrev Hc : Type := Nat → List V → St → Res
abbrev Hl : Type := Nat → Lc → List V → St → Res
/-- an instruction fails, or goes on, or returns, or comes to a label, or calls -/
def Fc (L : Lc) (s : St) (G : Hc → Hl → Hl → Res) : Prop :=
  (∀ cv lb K, G cv lb K = none) ∨ (∃ k L' st' s', nx s ≤ nx s' ∧ sl s ≤ sl s' ∧ ∀ cv lb K, G cv lb K = K k L' st' s') ∨
  (∃ r, ∀ cv lb K, G cv lb K = some (r, s)) ∨ (∃ i L' st', ∀ cv lb K, G cv lb K = lb i L' st' s) ∨
  (∃ a q as st', ∀ cv lb K, G cv lb K = cX a (cv q as s) (fun r s1 => K 0 L (r ++ st') s1))
theorem fc_none {L : Lc} {s : St} : Fc L s (fun _ _ _ => none) := Or.inl fun _ _ _ => rfl
theorem fc_K {L : Lc} {s : St} (k : Nat) (L' : Lc) (st' : List V) : Fc L s (fun _ _ K => K k L' st' s) := Or.inr (Or.inl ⟨k, L', st', s, Int.le_refl _, Int.le_refl _, fun _ _ _ => rfl⟩)
theorem fc_Ks {L : Lc} {s : St} (k : Nat) (L' : Lc) (st' : List V) (s' : St) (h1 : nx s ≤ nx s') (h2 : sl s ≤ sl s') : Fc L s (fun _ _ K => K k L' st' s') := Or.inr (Or.inl ⟨k, L', st', s', h1, h2, fun _ _ _ => rfl⟩)
theorem fc_ret {L : Lc} {s : St} (r : List V) : Fc L s (fun _ _ _ => some (r, s)) := Or.inr (Or.inr (Or.inl ⟨r, fun _ _ _ => rfl⟩))
theorem fc_lb {L : Lc} {s : St} (i : Nat) (L' : Lc) (st' : List V) : Fc L s (fun _ lb _ => lb i L' st' s) := Or.inr (Or.inr (Or.inr (Or.inl ⟨i, L', st', fun _ _ _ => rfl⟩)))
theorem fc_call {L : Lc} {s : St} (a q : Nat) (as st' : List V) : Fc L s (fun cv _ K => cX a (cv q as s) (fun r s1 => K 0 L (r ++ st') s1)) := Or.inr (Or.inr (Or.inr (Or.inr ⟨a, q, as, st', fun _ _ _ => rfl⟩)))
theorem fc_ite {L : Lc} {s : St} {P : Prop} [Decidable P] {A B : Hc → Hl → Hl → Res} (h1 : Fc L s A) (h2 : Fc L s B) : Fc L s (fun cv lb K => if P then A cv lb K else B cv lb K) := by
  by_cases h : P
  · simp only [if_pos h]; exact h1
  · simp only [if_neg h]; exact h2
theorem fc_ldI {L : Lc} {s : St} {M : Lc} {i : Nat} {F : Int → Hc → Hl → Hl → Res} (h : ∀ x, Fc L s (F x)) : Fc L s (fun cv lb K => ldI M i fun x => F x cv lb K) := by
  unfold ldI
  rcases lk M i with _ | ⟨_ | n, x⟩
  · exact fc_none
  · exact h x
  · exact fc_none
theorem fc_ldJ {L : Lc} {s : St} {M : Lc} {i : Nat} {F : Int → Hc → Hl → Hl → Res} (h : ∀ x, Fc L s (F x)) : Fc L s (fun cv lb K => ldJ M i fun x => F x cv lb K) := by
  unfold ldJ
  rcases lk M i with _ | ⟨_ | _ | _ | n, x⟩
  · exact fc_none
  · exact fc_none
  · exact fc_none
  · exact h x
  · exact fc_none
theorem fc_ldR {L : Lc} {s : St} {M : Lc} {i : Nat} {F : V → Hc → Hl → Hl → Res} (h : ∀ x, Fc L s (F x)) : Fc L s (fun cv lb K => ldR M i fun x => F x cv lb K) := by
  unfold ldR
  rcases lk M i with _ | ⟨_ | _ | _ | _ | n, x⟩
  · exact fc_none
  · exact fc_none
  · exact h _
  · exact fc_none
  · exact h _
  · exact fc_none
theorem fc_pI {L : Lc} {s : St} {st : List V} {F : Int → List V → Hc → Hl → Hl → Res} (h : ∀ x st, Fc L s (F x st)) : Fc L s (fun cv lb K => pI st fun x st => F x st cv lb K) := by
  unfold pI
  rcases st with _ | ⟨⟨_ | n, x⟩, st⟩
  · exact fc_none
  · exact h _ _
  · exact fc_none
theorem fc_pJ {L : Lc} {s : St} {st : List V} {F : Int → List V → Hc → Hl → Hl → Res} (h : ∀ x st, Fc L s (F x st)) : Fc L s (fun cv lb K => pJ st fun x st => F x st cv lb K) := by
  unfold pJ
  rcases st with _ | ⟨⟨_ | _ | _ | n, x⟩, st⟩
  · exact fc_none
  · exact fc_none
  · exact fc_none
  · exact h _ _
  · exact fc_none
theorem fc_pR {L : Lc} {s : St} {st : List V} {F : Int → List V → Hc → Hl → Hl → Res} (h : ∀ x st, Fc L s (F x st)) : Fc L s (fun cv lb K => pR st fun x st => F x st cv lb K) := by
  unfold pR
  rcases st with _ | ⟨⟨_ | _ | n, x⟩, st⟩
  · exact fc_none
  · exact fc_none
  · exact h _ _
  · exact fc_none
theorem fc_pS {L : Lc} {s : St} {st : List V} {F : Int → List V → Hc → Hl → Hl → Res} (h : ∀ x st, Fc L s (F x st)) : Fc L s (fun cv lb K => pS st fun x st => F x st cv lb K) := by
  unfold pS
  rcases st with _ | ⟨⟨_ | _ | _ | _ | n, x⟩, st⟩
  · exact fc_none
  · exact fc_none
  · exact fc_none
  · exact fc_none
  · exact h _ _
  · exact fc_none
theorem fc_pQ {L : Lc} {s : St} {st : List V} {F : V → List V → Hc → Hl → Hl → Res} (h : ∀ x st, Fc L s (F x st)) : Fc L s (fun cv lb K => pQ st fun x st => F x st cv lb K) := by
  unfold pQ
  rcases st with _ | ⟨⟨_ | _ | _ | _ | n, x⟩, st⟩
  · exact fc_none
  · exact fc_none
  · exact h _ _
  · exact fc_none
  · exact h _ _
  · exact fc_none
theorem fc_p1 {L : Lc} {s : St} {st : List V} {F : V → List V → Hc → Hl → Hl → Res} (h : ∀ x st, Fc L s (F x st)) : Fc L s (fun cv lb K => p1 st fun x st => F x st cv lb K) := by
  unfold p1
  rcases st with _ | ⟨⟨_ | _ | _ | _ | n, x⟩, st⟩
  · exact fc_none
  · exact h _ _
  · exact h _ _
  · exact fc_none
  · exact h _ _
  · exact fc_none
theorem fc_pE {L : Lc} {s : St} {st : List V} {A : Hc → Hl → Hl → Res} (h : Fc L s A) : Fc L s (fun cv lb K => pE st (A cv lb K)) := by
  unfold pE
  rcases st with _ | ⟨v, st⟩
  · exact h
  · exact fc_none
theorem fc_bk {L : Lc} {s : St} {x : Int} {A : Hc → Hl → Hl → Res} (h : Fc L s A) : Fc L s (fun cv lb K => bk x (A cv lb K)) := by
  unfold bk
  rcases x with (_ | _ | n) | n
  · exact h
  · exact h
  · exact fc_none
  · exact fc_none
theorem fc_wk {L : Lc} {s : St} {st : List V} {A : Hc → Hl → Hl → Res} (h : Fc L s A) : Fc L s (fun cv lb K => wk st (A cv lb K)) := by
  unfold wk
  cases Nat.ble (wt st) 8
  · exact fc_none
  · exact h
theorem fc_ak {L : Lc} {s : St} {as : List V} {n : Nat} {A : Hc → Hl → Hl → Res} (h : Fc L s A) : Fc L s (fun cv lb K => ak as n (A cv lb K)) := by
  unfold ak
  cases Nat.ble (wt as) n
  · exact fc_none
  · exact h
theorem fc_rk {L : Lc} {s : St} {t : Nat} {x : Int} {A : Hc → Hl → Hl → Res} (h : Fc L s A) : Fc L s (fun cv lb K => rk s t x (A cv lb K)) := by
  unfold rk
  exact fc_ite h fc_none
theorem fc_oK {L : Lc} {s : St} {t : Nat} {p : Int} {A : Hc → Hl → Hl → Res} (h : Fc L s A) : Fc L s (fun cv lb K => oK s p t (A cv lb K)) := by
  unfold oK
  exact fc_ite h fc_none
theorem fc_rF {L : Lc} {s : St} {t k : Nat} {p : Int} {F : Int → Hc → Hl → Hl → Res} (h : ∀ x, Fc L s (F x)) : Fc L s (fun cv lb K => rF s p t k fun x => F x cv lb K) := by
  unfold rF
  exact fc_ite (h _) fc_none
theorem fc_rA {L : Lc} {s : St} {t : Nat} {p i : Int} {F : Int → Hc → Hl → Hl → Res} (h : ∀ x, Fc L s (F x)) : Fc L s (fun cv lb K => rA s p t i fun x => F x cv lb K) := by
  unfold rA
  exact fc_ite (h _) fc_none
theorem fc_lA {L : Lc} {s : St} {t : Nat} {p : Int} {F : Int → Hc → Hl → Hl → Res} (h : ∀ x, Fc L s (F x)) : Fc L s (fun cv lb K => lA s p t fun x => F x cv lb K) := by
  unfold lA
  exact fc_ite (h _) fc_none
theorem fc_sC {L : Lc} {s : St} {i k : Int} {F : Int → Hc → Hl → Hl → Res} (h : ∀ x, Fc L s (F x)) : Fc L s (fun cv lb K => sC i k fun x => F x cv lb K) := by
  unfold sC
  exact fc_ite (h _) fc_none
theorem fc_wF {L : Lc} {s : St} {t k : Nat} {p v : Int} {L' : Lc} {st' : List V} : Fc L s (fun _ _ K => wF s p t k v fun s => K 0 L' st' s) := by
  unfold wF
  exact fc_ite (fc_Ks _ _ _ _ (Int.le_refl _) (Int.le_refl _)) fc_none
theorem fc_wA {L : Lc} {s : St} {t : Nat} {p i v : Int} {L' : Lc} {st' : List V} : Fc L s (fun _ _ K => wA s p t i v fun s => K 0 L' st' s) := by
  unfold wA
  exact fc_ite (fc_Ks _ _ _ _ (Int.le_refl _) (Int.le_refl _)) fc_none
theorem fc_aC {L : Lc} {s : St} {p sp q dp n : Int} {L' : Lc} {st' : List V} : Fc L s (fun _ _ K => aC s p sp q dp n fun s => K 0 L' st' s) := by
  unfold aC
  exact fc_ite (fc_Ks _ _ _ _ (Int.le_refl _) (Int.le_refl _)) fc_none
theorem fc_mA {L : Lc} {s : St} {t : Nat} {n : Int} {L' : Lc} {st' : Int → List V} : Fc L s (fun _ _ K => mA s t n fun x s => K 0 L' (st' x) s) := by
  unfold mA
  exact fc_ite (fc_Ks _ _ _ _ (by show nx s ≤ nx s + 1; omega) (by show sl s ≤ sl s + _; omega)) fc_none
theorem fc_mO {L : Lc} {s : St} {ci N : Nat} {L' : Lc} {st' : Int → List V} : Fc L s (fun _ _ K => mO s ci N fun x s => K 0 L' (st' x) s) :=
  fc_Ks _ _ _ _ (by show nx s ≤ nx s + 1; omega) (by show sl s ≤ sl s + _; omega)
theorem fc_tkA {L : Lc} {s : St} : ∀ (n : Nat) (st acc : List V) {F : List V → List V → Hc → Hl → Hl → Res}, (∀ as st, Fc L s (F as st)) → Fc L s (fun cv lb K => tkA n st acc fun as st => F as st cv lb K)
  | 0, st, acc, F, h => h acc st
  | n + 1, v :: st, acc, F, h => fc_tkA n st (v :: acc) h
  | n + 1, [], acc, F, h => fc_none
theorem fc_rcv {L : Lc} {s : St} {as : List V} {F : Int → Hc → Hl → Hl → Res} (h : ∀ x, Fc L s (F x)) : Fc L s (fun cv lb K => rcv as fun x => F x cv lb K) := by
  unfold rcv
  rcases as with _ | ⟨⟨_ | _ | n, x⟩, st⟩
  · exact fc_none
  · exact fc_none
  · exact h _
  · exact fc_none
theorem fc_swt {L : Lc} {s : St} {x : Int} {L' : Lc} {st' : List V} : ∀ (ls : List Nat) (a : Int) (b : Nat), Fc L s (fun _ _ K => swt x (fun k => K k L' st' s) a ls b)
  | [], a, b => fc_K _ _ _
  | k :: ks, a, b => fc_ite (fc_K _ _ _) (fc_swt ks (a + 1) b)
theorem fc_semX (c : Nat) (L : Lc) (st : List V) (s : St) : Fc L s (fun _ _ K => semX c L st s K) := by
  unfold semX
  split
  · exact fc_pR fun p st => fc_ite fc_none (fc_wk (fc_K _ _ _))
  · exact fc_pI fun y st => fc_pI fun x st => fc_wk (fc_K _ _ _)
  · exact fc_pI fun y st => fc_pI fun x st => fc_wk (fc_K _ _ _)
  · exact fc_pI fun x st => fc_wk (fc_K _ _ _)
  · exact fc_pI fun y st => fc_pI fun x st => fc_pR fun _ _ => fc_pI fun _ _ => fc_pR fun _ _ => fc_wk fc_aC
  · exact fc_pS fun x st => fc_wk (fc_K _ _ _)
  · exact fc_pI fun y st => fc_pS fun x st => fc_wk (fc_sC fun _ => fc_K _ _ _)
  · exact fc_none
theorem fc_semI (ins : Instr) (a : Int) (b c e : Nat) (ls : List Nat) (L : Lc) (st : List V) (s : St) : Fc L s (fun cv lb K => semI cv lb ins a b c e ls L st s K) := by
  unfold semI
  split
  all_goals first
    | exact fc_none
    | exact fc_K _ _ _
    | exact fc_ldI fun x => fc_K _ _ _
    | exact fc_ldJ fun x => fc_K _ _ _
    | exact fc_ldR fun x => fc_K _ _ _
    | exact fc_pI fun x st => fc_K _ _ _
    | exact fc_pJ fun x st => fc_K _ _ _
    | exact fc_pQ fun x st => fc_K _ _ _
    | exact fc_p1 fun x st => fc_K _ _ _
    | exact fc_pI fun y st => fc_pI fun x st => fc_K _ _ _
    | exact fc_pJ fun y st => fc_pJ fun x st => fc_K _ _ _
    | exact fc_pI fun y st => fc_pI fun x st => fc_ite fc_none (fc_K _ _ _)
    | exact fc_pJ fun y st => fc_pJ fun x st => fc_ite fc_none (fc_K _ _ _)
    | exact fc_pI fun y st => fc_pR fun x st => fc_K _ _ _
    | exact fc_pI fun x st => fc_ite (fc_K _ _ _) (fc_K _ _ _)
    | exact fc_pR fun x st => fc_ite (fc_K _ _ _) (fc_K _ _ _)
    | exact fc_pI fun y st => fc_pI fun x st => fc_ite (fc_K _ _ _) (fc_K _ _ _)
    | exact fc_pR fun y st => fc_pR fun x st => fc_ite (fc_K _ _ _) (fc_K _ _ _)
    | exact fc_pI fun x st => fc_swt _ _ _
    | exact fc_pR fun p st => fc_rF fun x => fc_K _ _ _
    | exact fc_pI fun i st => fc_pR fun p st => fc_rA fun x => fc_K _ _ _
    | exact fc_pI fun x st => fc_pI fun i st => fc_pR fun p st => fc_wA
    | exact fc_pJ fun x st => fc_pI fun i st => fc_pR fun p st => fc_wA
    | exact fc_pR fun x st => fc_pI fun i st => fc_pR fun p st => fc_rk fc_wA
    | exact fc_pR fun p st => fc_lA fun x => fc_K _ _ _
    | exact fc_pI fun n st => fc_mA (st' := fun x => (1, x) :: st)
    | exact fc_mO (st' := fun x => (1, x) :: st)
    | exact fc_pE (fc_ret _)
    | exact fc_pJ fun x st => fc_pE (fc_ret _)
    | exact fc_pR fun x st => fc_pE (fc_ret _)
    | (split
       all_goals first
         | exact fc_K _ _ _
         | exact fc_lb _ _ _
         | exact fc_pI fun x st => fc_pR fun p st => fc_wF
         | exact fc_pI fun x st => fc_pR fun p st => fc_bk fc_wF
         | exact fc_pR fun x st => fc_pR fun p st => fc_rk fc_wF
         | exact fc_pI fun x st => fc_pI fun i st => fc_pR fun p st => fc_bk fc_wA
         | exact fc_pI fun x st => fc_pI fun i st => fc_pR fun p st => fc_wA
         | exact fc_tkA _ _ _ fun as st => fc_ak (fc_wk (fc_call _ _ _ _))
         | exact fc_tkA _ _ _ fun as st => fc_rcv fun p => fc_oK (fc_ak (fc_wk (fc_call _ _ _ _)))
         | exact fc_semX _ _ _ _)
    | (refine fc_pI fun x st => fc_pE ?_
       split
       · exact fc_bk (fc_ret _)
       · exact fc_ret _)
theorem fc_sem (t : Tp) (L : Lc) (st : List V) (s : St) : Fc L s (fun cv lb K => sem cv lb t L st s K) := by
  obtain ⟨pc, ins, a, b, c, e, ls⟩ := t
  cases ins with
  | none => exact fc_lb _ _ _
  | some i => exact fc_semI _ _ _ _ _ _ _ _ _
theorem cX_inv {a : Nat} {o : Res} {K : List V → St → Res} {r : List V × St} (h : cX a o K = some r) : ∃ r1 s1, o = some (r1, s1) ∧ K r1 s1 = some r ∧ ∀ K' : List V → St → Res, cX a (some (r1, s1)) K' = K' r1 s1 := by
  match a with
  | 0 =>
    unfold cX cV at h
    split at h
    · split at h
      · exact ⟨_, _, rfl, h, fun _ => rfl⟩
      · cases h
    all_goals simp at *
  | 1 =>
    unfold cX cI at h
    split at h
    · simp at *
    · split at h
      · exact ⟨_, _, rfl, h, fun _ => rfl⟩
      · cases h
    all_goals simp at *
  | 2 =>
    unfold cX cL at h
    split at h
    · simp at *
    · simp at *
    · split at h
      · exact ⟨_, _, rfl, h, fun _ => rfl⟩
      · cases h
    · simp at *
  | n + 3 =>
    unfold cX cR at h
    split at h
    · simp at *
    · simp at *
    · simp at *
    · split at h
      · exact ⟨_, _, rfl, h, fun _ => rfl⟩
      · cases h
/-- what the limit answers, all but finitely many answer -/
theorem inner_lim {cvE : Hc} {lbE : Hl} {cvF : Nat → Hc} {lbF : Nat → Hl}
    (h1 : ∀ q as s r, cvE q as s = some r → ∃ F0, ∀ F, F0 ≤ F → cvF F q as s = some r) (h2 : ∀ i L st s r, lbE i L st s = some r → ∃ F0, ∀ F, F0 ≤ F → lbF F i L st s = some r) :
    ∀ (n : Nat) (c : List Tp) (L : Lc) (st : List V) (s : St) (r : List V × St), inner cvE lbE n c L st s = some r → ∃ F0, ∀ F, F0 ≤ F → inner (cvF F) (lbF F) n c L st s = some r
  | 0, c, L, st, s, r, h => by cases c <;> simp [inner] at h
  | n + 1, [], L, st, s, r, h => by simp [inner] at h
  | n + 1, t :: c, L, st, s, r, h => by
    simp only [inner] at h ⊢
    have hfc := fc_sem t L st s
    simp only [Fc] at hfc
    rcases hfc with hN | ⟨k, L', st', s', -, -, hK⟩ | ⟨r', hR⟩ | ⟨i, L', st', hL⟩ | ⟨a, q, as, st', hC⟩
    · rw [hN] at h; cases h
    · rw [hK] at h
      obtain ⟨F0, hF⟩ := inner_lim h1 h2 n _ _ _ _ _ h
      exact ⟨F0, fun F hle => by rw [hK]; exact hF F hle⟩
    · rw [hR] at h
      exact ⟨0, fun F _ => by rw [hR]; exact h⟩
    · rw [hL] at h
      obtain ⟨F0, hF⟩ := h2 _ _ _ _ _ h
      exact ⟨F0, fun F hle => by rw [hL]; exact hF F hle⟩
    · rw [hC] at h
      obtain ⟨r1, s1, ho, hk, hX⟩ := cX_inv h
      obtain ⟨F0, hF⟩ := h1 _ _ _ _ ho
      obtain ⟨F1, hF1⟩ := inner_lim h1 h2 n _ _ _ _ _ hk
      refine ⟨max F0 F1, fun F hle => ?_⟩
      rw [hC, hF F (by omega), hX]
      exact hF1 F (by omega)
theorem inner_le {cv cv' : Hc} {lb lb' : Hl} (h1 : ∀ q as s r, cv q as s = some r → cv' q as s = some r) (h2 : ∀ i L st s r, lb i L st s = some r → lb' i L st s = some r)
    {n : Nat} {c : List Tp} {L : Lc} {st : List V} {s : St} {r : List V × St} (h : inner cv lb n c L st s = some r) : inner cv' lb' n c L st s = some r := by
  obtain ⟨F0, hF⟩ := inner_lim (cvE := cv) (lbE := lb) (cvF := fun _ => cv') (lbF := fun _ => lb') (fun q as s r h => ⟨0, fun _ _ => h1 q as s r h⟩) (fun i L st s r h => ⟨0, fun _ _ => h2 i L st s r h⟩) n c L st s r h
  exact hF F0 (Nat.le_refl _)
def hC (f : Nat → Nat → Nat → Lc → List V → St → Res) (d : Nat) : Nat → List V → St → Res := match d with
  | 0 => fun _ _ _ => none
  | d' + 1 => fun q as s => f d' q 0 (ent 0 as) [] s
def ev : Nat → Nat → Nat → Nat → Lc → List V → St → Res
  | 0, _, _, _, _, _, _ => none
  | F + 1, d, j, i, L, st, s => inner (hC (ev F) d) (fun i L st s => ev F d j i L st s) 1000 ((mCode j).drop i) L st s
theorem ev_succ : ∀ (F d j i : Nat) (L : Lc) (st : List V) (s : St) (r : List V × St), ev F d j i L st s = some r → ev (F + 1) d j i L st s = some r
  | 0, d, j, i, L, st, s, r, h => by simp [ev] at h
  | F + 1, d, j, i, L, st, s, r, h => by
    rw [ev] at h ⊢
    refine inner_le ?_ ?_ h
    · intro q as s r h
      cases d with
      | zero => cases h
      | succ d => exact ev_succ F _ _ _ _ _ _ _ h
    · intro i L st s r h
      exact ev_succ F _ _ _ _ _ _ _ h
theorem ev_up {F G d j i : Nat} {L : Lc} {st : List V} {s : St} {r : List V × St} (h : ev F d j i L st s = some r) (hle : F ≤ G) : ev G d j i L st s = some r := by
  obtain ⟨k, rfl⟩ := Nat.le.dest hle
  clear hle
  induction k with
  | zero => exact h
  | succ k ih => exact ev_succ _ _ _ _ _ _ _ _ ih
noncomputable def EV (d j i : Nat) (L : Lc) (st : List V) (s : St) : Res := @dite _ (∃ r, ∃ F, ev F d j i L st s = some r) (Classical.propDecidable _) (fun h => some (Classical.choose h)) (fun _ => none)
theorem EV_of {F d j i : Nat} {L : Lc} {st : List V} {s : St} {r : List V × St} (h : ev F d j i L st s = some r) : EV d j i L st s = some r := by
  have hx : ∃ r, ∃ F, ev F d j i L st s = some r := ⟨r, F, h⟩
  unfold EV
  rw [dif_pos hx]
  obtain ⟨G, hG⟩ := Classical.choose_spec hx
  have h1 := ev_up hG (Nat.le_max_left G F)
  have h2 := ev_up h (Nat.le_max_right G F)
  rw [h1] at h2
  exact h2
theorem EV_get {d j i : Nat} {L : Lc} {st : List V} {s : St} {r : List V × St} (h : EV d j i L st s = some r) : ∃ F, ev F d j i L st s = some r := by
  by_cases hx : ∃ r, ∃ F, ev F d j i L st s = some r
  · unfold EV at h
    rw [dif_pos hx] at h
    obtain ⟨G, hG⟩ := Classical.choose_spec hx
    rw [← Option.some.inj h]
    exact ⟨G, hG⟩
  · unfold EV at h
    rw [dif_neg hx] at h
    cases h
theorem EV_all {d j i : Nat} {L : Lc} {st : List V} {s : St} {r : List V × St} (h : EV d j i L st s = some r) : ∃ F0, ∀ F, F0 ≤ F → ev F d j i L st s = some r := by
  obtain ⟨F0, h0⟩ := EV_get h
  exact ⟨F0, fun F hle => ev_up h0 hle⟩
theorem EV_eq (d j i : Nat) (L : Lc) (st : List V) (s : St) : EV d j i L st s = inner (hC EV d) (fun i L st s => EV d j i L st s) 1000 ((mCode j).drop i) L st s := by
  have to : ∀ r, EV d j i L st s = some r → inner (hC EV d) (fun i L st s => EV d j i L st s) 1000 ((mCode j).drop i) L st s = some r := by
    intro r h
    obtain ⟨F, hF⟩ := EV_get h
    cases F with
    | zero => simp [ev] at hF
    | succ F =>
      rw [ev] at hF
      refine inner_le ?_ (fun i L st s r h => EV_of h) hF
      intro q as s r h
      cases d with
      | zero => cases h
      | succ d => exact EV_of h
  have fro : ∀ r, inner (hC EV d) (fun i L st s => EV d j i L st s) 1000 ((mCode j).drop i) L st s = some r → EV d j i L st s = some r := by
    intro r h
    obtain ⟨F0, hF⟩ := inner_lim (cvF := fun F => hC (ev F) d) (lbF := fun F i L st s => ev F d j i L st s) (by
      intro q as s r h
      cases d with
      | zero => cases h
      | succ d => exact EV_all h) (fun i L st s r h => EV_all h) _ _ _ _ _ _ h
    exact EV_of (F := F0 + 1) (by rw [ev]; exact hF F0 (Nat.le_refl _))
  cases h : EV d j i L st s with
  | some r => exact (to r h).symm
  | none =>
    cases h2 : inner (hC EV d) (fun i L st s => EV d j i L st s) 1000 ((mCode j).drop i) L st s with
    | none => rfl
    | some r => rw [fro r h2] at h; cases h
theorem inner_nx {cv : Hc} {lb : Hl} (h1 : ∀ q as s r, cv q as s = some r → nx s ≤ nx r.2 ∧ sl s ≤ sl r.2) (h2 : ∀ i L st s r, lb i L st s = some r → nx s ≤ nx r.2 ∧ sl s ≤ sl r.2) :
    ∀ (n : Nat) (c : List Tp) (L : Lc) (st : List V) (s : St) (r : List V × St), inner cv lb n c L st s = some r → nx s ≤ nx r.2 ∧ sl s ≤ sl r.2
  | 0, c, L, st, s, r, h => by cases c <;> simp [inner] at h
  | n + 1, [], L, st, s, r, h => by simp [inner] at h
  | n + 1, t :: c, L, st, s, r, h => by
    simp only [inner] at h
    have hfc := fc_sem t L st s
    simp only [Fc] at hfc
    rcases hfc with hN | ⟨k, L', st', s', g1, g2, hK⟩ | ⟨r', hR⟩ | ⟨i, L', st', hL⟩ | ⟨a, q, as, st', hC⟩
    · rw [hN] at h; cases h
    · rw [hK] at h
      have := inner_nx h1 h2 n _ _ _ _ _ h
      omega
    · rw [hR] at h
      cases h
      exact ⟨Int.le_refl _, Int.le_refl _⟩
    · rw [hL] at h
      exact h2 _ _ _ _ _ h
    · rw [hC] at h
      obtain ⟨r1, s1, ho, hk, hX⟩ := cX_inv h
      have g1 := h1 _ _ _ _ ho
      have g2 := inner_nx h1 h2 n _ _ _ _ _ hk
      dsimp only at g1
      omega
theorem ev_nx : ∀ (F d j i : Nat) (L : Lc) (st : List V) (s : St) (r : List V × St), ev F d j i L st s = some r → nx s ≤ nx r.2 ∧ sl s ≤ sl r.2
  | 0, d, j, i, L, st, s, r, h => by simp [ev] at h
  | F + 1, d, j, i, L, st, s, r, h => by
    rw [ev] at h
    refine inner_nx ?_ (fun i L st s r h => ev_nx F _ _ _ _ _ _ _ h) _ _ _ _ _ _ h
    intro q as s r h
    cases d with
    | zero => cases h
    | succ d => exact ev_nx F _ _ _ _ _ _ _ h
