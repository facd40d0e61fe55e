/-! ===== every run of the evaluator is the machine's ===== -/
theorem ent_lm (E : Ev0) : ∀ (as : List V) (i : Nat), lv_args i (as.map (mv E)) = (ent i as).map (lm E)
  | [], _ => rfl
  | (2, x) :: as, i => by
    show (i, mv E (2, x)) :: lv_args (i + 2) (as.map (mv E)) = (i, mv E (2, x)) :: (ent (i + 2) as).map (lm E)
    rw [ent_lm E as (i + 2)]
  | (0, x) :: as, i => by
    show (i, mv E (0, x)) :: lv_args (i + 1) (as.map (mv E)) = (i, mv E (0, x)) :: (ent (i + 1) as).map (lm E)
    rw [ent_lm E as (i + 1)]
  | (1, x) :: as, i => by
    have hc : (mv E (1, x)).category = 1 := cat1 E (by simp)
    show (i, mv E (1, x)) :: lv_args (if (mv E (1, x)).category = 2 then i + 2 else i + 1) (as.map (mv E)) = (i, mv E (1, x)) :: (ent (i + 1) as).map (lm E)
    rw [hc, if_neg (by decide), ent_lm E as (i + 1)]
  | (n + 3, x) :: as, i => by
    show (i, mv E (n + 3, x)) :: lv_args (i + 1) (as.map (mv E)) = (i, mv E (n + 3, x)) :: (ent (i + 1) as).map (lm E)
    rw [ent_lm E as (i + 1)]
theorem sl_len (E : Ev0) : ∀ as : List V, (lg_sl (as.map (mv E))).length = wt as
  | [] => rfl
  | v :: as => by
    have hc := mv_cat E v
    have ih := sl_len E as
    unfold lg_sl at ih ⊢
    rw [List.map_cons, List.flatMap_cons, List.length_append, ih]
    show _ = (bif Nat.beq v.1 2 then 2 else 1) + wt as
    by_cases h : v.1 = 2
    · rw [if_pos h] at hc
      rw [if_pos hc, h]
      rfl
    · rw [if_neg h] at hc
      rw [if_neg (by rw [hc]; decide)]
      cases hb : Nat.beq v.1 2 with
      | true => exact absurd (Nat.eq_of_beq_eq_true hb) h
      | false => rfl
theorem ent_ty {s : St} : ∀ {as : List V} {i : Nat}, (∀ v ∈ as, tvV s v) → ∀ q ∈ ent i as, tvV s q.2
  | [], _, _, q, hq => by cases hq
  | (2, x) :: as, i, h, q, hq => by
    rw [List.forall_mem_cons] at h
    rcases List.mem_cons.mp hq with rfl | hq
    · exact h.1
    · exact ent_ty h.2 q hq
  | (0, x) :: as, i, h, q, hq => by
    rw [List.forall_mem_cons] at h
    rcases List.mem_cons.mp hq with rfl | hq
    · exact h.1
    · exact ent_ty h.2 q hq
  | (1, x) :: as, i, h, q, hq => by
    rw [List.forall_mem_cons] at h
    rcases List.mem_cons.mp hq with rfl | hq
    · exact h.1
    · exact ent_ty h.2 q hq
  | (_ + 3, x) :: as, i, h, q, hq => by
    rw [List.forall_mem_cons] at h
    rcases List.mem_cons.mp hq with rfl | hq
    · exact h.1
    · exact ent_ty h.2 q hq
theorem chk_drop {j : Nat} {full : List Tp} : ∀ {c : List Tp} (k : Nat), chk j full c = true → chk j full (c.drop k) = true
  | [], k, h => by rw [List.drop_nil]; rfl
  | t :: c, 0, h => h
  | t :: c, k + 1, h => by
    unfold chk at h
    rw [Bool.and_eq_true] at h
    rw [List.drop_succ_cons]
    exact chk_drop k h.2
section ALL
variable {E : Ev0} {A : Nat → Prop} {l : Launch} {p : Program} {e : Env} {R : Room} {z : State} {m : MethodId} {args : Array Value} {below : List Frame} {meth : Method} {c : Code} {j : Nat} {s0 : St} {d mc ms : Nat} {rf : List V × St} {full : List Tp} {cv : Hc} {lb : Hl}
theorem snd_inner (C : Cx E A p z m args c (mC j) (mN j) (mOw j)) (hj : j < 286) (hlk : meth.locks = false) (hret : meth.sig.returnType = mR j) (hnm : meth.name = (mY j).name) (hR : R = rmD d mc ms) (hmc : (mc : Int) = nx rf.2 - nx s0) (hms : (ms : Int) = sl rf.2 - sl s0)
    (hcv : ∀ q as s r, cv q as s = some r → q < 286 → as.length = mNa q → wt as ≤ mN q → nx s ≤ nx r.2 ∧ sl s ≤ sl r.2 ∧ ∃ d', d = d' + 1 ∧ ((∀ v ∈ as, tvV s v) → MX E l d' q as s r.1 r.2)) (hlb : ∀ i L st s, lb i L st s = some rf → Go E A l p e R z m args below meth c (mN j) s0 (MQ below (Qx E A rf.1 rf.2 s0) args z mc ms A) (hdPc (full.drop i)) L st s)
    (hcn : ∀ q as s r, cv q as s = some r → nx s ≤ nx r.2 ∧ sl s ≤ sl r.2) (hln : ∀ i L st s r, lb i L st s = some r → nx s ≤ nx r.2 ∧ sl s ≤ sl r.2) :
    ∀ (n : Nat) (c1 : List Tp) (L : Lc) (st : List V) (s : St), chk j full c1 = true → inner cv lb n c1 L st s = some rf → Go E A l p e R z m args below meth c (mN j) s0 (MQ below (Qx E A rf.1 rf.2 s0) args z mc ms A) (hdPc c1) L st s
  | 0, c1, L, st, s, _, h => by cases c1 <;> simp [inner] at h
  | n + 1, [], L, st, s, _, h => by simp [inner] at h
  | n + 1, t :: c1, L, st, s, hck, h => by
    unfold chk at hck
    rw [Bool.and_eq_true] at hck
    obtain ⟨hk1, hk2⟩ := hck
    have h : sem cv lb t L st s (fun k L st s => inner cv lb n (c1.drop k) L st s) = some rf := h
    obtain ⟨pc, ins, a, b, k, e1, ls⟩ := t
    cases ins with
    | none =>
      have h : lb b (pick L ls) st s = some rf := h
      have hp : hdPc (full.drop b) = pc := by
        have : (hdPc (full.drop b) == pc) = true := hk1
        exact beq_iff_eq.mp this
      have hg := hlb _ _ _ _ h
      rw [hp] at hg
      exact Go.pick hg
    | some i =>
      have hk1 : (match decode (mC j) pc with
        | .ok (i', len) => decide (i' = i) && iok j full pc i len a b k e1 ls c1
        | _ => false) = true := hk1
      cases hd : decode (mC j) pc with
      | error q => rw [hd] at hk1; cases hk1
      | ok q =>
        obtain ⟨i', len⟩ := q
        rw [hd] at hk1
        simp only [Bool.and_eq_true, decide_eq_true_eq] at hk1
        obtain ⟨rfl, hok⟩ := hk1
        exact snd_semI (K := fun k L st s => inner cv lb n (c1.drop k) L st s) C hj hlk hret hnm hR hmc hms hcv hlb (fun k L st s hk => snd_inner C hj hlk hret hnm hR hmc hms hcv hlb hcn hln n (c1.drop k) L st s (chk_drop k hk2) hk) (fun k L st s hk => inner_nx hcn hln n _ _ _ _ _ hk) hd hok h
end ALL
theorem snd_MX {E : Ev0} {l : Launch} {d j : Nat} {as r : List V} {s s' : St} (hj : j < 286) (h0 : hdPc (mCode j) = 0) (hwt : wt as ≤ mN j) (hty : ∀ v ∈ as, tvV s v)
    (hgo : ∀ (mc ms : Nat), (mc : Int) = nx s' - nx s → (ms : Int) = sl s' - sl s → ∀ (p : Program) (e : Env) (z : State) (m : MethodId) (args : Array Value) (below : List Frame) (meth : Method) (c : Code), Cx E (oA E s) p z m args c (mC j) (mN j) (mOw j) → meth.locks = false → meth.sig.returnType = mR j → meth.name = (mY j).name →
      Go E (oA E s) l p e (rmD d mc ms) z m args below meth c (mN j) s (MQ below (Qx E (oA E s) r s' s) args z mc ms (oA E s)) (hdPc (mCode j)) (ent 0 as) [] s) : MX E l d j as s r s' := by
  intro mc ms hmc hms
  obtain ⟨f1, f2, f3, f4, -⟩ := m_facts hj
  refine Met.ofW (cc := mC j) (maxL := mN j) (ret := mR j) (ws' := lw_good) f4 rfl ?_
  intro p e z m args below meth c s₁ B hml hv
  obtain ⟨rfl, hp, hK, hX, hn0⟩ := hv
  have hts : ∀ w ∈ wsJ j, w.before (as.map (mv E)).toArray z = true := atoms_spec (ws := wsJ j) B.pre
  have hown : z.vm.findClass (mY j).cls = some m.cls := findClass_of_methodNamed B.named
  rw [f2] at hown
  have hsz := hp.2.1
  have hC : Cx E (oA E s) p z m (as.map (mv E)).toArray c (mC j) (mN j) (mOw j) := by
    refine ⟨B.exec, B.bytes, hml, hown, fun w hw => hts w (List.mem_cons_of_mem _ hw), hK, hX, fun q hq => Or.inr (by omega), fun q hq => ?_, hn0⟩
    rcases hq with ⟨x, hx, rfl⟩ | hq
    · have := (hp.1 x hx).1
      omega
    · omega
  have hl := lv_entry (as.map (mv E)) (n := mN j) (by rw [sl_len]; exact hwt)
  rw [ent_lm] at hl
  rw [lg_entry_eq]
  have hg := hgo mc ms hmc hms p e z m _ below meth c hC B.notSynchronized B.returns (name_of_methodNamed B.named B.method).1
  rw [h0] at hg
  exact hg z.heap [] 0 0 _ ⟨hp, va_S.rf, fun x hx => Or.inl ⟨x, hx, rfl⟩, hl, ent_ty hty, (fun v hv => absurd hv List.not_mem_nil), ext.rf s, (by show (0 : Int) = _; omega), (by show (0 : Int) = _; omega)⟩
/-- a method's code list begins at 0 and is what its bytes say -/
theorem snd_ev (ck : CkAll) {E : Ev0} {l : Launch} : ∀ (F d j i : Nat) (L : Lc) (st : List V) (s : St) (rf : List V × St), ev F d j i L st s = some rf → j < 286 →
    ∀ (A : Nat → Prop) (p : Program) (e : Env) (z : State) (m : MethodId) (args : Array Value) (below : List Frame) (meth : Method) (c : Code) (s0 : St) (mc ms : Nat), Cx E A p z m args c (mC j) (mN j) (mOw j) → meth.locks = false → meth.sig.returnType = mR j → meth.name = (mY j).name → (mc : Int) = nx rf.2 - nx s0 → (ms : Int) = sl rf.2 - sl s0 →
      Go E A l p e (rmD d mc ms) z m args below meth c (mN j) s0 (MQ below (Qx E A rf.1 rf.2 s0) args z mc ms A) (hdPc ((mCode j).drop i)) L st s
  | 0, d, j, i, L, st, s, rf, h, _ => by cases h
  | F + 1, d, j, i, L, st, s, rf, h, hj => by
    intro A p e z m args below meth c s0 mc ms C h1 h2 h3 h4 h5
    rw [ev] at h
    have hcn : ∀ q as s r, hC (ev F) d q as s = some r → nx s ≤ nx r.2 ∧ sl s ≤ sl r.2 := by
      intro q as s r h
      cases d with
      | zero => cases h
      | succ d => exact ev_nx F _ _ _ _ _ _ _ h
    refine snd_inner C hj h1 h2 h3 rfl h4 h5 ?_ (fun i L st s hl => snd_ev ck F d j i L st s rf hl hj A p e z m args below meth c s0 mc ms C h1 h2 h3 h4 h5) hcn (fun i L st s r hl => ev_nx F _ _ _ _ _ _ _ hl) _ _ _ _ _ (chk_drop i (ck j hj).2) h
    intro q as s1 r hq hq1 hq2 hq3
    obtain ⟨n1, n2⟩ := hcn q as s1 r hq
    refine ⟨n1, n2, ?_⟩
    cases d with
    | zero => cases hq
    | succ d' =>
      refine ⟨d', rfl, fun hty => snd_MX hq1 (ck q hq1).1 hq3 hty (fun mc ms e1 e2 p e z m args below meth c C g1 g2 g3 => ?_)⟩
      have hg := snd_ev (l := l) ck F d' q 0 (ent 0 as) [] s1 r hq hq1 (oA E s1) p e z m args below meth c s1 mc ms C g1 g2 g3 e1 e2
      rw [List.drop_zero] at hg
      exact hg
/-- THE BRIDGE: what the evaluator answers of a method, the machine does -/
theorem sound (ck : CkAll) {E : Ev0} {l : Launch} {d j : Nat} {as : List V} {s : St} {r : List V × St} (hj : j < 286) (hwt : wt as ≤ mN j) (hty : ∀ v ∈ as, tvV s v) (h : EV d j 0 (ent 0 as) [] s = some r) : MX E l d j as s r.1 r.2 := by
  obtain ⟨F, hF⟩ := EV_get h
  refine snd_MX hj (ck j hj).1 hwt hty (fun mc ms e1 e2 p e z m args below meth c C g1 g2 g3 => ?_)
  have hg := snd_ev (l := l) ck F d j 0 (ent 0 as) [] s r hF hj (oA E s) p e z m args below meth c s mc ms C g1 g2 g3 e1 e2
  rw [List.drop_zero] at hg
  exact hg
