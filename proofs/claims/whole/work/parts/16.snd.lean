/-! what a step that goes on had on its stack -/
theorem pI_inv {st : List V} {K : Int → List V → Res} {r : List V × St} (h : pI st K = some r) : ∃ x st', st = (0, x) :: st' ∧ K x st' = some r := by
  unfold pI at h
  split at h
  · exact ⟨_, _, rfl, h⟩
  · cases h
theorem pJ_inv {st : List V} {K : Int → List V → Res} {r : List V × St} (h : pJ st K = some r) : ∃ x st', st = (2, x) :: st' ∧ K x st' = some r := by
  unfold pJ at h
  split at h
  · exact ⟨_, _, rfl, h⟩
  · cases h
theorem pR_inv {st : List V} {K : Int → List V → Res} {r : List V × St} (h : pR st K = some r) : ∃ x st', st = (1, x) :: st' ∧ K x st' = some r := by
  unfold pR at h
  split at h
  · exact ⟨_, _, rfl, h⟩
  · cases h
theorem pS_inv {st : List V} {K : Int → List V → Res} {r : List V × St} (h : pS st K = some r) : ∃ x st', st = (3, x) :: st' ∧ K x st' = some r := by
  unfold pS at h
  split at h
  · exact ⟨_, _, rfl, h⟩
  · cases h
theorem pQ_inv {st : List V} {K : V → List V → Res} {r : List V × St} (h : pQ st K = some r) : ∃ v st', st = v :: st' ∧ isQ v ∧ K v st' = some r := by
  unfold pQ at h
  split at h
  · exact ⟨_, _, rfl, Or.inl rfl, h⟩
  · exact ⟨_, _, rfl, Or.inr rfl, h⟩
  · cases h
theorem p1_inv {st : List V} {K : V → List V → Res} {r : List V × St} (h : p1 st K = some r) : ∃ v st', st = v :: st' ∧ v.1 ≠ 2 ∧ K v st' = some r := by
  unfold p1 at h
  split at h
  · exact ⟨_, _, rfl, by simp, h⟩
  · exact ⟨_, _, rfl, by simp, h⟩
  · exact ⟨_, _, rfl, by simp, h⟩
  · cases h
theorem pE_inv {st : List V} {o : Res} {r : List V × St} (h : pE st o = some r) : st = [] ∧ o = some r := by
  unfold pE at h
  split at h
  · exact ⟨rfl, h⟩
  · cases h
theorem ldI_inv {L : Lc} {i : Nat} {K : Int → Res} {r : List V × St} (h : ldI L i K = some r) : ∃ x, lk L i = some (0, x) ∧ K x = some r := by
  unfold ldI at h
  split at h
  · exact ⟨_, by assumption, h⟩
  · cases h
theorem ldJ_inv {L : Lc} {i : Nat} {K : Int → Res} {r : List V × St} (h : ldJ L i K = some r) : ∃ x, lk L i = some (2, x) ∧ K x = some r := by
  unfold ldJ at h
  split at h
  · exact ⟨_, by assumption, h⟩
  · cases h
theorem ldR_inv {L : Lc} {i : Nat} {K : V → Res} {r : List V × St} (h : ldR L i K = some r) : ∃ v, lk L i = some v ∧ isQ v ∧ K v = some r := by
  unfold ldR at h
  split at h
  · exact ⟨_, by assumption, Or.inl rfl, h⟩
  · exact ⟨_, by assumption, Or.inr rfl, h⟩
  · cases h
theorem ite_inv {P : Prop} [Decidable P] {a : Res} {r : List V × St} (h : (if P then a else none) = some r) : P ∧ a = some r := by
  by_cases hp : P
  · rw [if_pos hp] at h; exact ⟨hp, h⟩
  · rw [if_neg hp] at h; cases h
theorem nite_inv {P : Prop} [Decidable P] {a : Res} {r : List V × St} (h : (if P then none else a) = some r) : ¬ P ∧ a = some r := by
  by_cases hp : P
  · rw [if_pos hp] at h; cases h
  · rw [if_neg hp] at h; exact ⟨hp, h⟩
theorem bk_inv {x : Int} {o : Res} {r : List V × St} (h : bk x o = some r) : (x = 0 ∨ x = 1) ∧ o = some r := by
  unfold bk at h
  split at h
  · exact ⟨Or.inl rfl, h⟩
  · exact ⟨Or.inr rfl, h⟩
  · cases h
theorem wk_inv {st : List V} {o : Res} {r : List V × St} (h : wk st o = some r) : wt st ≤ 8 ∧ o = some r := by
  unfold wk at h
  cases hb : Nat.ble (wt st) 8 with
  | false => rw [hb] at h; cases h
  | true => rw [hb] at h; exact ⟨Nat.le_of_ble_eq_true hb, h⟩
theorem ak_inv {as : List V} {n : Nat} {o : Res} {r : List V × St} (h : ak as n o = some r) : wt as ≤ n ∧ o = some r := by
  unfold ak at h
  cases hb : Nat.ble (wt as) n with
  | false => rw [hb] at h; cases h
  | true => rw [hb] at h; exact ⟨Nat.le_of_ble_eq_true hb, h⟩
theorem tkA_inv : ∀ {n : Nat} {st acc : List V} {K : List V → List V → Res} {r : List V × St}, tkA n st acc K = some r → ∃ as st', st = as.reverse ++ st' ∧ as.length = n ∧ K (as ++ acc) st' = some r
  | 0, st, acc, K, r, h => ⟨[], st, rfl, rfl, h⟩
  | n + 1, v :: st, acc, K, r, h => by
    obtain ⟨as, st', h1, h2, h3⟩ := tkA_inv (n := n) (acc := v :: acc) h
    exact ⟨as ++ [v], st', by rw [h1]; simp, by simp [h2], by rw [List.append_assoc]; exact h3⟩
  | n + 1, [], acc, K, r, h => by cases h
theorem rcv_inv {as : List V} {K : Int → Res} {r : List V × St} (h : rcv as K = some r) : ∃ x as', as = (1, x) :: as' ∧ K x = some r := by
  unfold rcv at h
  split at h
  · exact ⟨_, _, rfl, h⟩
  · cases h
theorem cX_len {a : Nat} {o : Res} {K : List V → St → Res} {r : List V × St} (h : cX a o K = some r) : ∃ r1 s1, o = some (r1, s1) ∧ K r1 s1 = some r ∧ r1.length ≤ 1 ∧ (a = 0 → r1 = []) := by
  match a with
  | 0 =>
    unfold cX cV at h
    split at h
    · split at h
      · exact ⟨_, _, rfl, h, Nat.zero_le _, fun _ => rfl⟩
      · cases h
    all_goals simp at *
  | 1 =>
    unfold cX cI at h
    split at h
    · simp at *
    · split at h
      · exact ⟨_, _, rfl, h, Nat.le_refl _, fun q => by cases q⟩
      · cases h
    all_goals simp at *
  | 2 =>
    unfold cX cL at h
    split at h
    · simp at *
    · simp at *
    · split at h
      · exact ⟨_, _, rfl, h, Nat.le_refl _, fun q => by cases q⟩
      · cases h
    · simp at *
  | n + 3 =>
    unfold cX cR at h
    split at h
    · simp at *
    · simp at *
    · simp at *
    · split at h
      · exact ⟨_, _, rfl, h, Nat.le_refl _, fun q => by cases q⟩
      · cases h

section SND
variable {E : Ev0} {A : Nat → Prop} {l : Launch} {p : Program} {e : Env} {R : Room} {z : State} {m : MethodId} {args : Array Value} {below : List Frame} {meth : Method} {c : Code} {j : Nat} {s0 : St} {d mc ms : Nat} {rf : List V × St} {full c1 : List Tp} {cv : Hc} {lb K : Hl}
theorem jm_ok {pc b : Nat} {off : Int} {c1 : List Tp} (h : jmK pc off c1 b = true) : (pc : Int) + off = (hdPc (c1.drop b) : Int) := by
  unfold jmK at h
  exact (beq_iff_eq.mp h).symm
theorem snd_sw {pc : Nat} {L : Lc} {st : List V} {s : St} {x : Int} (C : Cx E A p z m args c (mC j) (mN j) (mOw j)) (hK : ∀ k L st s, K k L st s = some rf → Go E A l p e R z m args below meth c (mN j) s0 (MQ below (Qx E A rf.1 rf.2 s0) args z mc ms A) (hdPc (c1.drop k)) L st s) {dflt lo hi : Int} {offs : Array Int} {len b : Nat} {ls : List Nat} (d : decode (mC j) pc = .ok (.tableswitch dflt lo hi offs, len)) (o1 : jmK pc dflt c1 b = true) (o2 : hi = lo + (ls.length : Int) - 1) (o3 : swOk pc c1 offs.toList ls = true)
    (h : swt x (fun k => K k L st s) lo ls b = some rf) : Go E A l p e R z m args below meth c (mN j) s0 (MQ below (Qx E A rf.1 rf.2 s0) args z mc ms A) pc L ((0, x) :: st) s := fun H locs cells slots ls' I => by
  have hty := I.ty
  rw [List.forall_mem_cons] at hty
  have hx : rg x := hty.1
  have key : ∀ (os : List Int) (ls : List Nat) (a : Int), swOk pc c1 os ls = true → swt x (fun k => K k L st s) a ls b = some rf → (∃ (i : Nat) (o : Int) (k : Nat), os[i]? = some o ∧ x = a + (i : Int) ∧ i < ls.length ∧ jmK pc o c1 k = true ∧ K k L st s = some rf) ∨ ((x < a ∨ a + (ls.length : Int) ≤ x) ∧ K b L st s = some rf) := by
    intro os
    induction os with
    | nil =>
      intro ls a h1 h2
      cases ls with
      | nil => exact Or.inr ⟨by simp; omega, h2⟩
      | cons k ks => cases h1
    | cons o os ih =>
      intro ls a h1 h2
      cases ls with
      | nil => cases h1
      | cons k ks =>
        unfold swOk at h1
        rw [Bool.and_eq_true] at h1
        unfold swt at h2
        by_cases hxa : x = a
        · rw [if_pos hxa] at h2
          exact Or.inl ⟨0, o, k, rfl, by simp [hxa], by simp, h1.1, h2⟩
        · rw [if_neg hxa] at h2
          rcases ih ks (a + 1) h1.2 h2 with ⟨i, o', k', q1, q2, q3, q4, q5⟩ | ⟨q1, q2⟩
          · exact Or.inl ⟨i + 1, o', k', q1, by omega, by simp; omega, q4, q5⟩
          · exact Or.inr ⟨by simp; omega, q2⟩
  rcases key _ _ _ o3 h with ⟨i, o, k, q1, q2, q3, q4, q5⟩ | ⟨q1, q2⟩
  · refine lv_tableIn (tgt := hdPc (c1.drop k)) C.1 C.2.1 d (by rw [i_to hx]; omega) (by rw [i_to hx]; omega) (off := o) ?_ (jm_ok q4) (hK _ _ _ _ q5 H locs cells slots ls' (I.stk hty.2))
    rw [i_to hx, show (x - lo).toNat = i by omega]
    rw [← Array.getElem?_toList]
    exact q1
  · exact lv_tableOut (tgt := hdPc (c1.drop b)) C.1 C.2.1 d (by rw [i_to hx]; omega) (jm_ok o1) (hK _ _ _ _ q2 H locs cells slots ls' (I.stk hty.2))
theorem snd_lk {pc : Nat} {L : Lc} {st : List V} {s : St} {x a : Int} (C : Cx E A p z m args c (mC j) (mN j) (mOw j)) (hK : ∀ k L st s, K k L st s = some rf → Go E A l p e R z m args below meth c (mN j) s0 (MQ below (Qx E A rf.1 rf.2 s0) args z mc ms A) (hdPc (c1.drop k)) L st s) {dflt : Int} {ps : Array (Int × Int)} {len b : Nat} {ls : List Nat} (d : decode (mC j) pc = .ok (.lookupswitch dflt ps, len)) (o1 : jmK pc dflt c1 b = true) (o2 : (ps.toList.zip (ps.toList.drop 1)).all (fun (a, next) => a.1 < next.1) = true) (o3 : lkOk pc c1 a ps.toList ls = true)
    (h : swt x (fun k => K k L st s) a ls b = some rf) : Go E A l p e R z m args below meth c (mN j) s0 (MQ below (Qx E A rf.1 rf.2 s0) args z mc ms A) pc L ((0, x) :: st) s := fun H locs cells slots ls' I => by
  have hty := I.ty
  rw [List.forall_mem_cons] at hty
  have hx : rg x := hty.1
  have key : ∀ (os : List (Int × Int)) (ls : List Nat) (a : Int), lkOk pc c1 a os ls = true → swt x (fun k => K k L st s) a ls b = some rf → ∃ o k, Op.lookupswitch.offset os dflt x = o ∧ jmK pc o c1 k = true ∧ K k L st s = some rf := by
    intro os
    induction os with
    | nil =>
      intro ls a h1 h2
      cases ls with
      | nil => exact ⟨dflt, b, rfl, o1, h2⟩
      | cons k ks => cases h1
    | cons o os ih =>
      intro ls a h1 h2
      obtain ⟨kk, oo⟩ := o
      cases ls with
      | nil => cases h1
      | cons k ks =>
        unfold lkOk at h1
        rw [Bool.and_eq_true, Bool.and_eq_true, beq_iff_eq] at h1
        obtain ⟨⟨rfl, h3⟩, h4⟩ := h1
        unfold swt at h2
        rw [Op.lookupswitch.offset_cons]
        by_cases hxa : x = kk
        · rw [if_pos hxa] at h2
          rw [if_pos hxa.symm]
          exact ⟨oo, k, rfl, h3, h2⟩
        · rw [if_neg hxa] at h2
          rw [if_neg (fun q => hxa q.symm)]
          exact ih ks _ h4 h2
  obtain ⟨o, k, q1, q2, q3⟩ := key _ _ _ o3 h
  exact lv_lookup (tgt := hdPc (c1.drop k)) C.1 C.2.1 d o2 (by rw [i_to hx]; exact q1) (jm_ok q2) (hK _ _ _ _ q3 H locs cells slots ls' (I.stk hty.2))
set_option maxHeartbeats 4000000 in
theorem snd_semI {pc len : Nat} {ins : Instr} {a : Int} {b k e1 : Nat} {ls : List Nat} {L : Lc} {st : List V} {s : St} (C : Cx E A p z m args c (mC j) (mN j) (mOw j)) (hj : j < 286) (hlk : meth.locks = false) (hret : meth.sig.returnType = mR j) (hnm : meth.name = (mY j).name) (hR : R = rmD d mc ms) (hmc : (mc : Int) = nx rf.2 - nx s0) (hms : (ms : Int) = sl rf.2 - sl s0)
    (hcv : ∀ q as s r, cv q as s = some r → q < 286 → as.length = mNa q → wt as ≤ mN q → nx s ≤ nx r.2 ∧ sl s ≤ sl r.2 ∧ ∃ d', d = d' + 1 ∧ ((∀ v ∈ as, tvV s v) → MX E l d' q as s r.1 r.2)) (hlb : ∀ i L st s, lb i L st s = some rf → Go E A l p e R z m args below meth c (mN j) s0 (MQ below (Qx E A rf.1 rf.2 s0) args z mc ms A) (hdPc (full.drop i)) L st s)
    (hK : ∀ k L st s, K k L st s = some rf → Go E A l p e R z m args below meth c (mN j) s0 (MQ below (Qx E A rf.1 rf.2 s0) args z mc ms A) (hdPc (c1.drop k)) L st s) (hKn : ∀ k L st s, K k L st s = some rf → nx s ≤ nx rf.2 ∧ sl s ≤ sl rf.2)
    (hd : decode (mC j) pc = .ok (ins, len)) (ok : iok j full pc ins len a b k e1 ls c1 = true) (h : semI cv lb ins a b k e1 ls L st s K = some rf) : Go E A l p e R z m args below meth c (mN j) s0 (MQ below (Qx E A rf.1 rf.2 s0) args z mc ms A) pc L st s := by
  have hK0 : ∀ n L st s, hdPc c1 = pc + n → K 0 L st s = some rf → Go E A l p e R z m args below meth c (mN j) s0 (MQ below (Qx E A rf.1 rf.2 s0) args z mc ms A) (pc + n) L st s := fun n L st s hn hk => by
    have := hK 0 L st s hk
    rw [List.drop_zero, hn] at this
    exact this
  have hRc : R.cells = mc := by rw [hR]; rfl
  have hRs : R.slots = ms := by rw [hR]; rfl
  have hRf : R.frames = d + 4 := by rw [hR]; rfl
  have hRl : R.locals = 64 * d + 256 := by rw [hR]; rfl
  have jok : ∀ {st : List V} {s : St}, wt st ≤ 8 → nx s ≤ nx rf.2 ∧ sl s ≤ sl rf.2 → JOk R s s0 st := fun h1 h2 => ⟨h1, by omega, by omega, by omega, by omega⟩
  cases ins
  case iconst n =>
    simp only [iok, Bool.and_eq_true, beq_iff_eq, decide_eq_true_eq] at ok
    obtain ⟨⟨rfl, hn⟩, o1⟩ := ok
    exact g_iconst C hd (rgB_ok o1) (hK0 _ _ _ _ hn h)
  case bipush n =>
    simp only [iok, Bool.and_eq_true, beq_iff_eq, decide_eq_true_eq] at ok
    obtain ⟨⟨rfl, hn⟩, o1, o2⟩ := ok
    exact g_bipush C hd (rgB_ok o1) o2 (hK0 _ _ _ _ hn h)
  case sipush n =>
    simp only [iok, Bool.and_eq_true, beq_iff_eq, decide_eq_true_eq] at ok
    obtain ⟨⟨rfl, hn⟩, o1, o2⟩ := ok
    exact g_sipush C hd (rgB_ok o1) o2 (hK0 _ _ _ _ hn h)
  case lconst n =>
    simp only [iok, Bool.and_eq_true, beq_iff_eq, decide_eq_true_eq] at ok
    obtain ⟨⟨rfl, hn⟩, o1, o2⟩ := ok
    exact g_lconst C hd (rg_rl (rgB_ok o2)) o1 (hK0 _ _ _ _ hn h)
  case ldc_w n =>
    simp only [iok, Bool.and_eq_true, beq_iff_eq, decide_eq_true_eq] at ok
    obtain ⟨⟨rfl, hn⟩, o1⟩ := ok
    exact g_ldcw C hd (inI_ok o1).2 (inI_ok o1).1 (hK0 _ _ _ _ hn h)
  case ldc2_w n =>
    simp only [iok, Bool.and_eq_true, beq_iff_eq, decide_eq_true_eq] at ok
    obtain ⟨⟨rfl, hn⟩, o1⟩ := ok
    exact g_ldc2 C hd (inJ_ok o1).2 (inJ_ok o1).1 (hK0 _ _ _ _ hn h)
  case aconst_null =>
    simp only [iok, Bool.and_eq_true, beq_iff_eq, decide_eq_true_eq] at ok
    obtain ⟨rfl, hn⟩ := ok
    exact g_null C hd (hK0 _ _ _ _ hn h)
  case ldc n =>
    cases k with
    | zero =>
      simp only [iok, Bool.and_eq_true, beq_iff_eq, decide_eq_true_eq] at ok
      obtain ⟨⟨rfl, hn⟩, o1⟩ := ok
      exact g_ldc C hd (inI_ok o1).2 (inI_ok o1).1 (hK0 _ _ _ _ hn h)
    | succ k =>
      simp only [iok, Bool.and_eq_true, Bool.or_eq_true, beq_iff_eq, decide_eq_true_eq] at ok
      obtain ⟨⟨rfl, hn⟩, o1, o2⟩ := ok
      have hX := C.2.2.2.2.2.2.1.2.2
      have e5 : cn (mOw j) = "NeckKnots$Reader" := by rw [o1]; rfl
      rcases o2 with ⟨rfl, rfl⟩ | ⟨rfl, rfl⟩
      · exact g_ldcs (tx := "takes grips bars if or and not place side at before thick mood") C hd ⟨by decide, by decide⟩ (by rw [e5]; exact hX.2.1) (hK0 _ _ _ _ hn h)
      · exact g_ldcs (tx := "lay on through draw mirror times knots done latest many end cloth") C hd ⟨by decide, by decide⟩ (by rw [e5]; exact hX.2.2.1) (hK0 _ _ _ _ hn h)
  case iload_n n =>
    simp only [iok, Bool.and_eq_true, beq_iff_eq, decide_eq_true_eq] at ok
    obtain ⟨⟨rfl, hn⟩, o1⟩ := ok
    obtain ⟨x, hx, h⟩ := ldI_inv h
    exact g_iload_n C hd o1 hx (hK0 _ _ _ _ hn h)
  case iload n =>
    simp only [iok, Bool.and_eq_true, beq_iff_eq, decide_eq_true_eq] at ok
    obtain ⟨⟨rfl, hn⟩, rfl⟩ := ok
    obtain ⟨x, hx, h⟩ := ldI_inv h
    exact g_iload C hd hx (hK0 _ _ _ _ hn h)
  case lload_n n =>
    simp only [iok, Bool.and_eq_true, beq_iff_eq, decide_eq_true_eq] at ok
    obtain ⟨⟨rfl, hn⟩, o1⟩ := ok
    obtain ⟨x, hx, h⟩ := ldJ_inv h
    exact g_lload_n C hd o1 hx (hK0 _ _ _ _ hn h)
  case lload n =>
    simp only [iok, Bool.and_eq_true, beq_iff_eq, decide_eq_true_eq] at ok
    obtain ⟨⟨rfl, hn⟩, rfl⟩ := ok
    obtain ⟨x, hx, h⟩ := ldJ_inv h
    exact g_lload C hd hx (hK0 _ _ _ _ hn h)
  case aload_n n =>
    simp only [iok, Bool.and_eq_true, beq_iff_eq, decide_eq_true_eq] at ok
    obtain ⟨⟨rfl, hn⟩, o1⟩ := ok
    obtain ⟨x, hx, hq, h⟩ := ldR_inv (show ldR L b (fun v => K 0 L (v :: st) s) = some rf from h)
    exact g_aload_n C hd o1 hq hx (hK0 _ _ _ _ hn h)
  case aload n =>
    simp only [iok, Bool.and_eq_true, beq_iff_eq, decide_eq_true_eq] at ok
    obtain ⟨⟨rfl, hn⟩, rfl⟩ := ok
    obtain ⟨x, hx, hq, h⟩ := ldR_inv (show ldR L _ (fun v => K 0 L (v :: st) s) = some rf from h)
    exact g_aload C hd hq hx (hK0 _ _ _ _ hn h)
  case istore_n n =>
    simp only [iok, Bool.and_eq_true, beq_iff_eq, decide_eq_true_eq] at ok
    obtain ⟨⟨rfl, hn⟩, o1, o2⟩ := ok
    obtain ⟨x, st, rfl, h⟩ := pI_inv h
    exact g_istore_n C hd o1 o2 (hK0 _ _ _ _ hn h)
  case istore n =>
    simp only [iok, Bool.and_eq_true, beq_iff_eq, decide_eq_true_eq] at ok
    obtain ⟨⟨rfl, hn⟩, rfl, o2⟩ := ok
    obtain ⟨x, st, rfl, h⟩ := pI_inv h
    exact g_istore C hd o2 (hK0 _ _ _ _ hn h)
  case lstore_n n =>
    simp only [iok, Bool.and_eq_true, beq_iff_eq, decide_eq_true_eq] at ok
    obtain ⟨⟨rfl, hn⟩, o1, o2⟩ := ok
    obtain ⟨x, st, rfl, h⟩ := pJ_inv h
    exact g_lstore_n C hd o1 o2 (hK0 _ _ _ _ hn h)
  case lstore n =>
    simp only [iok, Bool.and_eq_true, beq_iff_eq, decide_eq_true_eq] at ok
    obtain ⟨⟨rfl, hn⟩, rfl, o2⟩ := ok
    obtain ⟨x, st, rfl, h⟩ := pJ_inv h
    exact g_lstore C hd o2 (hK0 _ _ _ _ hn h)
  case astore_n n =>
    simp only [iok, Bool.and_eq_true, beq_iff_eq, decide_eq_true_eq] at ok
    obtain ⟨⟨rfl, hn⟩, o1, o2⟩ := ok
    obtain ⟨x, st, rfl, hq, h⟩ := pQ_inv (show pQ st (fun v st => K 0 (put1 L b v) st s) = some rf from h)
    exact g_astore_n C hd o1 o2 hq (hK0 _ _ _ _ hn h)
  case astore n =>
    simp only [iok, Bool.and_eq_true, beq_iff_eq, decide_eq_true_eq] at ok
    obtain ⟨⟨rfl, hn⟩, rfl, o2⟩ := ok
    obtain ⟨x, st, rfl, hq, h⟩ := pQ_inv (show pQ st (fun v st => K 0 (put1 L _ v) st s) = some rf from h)
    exact g_astore C hd o2 hq (hK0 _ _ _ _ hn h)
  case iinc n q =>
    simp only [iok, Bool.and_eq_true, beq_iff_eq, decide_eq_true_eq] at ok
    obtain ⟨⟨rfl, hn⟩, rfl, o2⟩ := ok
    obtain ⟨x, hx, h⟩ := ldI_inv h
    exact g_iinc C hd o2 hx (hK0 _ _ _ _ hn h)
  case iadd =>
    simp only [iok, Bool.and_eq_true, beq_iff_eq, decide_eq_true_eq] at ok
    obtain ⟨rfl, hn⟩ := ok
    obtain ⟨y, st, rfl, h⟩ := pI_inv h
    obtain ⟨x, st, rfl, h⟩ := pI_inv h
    exact g_iadd C hd (hK0 _ _ _ _ hn h)
  case isub =>
    simp only [iok, Bool.and_eq_true, beq_iff_eq, decide_eq_true_eq] at ok
    obtain ⟨rfl, hn⟩ := ok
    obtain ⟨y, st, rfl, h⟩ := pI_inv h
    obtain ⟨x, st, rfl, h⟩ := pI_inv h
    exact g_isub C hd (hK0 _ _ _ _ hn h)
  case imul =>
    simp only [iok, Bool.and_eq_true, beq_iff_eq, decide_eq_true_eq] at ok
    obtain ⟨rfl, hn⟩ := ok
    obtain ⟨y, st, rfl, h⟩ := pI_inv h
    obtain ⟨x, st, rfl, h⟩ := pI_inv h
    exact g_imul C hd (hK0 _ _ _ _ hn h)
  case iand =>
    simp only [iok, Bool.and_eq_true, beq_iff_eq, decide_eq_true_eq] at ok
    obtain ⟨rfl, hn⟩ := ok
    obtain ⟨y, st, rfl, h⟩ := pI_inv h
    obtain ⟨x, st, rfl, h⟩ := pI_inv h
    exact g_iand C hd (hK0 _ _ _ _ hn h)
  case ior =>
    simp only [iok, Bool.and_eq_true, beq_iff_eq, decide_eq_true_eq] at ok
    obtain ⟨rfl, hn⟩ := ok
    obtain ⟨y, st, rfl, h⟩ := pI_inv h
    obtain ⟨x, st, rfl, h⟩ := pI_inv h
    exact g_ior C hd (hK0 _ _ _ _ hn h)
  case ishl =>
    simp only [iok, Bool.and_eq_true, beq_iff_eq, decide_eq_true_eq] at ok
    obtain ⟨rfl, hn⟩ := ok
    obtain ⟨y, st, rfl, h⟩ := pI_inv h
    obtain ⟨x, st, rfl, h⟩ := pI_inv h
    exact g_ishl C hd (hK0 _ _ _ _ hn h)
  case ishr =>
    simp only [iok, Bool.and_eq_true, beq_iff_eq, decide_eq_true_eq] at ok
    obtain ⟨rfl, hn⟩ := ok
    obtain ⟨y, st, rfl, h⟩ := pI_inv h
    obtain ⟨x, st, rfl, h⟩ := pI_inv h
    exact g_ishr C hd (hK0 _ _ _ _ hn h)
  case iushr =>
    simp only [iok, Bool.and_eq_true, beq_iff_eq, decide_eq_true_eq] at ok
    obtain ⟨rfl, hn⟩ := ok
    obtain ⟨y, st, rfl, h⟩ := pI_inv h
    obtain ⟨x, st, rfl, h⟩ := pI_inv h
    exact g_iushr C hd (hK0 _ _ _ _ hn h)
  case idiv =>
    simp only [iok, Bool.and_eq_true, beq_iff_eq, decide_eq_true_eq] at ok
    obtain ⟨rfl, hn⟩ := ok
    obtain ⟨y, st, rfl, h⟩ := pI_inv h
    obtain ⟨x, st, rfl, h⟩ := pI_inv h
    obtain ⟨h0, h⟩ := nite_inv h
    exact g_idiv C hd h0 (hK0 _ _ _ _ hn h)
  case irem =>
    simp only [iok, Bool.and_eq_true, beq_iff_eq, decide_eq_true_eq] at ok
    obtain ⟨rfl, hn⟩ := ok
    obtain ⟨y, st, rfl, h⟩ := pI_inv h
    obtain ⟨x, st, rfl, h⟩ := pI_inv h
    obtain ⟨h0, h⟩ := nite_inv h
    exact g_irem C hd h0 (hK0 _ _ _ _ hn h)
  case ladd =>
    simp only [iok, Bool.and_eq_true, beq_iff_eq, decide_eq_true_eq] at ok
    obtain ⟨rfl, hn⟩ := ok
    obtain ⟨y, st, rfl, h⟩ := pJ_inv h
    obtain ⟨x, st, rfl, h⟩ := pJ_inv h
    exact g_ladd C hd (hK0 _ _ _ _ hn h)
  case lsub =>
    simp only [iok, Bool.and_eq_true, beq_iff_eq, decide_eq_true_eq] at ok
    obtain ⟨rfl, hn⟩ := ok
    obtain ⟨y, st, rfl, h⟩ := pJ_inv h
    obtain ⟨x, st, rfl, h⟩ := pJ_inv h
    exact g_lsub C hd (hK0 _ _ _ _ hn h)
  case lmul =>
    simp only [iok, Bool.and_eq_true, beq_iff_eq, decide_eq_true_eq] at ok
    obtain ⟨rfl, hn⟩ := ok
    obtain ⟨y, st, rfl, h⟩ := pJ_inv h
    obtain ⟨x, st, rfl, h⟩ := pJ_inv h
    exact g_lmul C hd (hK0 _ _ _ _ hn h)
  case lcmp =>
    simp only [iok, Bool.and_eq_true, beq_iff_eq, decide_eq_true_eq] at ok
    obtain ⟨rfl, hn⟩ := ok
    obtain ⟨y, st, rfl, h⟩ := pJ_inv h
    obtain ⟨x, st, rfl, h⟩ := pJ_inv h
    exact g_lcmp C hd (hK0 _ _ _ _ hn h)
  case ldiv =>
    simp only [iok, Bool.and_eq_true, beq_iff_eq, decide_eq_true_eq] at ok
    obtain ⟨rfl, hn⟩ := ok
    obtain ⟨y, st, rfl, h⟩ := pJ_inv h
    obtain ⟨x, st, rfl, h⟩ := pJ_inv h
    obtain ⟨h0, h⟩ := nite_inv h
    exact g_ldiv C hd h0 (hK0 _ _ _ _ hn h)
  case lrem =>
    simp only [iok, Bool.and_eq_true, beq_iff_eq, decide_eq_true_eq] at ok
    obtain ⟨rfl, hn⟩ := ok
    obtain ⟨y, st, rfl, h⟩ := pJ_inv h
    obtain ⟨x, st, rfl, h⟩ := pJ_inv h
    obtain ⟨h0, h⟩ := nite_inv h
    exact g_lrem C hd h0 (hK0 _ _ _ _ hn h)
  case ineg =>
    simp only [iok, Bool.and_eq_true, beq_iff_eq, decide_eq_true_eq] at ok
    obtain ⟨rfl, hn⟩ := ok
    obtain ⟨x, st, rfl, h⟩ := pI_inv h
    exact g_ineg C hd (hK0 _ _ _ _ hn h)
  case i2l =>
    simp only [iok, Bool.and_eq_true, beq_iff_eq, decide_eq_true_eq] at ok
    obtain ⟨rfl, hn⟩ := ok
    obtain ⟨x, st, rfl, h⟩ := pI_inv h
    exact g_i2l C hd (hK0 _ _ _ _ hn h)
  case i2b =>
    simp only [iok, Bool.and_eq_true, beq_iff_eq, decide_eq_true_eq] at ok
    obtain ⟨rfl, hn⟩ := ok
    obtain ⟨x, st, rfl, h⟩ := pI_inv h
    exact g_i2b C hd (hK0 _ _ _ _ hn h)
  case l2i =>
    simp only [iok, Bool.and_eq_true, beq_iff_eq, decide_eq_true_eq] at ok
    obtain ⟨rfl, hn⟩ := ok
    obtain ⟨x, st, rfl, h⟩ := pJ_inv h
    exact g_l2i C hd (hK0 _ _ _ _ hn h)
  case dup =>
    simp only [iok, Bool.and_eq_true, beq_iff_eq, decide_eq_true_eq] at ok
    obtain ⟨rfl, hn⟩ := ok
    obtain ⟨v, st, rfl, hv, h⟩ := p1_inv (show p1 st (fun v st => K 0 L (v :: v :: st) s) = some rf from h)
    exact g_dup C hd hv (hK0 _ _ _ _ hn h)
  case pop =>
    simp only [iok, Bool.and_eq_true, beq_iff_eq, decide_eq_true_eq] at ok
    obtain ⟨rfl, hn⟩ := ok
    obtain ⟨v, st, rfl, hv, h⟩ := p1_inv (show p1 st (fun _ st => K 0 L st s) = some rf from h)
    exact g_pop C hd hv (hK0 _ _ _ _ hn h)
  case dup2 =>
    simp only [iok, Bool.and_eq_true, beq_iff_eq, decide_eq_true_eq] at ok
    obtain ⟨rfl, hn⟩ := ok
    obtain ⟨i, st, rfl, h⟩ := pI_inv h
    obtain ⟨x, st, rfl, h⟩ := pR_inv h
    exact g_dup2 C hd (by simp) (by simp) (hK0 _ _ _ _ hn h)
  case ifCond q off =>
    simp only [iok, Bool.and_eq_true, beq_iff_eq] at ok
    obtain ⟨⟨rfl, hn⟩, o1⟩ := ok
    have hj1 := jm_ok o1
    cases q
    case eq =>
      obtain ⟨x, st, rfl, h⟩ := pI_inv h
      have h : (if x = 0 then K b L st s else K 0 L st s) = some rf := h
      exact g_ifeq C hd hj1 (fun q => hK _ _ _ _ (by rw [if_pos q] at h; exact h)) (fun q => hK0 _ _ _ _ hn (by rw [if_neg q] at h; exact h))
    case ne =>
      obtain ⟨x, st, rfl, h⟩ := pI_inv h
      have h : (if x = 0 then K 0 L st s else K b L st s) = some rf := h
      exact g_ifne C hd hj1 (fun q => hK _ _ _ _ (by rw [if_neg q] at h; exact h)) (fun q => hK0 _ _ _ _ hn (by rw [if_pos q] at h; exact h))
    case lt =>
      obtain ⟨x, st, rfl, h⟩ := pI_inv h
      have h : (if x < 0 then K b L st s else K 0 L st s) = some rf := h
      exact g_iflt C hd hj1 (fun q => hK _ _ _ _ (by rw [if_pos q] at h; exact h)) (fun q => hK0 _ _ _ _ hn (by rw [if_neg q] at h; exact h))
    case ge =>
      obtain ⟨x, st, rfl, h⟩ := pI_inv h
      have h : (if x < 0 then K 0 L st s else K b L st s) = some rf := h
      exact g_ifge C hd hj1 (fun q => hK _ _ _ _ (by rw [if_neg q] at h; exact h)) (fun q => hK0 _ _ _ _ hn (by rw [if_pos q] at h; exact h))
    case gt =>
      obtain ⟨x, st, rfl, h⟩ := pI_inv h
      have h : (if 0 < x then K b L st s else K 0 L st s) = some rf := h
      exact g_ifgt C hd hj1 (fun q => hK _ _ _ _ (by rw [if_pos q] at h; exact h)) (fun q => hK0 _ _ _ _ hn (by rw [if_neg q] at h; exact h))
    case le =>
      obtain ⟨x, st, rfl, h⟩ := pI_inv h
      have h : (if 0 < x then K 0 L st s else K b L st s) = some rf := h
      exact g_ifle C hd hj1 (fun q => hK _ _ _ _ (by rw [if_neg q] at h; exact h)) (fun q => hK0 _ _ _ _ hn (by rw [if_pos q] at h; exact h))
  case if_icmp q off =>
    simp only [iok, Bool.and_eq_true, beq_iff_eq] at ok
    obtain ⟨⟨rfl, hn⟩, o1⟩ := ok
    have hj1 := jm_ok o1
    cases q
    case eq =>
      obtain ⟨y, st, rfl, h⟩ := pI_inv h
      obtain ⟨x, st, rfl, h⟩ := pI_inv h
      have h : (if x = y then K b L st s else K 0 L st s) = some rf := h
      exact g_icmpeq C hd hj1 (fun q => hK _ _ _ _ (by rw [if_pos q] at h; exact h)) (fun q => hK0 _ _ _ _ hn (by rw [if_neg q] at h; exact h))
    case ne =>
      obtain ⟨y, st, rfl, h⟩ := pI_inv h
      obtain ⟨x, st, rfl, h⟩ := pI_inv h
      have h : (if x = y then K 0 L st s else K b L st s) = some rf := h
      exact g_icmpne C hd hj1 (fun q => hK _ _ _ _ (by rw [if_neg q] at h; exact h)) (fun q => hK0 _ _ _ _ hn (by rw [if_pos q] at h; exact h))
    case lt =>
      obtain ⟨y, st, rfl, h⟩ := pI_inv h
      obtain ⟨x, st, rfl, h⟩ := pI_inv h
      have h : (if x < y then K b L st s else K 0 L st s) = some rf := h
      exact g_icmplt C hd hj1 (fun q => hK _ _ _ _ (by rw [if_pos q] at h; exact h)) (fun q => hK0 _ _ _ _ hn (by rw [if_neg q] at h; exact h))
    case ge =>
      obtain ⟨y, st, rfl, h⟩ := pI_inv h
      obtain ⟨x, st, rfl, h⟩ := pI_inv h
      have h : (if x < y then K 0 L st s else K b L st s) = some rf := h
      exact g_icmpge C hd hj1 (fun q => hK _ _ _ _ (by rw [if_neg q] at h; exact h)) (fun q => hK0 _ _ _ _ hn (by rw [if_pos q] at h; exact h))
    case gt =>
      obtain ⟨y, st, rfl, h⟩ := pI_inv h
      obtain ⟨x, st, rfl, h⟩ := pI_inv h
      have h : (if y < x then K b L st s else K 0 L st s) = some rf := h
      exact g_icmpgt C hd hj1 (fun q => hK _ _ _ _ (by rw [if_pos q] at h; exact h)) (fun q => hK0 _ _ _ _ hn (by rw [if_neg q] at h; exact h))
    case le =>
      obtain ⟨y, st, rfl, h⟩ := pI_inv h
      obtain ⟨x, st, rfl, h⟩ := pI_inv h
      have h : (if y < x then K 0 L st s else K b L st s) = some rf := h
      exact g_icmple C hd hj1 (fun q => hK _ _ _ _ (by rw [if_neg q] at h; exact h)) (fun q => hK0 _ _ _ _ hn (by rw [if_pos q] at h; exact h))
  case ifnull off =>
    simp only [iok, Bool.and_eq_true, beq_iff_eq] at ok
    obtain ⟨⟨rfl, hn⟩, o1⟩ := ok
    obtain ⟨x, st, rfl, h⟩ := pR_inv h
    have h : (if x = 0 then K b L st s else K 0 L st s) = some rf := h
    exact g_ifnull C hd (jm_ok o1) (fun q => hK _ _ _ _ (by rw [if_pos q] at h; exact h)) (fun q => hK0 _ _ _ _ hn (by rw [if_neg q] at h; exact h))
  case ifnonnull off =>
    simp only [iok, Bool.and_eq_true, beq_iff_eq] at ok
    obtain ⟨⟨rfl, hn⟩, o1⟩ := ok
    obtain ⟨x, st, rfl, h⟩ := pR_inv h
    have h : (if x = 0 then K 0 L st s else K b L st s) = some rf := h
    exact g_ifnonnull C hd (jm_ok o1) (fun q => hK _ _ _ _ (by rw [if_neg q] at h; exact h)) (fun q => hK0 _ _ _ _ hn (by rw [if_pos q] at h; exact h))
  case if_acmp q off =>
    simp only [iok, Bool.and_eq_true, beq_iff_eq] at ok
    obtain ⟨⟨rfl, hn⟩, o1⟩ := ok
    cases q
    case eq =>
      obtain ⟨y, st, rfl, h⟩ := pR_inv h
      obtain ⟨x, st, rfl, h⟩ := pR_inv h
      have h : (if x = y then K b L st s else K 0 L st s) = some rf := h
      exact g_acmpeq C hd (jm_ok o1) (fun q => hK _ _ _ _ (by rw [if_pos q] at h; exact h)) (fun q => hK0 _ _ _ _ hn (by rw [if_neg q] at h; exact h))
    case ne => cases h
  case goto off =>
    cases k with
    | zero =>
      simp only [iok, Bool.and_eq_true, beq_iff_eq] at ok
      obtain ⟨rfl, o1⟩ := ok
      exact g_goto C hd (jm_ok o1) (hK _ _ _ _ h)
    | succ k =>
      simp only [iok, Bool.and_eq_true, beq_iff_eq] at ok
      obtain ⟨rfl, o1⟩ := ok
      exact g_goto C hd o1.symm (Go.pick (is := ls) (hlb _ _ _ _ h))
  case tableswitch df lo hi offs =>
    simp only [iok, Bool.and_eq_true, beq_iff_eq, decide_eq_true_eq] at ok
    obtain ⟨⟨⟨⟨⟨o1, rfl⟩, o3⟩, o4⟩, -⟩, -⟩ := ok
    obtain ⟨x, st, rfl, h⟩ := pI_inv h
    exact snd_sw C hK hd o1 o3 o4 h
  case lookupswitch df ps =>
    simp only [iok, Bool.and_eq_true] at ok
    obtain ⟨⟨o1, o2⟩, o3⟩ := ok
    obtain ⟨x, st, rfl, h⟩ := pI_inv h
    exact snd_lk C hK hd o1 o3 o2 h
  case getfield n =>
    simp only [iok, Bool.and_eq_true, beq_iff_eq, decide_eq_true_eq] at ok
    obtain ⟨⟨rfl, hn⟩, o1, rfl⟩ := ok
    obtain ⟨x, st, rfl, h⟩ := pR_inv h
    obtain ⟨hk, h⟩ := ite_inv (show (if kd s x = b + 4 then _ else none) = some rf from h)
    obtain ⟨f1, f2, f3⟩ := inF_ok o1
    exact g_getfield C hd f2 f3 f1 hk (hK0 _ _ _ _ hn h)
  case putfield n =>
    simp only [iok, Bool.and_eq_true, Bool.or_eq_true, beq_iff_eq, decide_eq_true_eq] at ok
    obtain ⟨⟨rfl, hn⟩, ⟨⟨o1, o2⟩, o3⟩, o4⟩ := ok
    obtain ⟨f1, f2, f3⟩ := inF_ok o1
    have o4 : (cT b k).2.2.2 = false ∨ (meth.name = "<init>" ∧ (cT b k).1 = cn (mOw j)) := o4.imp id (fun q => ⟨hnm.trans q.1, q.2⟩)
    match e1, o2, o3, h with
    | 0, o2, o3, h =>
      obtain ⟨v, st, rfl, h⟩ := pI_inv h
      obtain ⟨x, st, rfl, h⟩ := pR_inv h
      obtain ⟨hk, h⟩ := ite_inv (show (if kd s x = b + 4 then _ else none) = some rf from h)
      intro H locs cells slots ls I
      exact g_putfield (v := v) C hd f2 f3 f1 o4 hk (by rw [← o2]; exact I.ty _ List.mem_cons_self) (by rw [← o2]; rfl) (hK0 _ _ _ _ hn h) H locs cells slots ls I
    | 1, o2, o3, h =>
      obtain ⟨v, st, rfl, h⟩ := pI_inv h
      obtain ⟨x, st, rfl, h⟩ := pR_inv h
      obtain ⟨hb, h⟩ := bk_inv h
      obtain ⟨hk, h⟩ := ite_inv (show (if kd s x = b + 4 then _ else none) = some rf from h)
      exact g_putfield (v := v) C hd f2 f3 f1 o4 hk (by rw [← o2]; exact hb) (by rw [← o2]; rfl) (hK0 _ _ _ _ hn h)
    | 2, o2, o3, h => exact absurd o3 (by decide)
    | 3, o2, o3, h => exact absurd o3 (by decide)
    | t + 4, o2, o3, h =>
      obtain ⟨v, st, rfl, h⟩ := pR_inv h
      obtain ⟨x, st, rfl, h⟩ := pR_inv h
      obtain ⟨hb, h⟩ := ite_inv (show (if v = 0 ∨ kd s v = t + 4 then _ else none) = some rf from h)
      obtain ⟨hk, h⟩ := ite_inv (show (if kd s x = b + 4 then _ else none) = some rf from h)
      exact g_putfield (v := v) C hd f2 f3 f1 o4 hk (by rw [← o2]; exact hb) (by rw [← o2]; rfl) (hK0 _ _ _ _ hn h)
  case iaload =>
    simp only [iok, Bool.and_eq_true, beq_iff_eq, decide_eq_true_eq] at ok
    obtain ⟨rfl, hn⟩ := ok
    obtain ⟨i, st, rfl, h⟩ := pI_inv h
    obtain ⟨x, st, rfl, h⟩ := pR_inv h
    obtain ⟨⟨hk, i0, i1⟩, h⟩ := ite_inv (show (if kd s x = _ ∧ 0 ≤ i ∧ i < (gA s x).length then _ else none) = some rf from h)
    exact g_iaload C hd hk i0 i1 (hK0 _ _ _ _ hn h)
  case laload =>
    simp only [iok, Bool.and_eq_true, beq_iff_eq, decide_eq_true_eq] at ok
    obtain ⟨rfl, hn⟩ := ok
    obtain ⟨i, st, rfl, h⟩ := pI_inv h
    obtain ⟨x, st, rfl, h⟩ := pR_inv h
    obtain ⟨⟨hk, i0, i1⟩, h⟩ := ite_inv (show (if kd s x = _ ∧ 0 ≤ i ∧ i < (gA s x).length then _ else none) = some rf from h)
    exact g_laload C hd hk i0 i1 (hK0 _ _ _ _ hn h)
  case baload =>
    simp only [iok, Bool.and_eq_true, Bool.or_eq_true, beq_iff_eq] at ok
    obtain ⟨⟨rfl, hn⟩, o1⟩ := ok
    obtain ⟨i, st, rfl, h⟩ := pI_inv h
    obtain ⟨x, st, rfl, h⟩ := pR_inv h
    obtain ⟨⟨hk, i0, i1⟩, h⟩ := ite_inv (show (if kd s x = _ ∧ 0 ≤ i ∧ i < (gA s x).length then _ else none) = some rf from h)
    exact g_baload C hd o1 hk i0 i1 (hK0 _ _ _ _ hn h)
  case aaload =>
    simp only [iok, Bool.and_eq_true, beq_iff_eq, decide_eq_true_eq] at ok
    obtain ⟨⟨rfl, hn⟩, o1, o2⟩ := ok
    obtain ⟨i, st, rfl, h⟩ := pI_inv h
    obtain ⟨x, st, rfl, h⟩ := pR_inv h
    obtain ⟨⟨hk, i0, i1⟩, h⟩ := ite_inv (show (if kd s x = _ ∧ 0 ≤ i ∧ i < (gA s x).length then _ else none) = some rf from h)
    exact g_aaload C hd o1 o2 hk i0 i1 (hK0 _ _ _ _ hn h)
  case iastore =>
    simp only [iok, Bool.and_eq_true, beq_iff_eq, decide_eq_true_eq] at ok
    obtain ⟨rfl, hn⟩ := ok
    obtain ⟨v, st, rfl, h⟩ := pI_inv h
    obtain ⟨i, st, rfl, h⟩ := pI_inv h
    obtain ⟨x, st, rfl, h⟩ := pR_inv h
    obtain ⟨⟨hk, i0, i1⟩, h⟩ := ite_inv (show (if kd s x = _ ∧ 0 ≤ i ∧ i < (gA s x).length then _ else none) = some rf from h)
    exact g_iastore C hd hk i0 i1 (hK0 _ _ _ _ hn h)
  case lastore =>
    simp only [iok, Bool.and_eq_true, beq_iff_eq, decide_eq_true_eq] at ok
    obtain ⟨rfl, hn⟩ := ok
    obtain ⟨v, st, rfl, h⟩ := pJ_inv h
    obtain ⟨i, st, rfl, h⟩ := pI_inv h
    obtain ⟨x, st, rfl, h⟩ := pR_inv h
    obtain ⟨⟨hk, i0, i1⟩, h⟩ := ite_inv (show (if kd s x = _ ∧ 0 ≤ i ∧ i < (gA s x).length then _ else none) = some rf from h)
    exact g_lastore C hd hk i0 i1 (hK0 _ _ _ _ hn h)
  case bastore =>
    simp only [iok, Bool.and_eq_true, beq_iff_eq, decide_eq_true_eq] at ok
    obtain ⟨rfl, hn⟩ := ok
    match e1, h with
    | 1, h =>
      obtain ⟨v, st, rfl, h⟩ := pI_inv h
      obtain ⟨i, st, rfl, h⟩ := pI_inv h
      obtain ⟨x, st, rfl, h⟩ := pR_inv h
      obtain ⟨hb, h⟩ := bk_inv h
      obtain ⟨⟨hk, i0, i1⟩, h⟩ := ite_inv (show (if kd s x = _ ∧ 0 ≤ i ∧ i < (gA s x).length then _ else none) = some rf from h)
      exact g_zastore C hd hk i0 i1 hb (hK0 _ _ _ _ hn h)
    | 0, h =>
      obtain ⟨v, st, rfl, h⟩ := pI_inv h
      obtain ⟨i, st, rfl, h⟩ := pI_inv h
      obtain ⟨x, st, rfl, h⟩ := pR_inv h
      obtain ⟨⟨hk, i0, i1⟩, h⟩ := ite_inv (show (if kd s x = _ ∧ 0 ≤ i ∧ i < (gA s x).length then _ else none) = some rf from h)
      exact g_bastore C hd hk i0 i1 (hK0 _ _ _ _ hn h)
    | _ + 2, h =>
      obtain ⟨v, st, rfl, h⟩ := pI_inv h
      obtain ⟨i, st, rfl, h⟩ := pI_inv h
      obtain ⟨x, st, rfl, h⟩ := pR_inv h
      obtain ⟨⟨hk, i0, i1⟩, h⟩ := ite_inv (show (if kd s x = _ ∧ 0 ≤ i ∧ i < (gA s x).length then _ else none) = some rf from h)
      exact g_bastore C hd hk i0 i1 (hK0 _ _ _ _ hn h)
  case aastore =>
    simp only [iok, Bool.and_eq_true, beq_iff_eq, decide_eq_true_eq] at ok
    obtain ⟨⟨rfl, hn⟩, ⟨o1, o2⟩, rfl⟩ := ok
    obtain ⟨v, st, rfl, h⟩ := pR_inv h
    obtain ⟨i, st, rfl, h⟩ := pI_inv h
    obtain ⟨x, st, rfl, h⟩ := pR_inv h
    obtain ⟨hb, h⟩ := ite_inv (show (if v = 0 ∨ kd s v = ety b then _ else none) = some rf from h)
    obtain ⟨⟨hk, i0, i1⟩, h⟩ := ite_inv (show (if kd s x = _ ∧ 0 ≤ i ∧ i < (gA s x).length then _ else none) = some rf from h)
    exact g_aastore C hd o1 o2 hk i0 i1 hb (hK0 _ _ _ _ hn h)
  case arraylength =>
    simp only [iok, Bool.and_eq_true, beq_iff_eq, decide_eq_true_eq] at ok
    obtain ⟨⟨rfl, hn⟩, o1, o2⟩ := ok
    obtain ⟨x, st, rfl, h⟩ := pR_inv h
    obtain ⟨hk, h⟩ := ite_inv (show (if kd s x = b then _ else none) = some rf from h)
    exact g_alen C hd o1 o2 hk (hK0 _ _ _ _ hn h)
  case newarray t =>
    simp only [iok, Bool.and_eq_true, beq_iff_eq, decide_eq_true_eq] at ok
    obtain ⟨⟨rfl, hn⟩, o1, o2⟩ := ok
    obtain ⟨n, st, rfl, h⟩ := pI_inv h
    obtain ⟨⟨n0, n1⟩, h⟩ := ite_inv (show (if 0 ≤ n ∧ n ≤ 1000000 then _ else none) = some rf from h)
    have hm := hKn _ _ _ _ h
    have e1 : nx (nA s b n.toNat) = nx s + 1 := rfl
    have e2 : sl (nA s b n.toNat) = sl s + (n.toNat : Int) := rfl
    exact g_newarray C hd o1 o2 n0 n1 (by omega) (by omega) (hK0 _ _ _ _ hn h)
  case anewarray i =>
    simp only [iok, Bool.and_eq_true, Bool.or_eq_true, beq_iff_eq] at ok
    obtain ⟨⟨rfl, hn⟩, o1⟩ := ok
    obtain ⟨n, st, rfl, h⟩ := pI_inv h
    obtain ⟨⟨n0, n1⟩, h⟩ := ite_inv (show (if 0 ≤ n ∧ n ≤ 1000000 then _ else none) = some rf from h)
    have hm := hKn _ _ _ _ h
    have e1 : nx (nA s b n.toNat) = nx s + 1 := rfl
    have e2 : sl (nA s b n.toNat) = sl s + (n.toNat : Int) := rfl
    have hX := C.2.2.2.2.2.2.1.2.1
    rcases o1 with (⟨rfl, o1⟩ | ⟨rfl, o1⟩) | ⟨rfl, o1⟩
    · exact g_anewarray (t := 24) (ci := 3) C hd (by omega) (by omega) rfl hX.1 (inC_ok o1).1 n0 n1 (by omega) (by omega) (hK0 _ _ _ _ hn h)
    · exact g_anewarray (t := 25) (ci := 0) C hd (by omega) (by omega) rfl hX.2.1 (inC_ok o1).1 n0 n1 (by omega) (by omega) (hK0 _ _ _ _ hn h)
    · exact g_anewarray (t := 26) (ci := 7) C hd (by omega) (by omega) rfl hX.2.2 (inC_ok o1).1 n0 n1 (by omega) (by omega) (hK0 _ _ _ _ hn h)
  case new i =>
    simp only [iok, Bool.and_eq_true, beq_iff_eq, decide_eq_true_eq] at ok
    obtain ⟨⟨rfl, hn⟩, o1, rfl⟩ := ok
    have h : K 0 L ((1, nx s) :: st) (nO s b (cN b)) = some rf := h
    have hm := hKn _ _ _ _ h
    have e1 : nx (nO s b (cN b)) = nx s + 1 := rfl
    have e2 : sl (nO s b (cN b)) = sl s + (cN b : Int) := rfl
    exact g_new C hd (inC_ok o1).2 (inC_ok o1).1 (by omega) (by omega) (hK0 _ _ _ _ hn h)
  case invokestatic i =>
    match k, ok, h with
    | 0, ok, h =>
      simp only [iok, Bool.and_eq_true, Bool.or_eq_true, beq_iff_eq, decide_eq_true_eq] at ok
      obtain ⟨⟨rfl, hn⟩, ⟨⟨o1, o2⟩, rfl⟩, o9⟩ := ok
      obtain ⟨as, st, rfl, hl, h⟩ := tkA_inv h
      rw [List.append_nil] at h
      obtain ⟨ha, h⟩ := ak_inv h
      obtain ⟨hw, h⟩ := wk_inv h
      obtain ⟨r1, s1, ho, hk, h1, -⟩ := cX_len h
      have hm := hKn _ _ _ _ hk
      have o5 : b < 286 := o1.elim (fun q => (inM_ok q).2) (fun q => (inN_ok q).2)
      obtain ⟨hn1, hn2, d', rfl, hM⟩ := hcv _ _ _ _ ho o5 hl (Nat.le_trans ha o9)
      dsimp only at hn1 hn2 hM
      rcases o1 with o1 | o1
      · exact g_callS C hd ⟨o5, hw, by omega, by have := (m_facts o5).2.2.2.2.2.2.1; omega, hn1, hn2, by omega, by omega⟩ o2 (inM_ok o1).1 hl h1 hM (hK0 _ _ _ _ hn hk)
      · obtain ⟨⟨q, hq, q1, q2, q3⟩, -⟩ := inN_ok o1
        have hq := C.2.2.2.2.2.2.1.1 q hq
        rw [q1, q2, q3] at hq
        exact g_callSN C hd ⟨o5, hw, by omega, by have := (m_facts o5).2.2.2.2.2.2.1; omega, hn1, hn2, by omega, by omega⟩ o2 hq hl h1 hM (hK0 _ _ _ _ hn hk)
    | 2, ok, h =>
      simp only [iok, Bool.and_eq_true, beq_iff_eq] at ok
      obtain ⟨⟨rfl, hn⟩, o1⟩ := ok
      obtain ⟨y, st, rfl, h⟩ := pI_inv h
      obtain ⟨x, st, rfl, h⟩ := pI_inv h
      obtain ⟨hw, h⟩ := wk_inv h
      exact g_max C hd (jok hw (hKn _ _ _ _ h)) (inX_ok o1) (hK0 _ _ _ _ hn h)
    | 3, ok, h =>
      simp only [iok, Bool.and_eq_true, beq_iff_eq] at ok
      obtain ⟨⟨rfl, hn⟩, o1⟩ := ok
      obtain ⟨y, st, rfl, h⟩ := pI_inv h
      obtain ⟨x, st, rfl, h⟩ := pI_inv h
      obtain ⟨hw, h⟩ := wk_inv h
      exact g_min C hd (jok hw (hKn _ _ _ _ h)) (inX_ok o1) (hK0 _ _ _ _ hn h)
    | 4, ok, h =>
      simp only [iok, Bool.and_eq_true, beq_iff_eq] at ok
      obtain ⟨⟨rfl, hn⟩, o1⟩ := ok
      obtain ⟨x, st, rfl, h⟩ := pI_inv h
      obtain ⟨hw, h⟩ := wk_inv h
      exact g_abs C hd (jok hw (hKn _ _ _ _ h)) (inX_ok o1) (hK0 _ _ _ _ hn h)
    | 5, ok, h =>
      simp only [iok, Bool.and_eq_true, beq_iff_eq] at ok
      obtain ⟨⟨rfl, hn⟩, o1⟩ := ok
      obtain ⟨n, st, rfl, h⟩ := pI_inv h
      obtain ⟨dp, st, rfl, h⟩ := pI_inv h
      obtain ⟨y, st, rfl, h⟩ := pR_inv h
      obtain ⟨sp, st, rfl, h⟩ := pI_inv h
      obtain ⟨x, st, rfl, h⟩ := pR_inv h
      obtain ⟨hw, h⟩ := wk_inv h
      obtain ⟨⟨q1, q2, q3, q4, q5, q6, q7⟩, h⟩ := ite_inv (show (if kd s x = 20 ∧ kd s y = 20 ∧ 0 ≤ sp ∧ 0 ≤ dp ∧ 0 ≤ n ∧ sp + n ≤ (gA s x).length ∧ dp + n ≤ (gA s y).length then _ else none) = some rf from h)
      have hm := hKn _ _ _ _ h
      exact g_copy C hd (jok hw hm) (inX_ok o1) q1 q2 q3 q4 q5 q6 q7 (hK0 _ _ _ _ hn h)
    | 1, ok, h => simp [iok] at ok
    | _ + 6, ok, h => simp [iok] at ok
  case invokevirtual i =>
    match k, ok, h with
    | 0, ok, h =>
      simp only [iok, Bool.and_eq_true, beq_iff_eq, decide_eq_true_eq, Bool.not_eq_true'] at ok
      obtain ⟨⟨rfl, hn⟩, ⟨⟨⟨⟨o1, o2⟩, rfl⟩, o3⟩, o4⟩, o9⟩ := ok
      obtain ⟨as, st, rfl, hl, h⟩ := tkA_inv h
      rw [List.append_nil] at h
      obtain ⟨x, as, rfl, h⟩ := rcv_inv h
      obtain ⟨hk0, h⟩ := ite_inv (show (if kd s x = ls.headD 0 then _ else none) = some rf from h)
      rw [o4] at hk0
      obtain ⟨ha, h⟩ := ak_inv h
      obtain ⟨hw, h⟩ := wk_inv h
      obtain ⟨r1, s1, ho, hk, h1, -⟩ := cX_len h
      have hm := hKn _ _ _ _ hk
      have o5 : b < 286 := (inM_ok o1).2
      obtain ⟨hn1, hn2, d', rfl, hM⟩ := hcv _ _ _ _ ho o5 hl (Nat.le_trans ha o9)
      dsimp only at hn1 hn2 hM
      exact g_callV C hd ⟨o5, hw, by omega, by have := (m_facts o5).2.2.2.2.2.2.1; omega, hn1, hn2, by omega, by omega⟩ o2 o3 hk0 (inM_ok o1).1 hl h1 hM (hK0 _ _ _ _ hn hk)
    | 6, ok, h =>
      simp only [iok, Bool.and_eq_true, beq_iff_eq] at ok
      obtain ⟨⟨rfl, hn⟩, o1⟩ := ok
      obtain ⟨x, st, rfl, h⟩ := pS_inv h
      obtain ⟨hw, h⟩ := wk_inv h
      exact g_strLen C hd (jok hw (hKn _ _ _ _ h)) (inX_ok o1) (hK0 _ _ _ _ hn h)
    | 7, ok, h =>
      simp only [iok, Bool.and_eq_true, beq_iff_eq] at ok
      obtain ⟨⟨rfl, hn⟩, o1⟩ := ok
      obtain ⟨y, st, rfl, h⟩ := pI_inv h
      obtain ⟨x, st, rfl, h⟩ := pS_inv h
      obtain ⟨hw, h⟩ := wk_inv h
      obtain ⟨⟨q1, q2⟩, h⟩ := ite_inv (show (if 0 ≤ y ∧ y < strLen x then _ else none) = some rf from h)
      exact g_strCh C hd (jok hw (hKn _ _ _ _ h)) (inX_ok o1) q1 q2 (hK0 _ _ _ _ hn h)
    | 1, ok, h => simp [iok] at ok
    | 2, ok, h => simp [iok] at ok
    | 3, ok, h => simp [iok] at ok
    | 4, ok, h => simp [iok] at ok
    | 5, ok, h => simp [iok] at ok
    | _ + 8, ok, h => simp [iok] at ok
  case invokespecial i =>
    match k, ok, h with
    | 0, ok, h =>
      simp only [iok, Bool.and_eq_true, Bool.or_eq_true, beq_iff_eq, decide_eq_true_eq, Bool.not_eq_true'] at ok
      obtain ⟨⟨rfl, hn⟩, ⟨⟨⟨⟨⟨⟨o1, o2⟩, rfl⟩, o3⟩, o6⟩, rfl⟩, o4⟩, o9⟩ := ok
      obtain ⟨as, st, rfl, hl, h⟩ := tkA_inv h
      rw [List.append_nil] at h
      obtain ⟨x, as, rfl, h⟩ := rcv_inv h
      obtain ⟨hk0, h⟩ := ite_inv (show (if kd s x = ls.headD 0 then _ else none) = some rf from h)
      rw [o4] at hk0
      obtain ⟨ha, h⟩ := ak_inv h
      obtain ⟨hw, h⟩ := wk_inv h
      obtain ⟨r1, s1, ho, hk, h1, h0⟩ := cX_len h
      have h0 : r1 = [] := h0 rfl
      subst h0
      have hm := hKn _ _ _ _ hk
      have o5 : b < 286 := o1.elim (fun q => (inM_ok q).2) (fun q => (inN_ok q).2)
      obtain ⟨hn1, hn2, d', rfl, hM⟩ := hcv _ _ _ _ ho o5 hl (Nat.le_trans ha o9)
      dsimp only at hn1 hn2 hM
      rcases o1 with o1 | o1
      · exact g_callI C hd ⟨o5, hw, by omega, by have := (m_facts o5).2.2.2.2.2.2.1; omega, hn1, hn2, by omega, by omega⟩ o2 o3 o6 hk0 (inM_ok o1).1 hl hM (hK0 _ _ _ _ hn hk)
      · obtain ⟨⟨q, hq, q1, q2, q3⟩, -⟩ := inN_ok o1
        have hq := C.2.2.2.2.2.2.1.1 q hq
        rw [q1, q2, q3] at hq
        exact g_callIN C hd ⟨o5, hw, by omega, by have := (m_facts o5).2.2.2.2.2.2.1; omega, hn1, hn2, by omega, by omega⟩ o2 o3 o6 hk0 hq hl hM (hK0 _ _ _ _ hn hk)
    | 1, ok, h =>
      simp only [iok, Bool.and_eq_true, beq_iff_eq] at ok
      obtain ⟨⟨rfl, hn⟩, o1⟩ := ok
      obtain ⟨x, st, rfl, h⟩ := pR_inv h
      obtain ⟨h0, h⟩ := nite_inv h
      obtain ⟨hw, h⟩ := wk_inv h
      exact g_objInit C hd (jok hw (hKn _ _ _ _ h)) (inX_ok o1) h0 (hK0 _ _ _ _ hn h)
    | _ + 2, ok, h => simp [iok] at ok
  case ireturn =>
    simp only [iok, Bool.and_eq_true, Bool.or_eq_true, beq_iff_eq, decide_eq_true_eq] at ok
    obtain ⟨rfl, o1⟩ := ok
    obtain ⟨x, st, rfl, h⟩ := pI_inv h
    obtain ⟨rfl, h⟩ := pE_inv h
    rcases o1 with ⟨rfl, o1⟩ | ⟨rfl, o1⟩
    · have h : some ([(0, x)], s) = some rf := h
      cases h
      exact g_ireturn C hd hlk (Or.inl (hret.trans o1)) hmc hms
    · obtain ⟨hb, h⟩ := bk_inv h
      cases h
      exact g_ireturn C hd hlk (Or.inr ⟨hret.trans o1, hb⟩) hmc hms
  case lreturn =>
    simp only [iok, Bool.and_eq_true, beq_iff_eq, decide_eq_true_eq] at ok
    obtain ⟨rfl, o1⟩ := ok
    obtain ⟨x, st, rfl, h⟩ := pJ_inv h
    obtain ⟨rfl, h⟩ := pE_inv h
    cases h
    exact g_lreturn C hd hlk (hret.trans o1) hmc hms
  case areturn =>
    simp only [iok, Bool.and_eq_true, beq_iff_eq] at ok
    obtain ⟨rfl, o1⟩ := ok
    obtain ⟨x, st, rfl, h⟩ := pR_inv h
    obtain ⟨rfl, h⟩ := pE_inv h
    cases h
    split at o1
    · rename_i nm hnm2
      exact g_areturn C hd hlk (hret.trans hnm2) (Or.inl ⟨_, rfl⟩) hmc hms
    · rename_i nm hnm2
      exact g_areturn C hd hlk (hret.trans hnm2) (Or.inr ⟨_, rfl⟩) hmc hms
    · cases o1
  case return_ =>
    simp only [iok, Bool.and_eq_true, beq_iff_eq, decide_eq_true_eq] at ok
    obtain ⟨rfl, o1⟩ := ok
    obtain ⟨rfl, h⟩ := pE_inv h
    cases h
    exact g_return C hd hlk (hret.trans o1) hmc hms
  all_goals cases h
end SND
