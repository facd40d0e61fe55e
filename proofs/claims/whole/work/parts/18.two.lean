/-! ===== two stores over one heap: the class's and the reference's; a call of one leaves the other ===== -/
def lf (s : St) (n : Int) : St := (s.1, s.2.1, s.2.2.1, n, s.2.2.2.2)
theorem hp.lift {E : Ev0} {s : St} {H H1 : Heap} {n : Int} (h : hp E s H) (hn : nx s ≤ n) (hz : (H1.size : Int) = n0 E + n) (ho : ∀ p, kd s p ≠ 0 → H1[n0 E + p.toNat]? = H[n0 E + p.toNat]?) : hp E (lf s n) H1 := by
  refine ⟨fun p hk => ?_, hz, fun p hk => ?_⟩
  · have := h.1 p hk
    exact ⟨this.1, Int.lt_of_lt_of_le this.2 hn⟩
  · exact (h.2.2 p hk).kept rfl (fun _ => rfl) rfl (fun _ _ => rfl) (ho p hk)
def LB (E : Ev0) (z : State) (σ τ : St) (H : Heap) (locs : List Loc) : Prop := hp E σ H ∧ hp E τ H ∧ va_S (aN E) z.heap H locs ∧ ∀ p, kd σ p ≠ 0 → kd τ p = 0
theorem LB.sym {E : Ev0} {z : State} {σ τ : St} {H : Heap} {locs : List Loc} (h : LB E z σ τ H locs) : LB E z τ σ H locs := by
  refine ⟨h.2.1, h.1, h.2.2.1, fun p hk => ?_⟩
  by_cases hq : kd σ p = 0
  · exact hq
  · exact absurd (h.2.2.2 p hq) hk
def CL (E : Ev0) (p : Program) (z : State) (m : MethodId) (args : Array Value) (c : Code) (cc : ByteArray) (own : String) : Prop := p.tables.exec = Jvm.exec ∧ c.code = cc ∧ c.maxLocals = 4 ∧ z.vm.findClass own = some m.cls ∧ (∀ w ∈ lw_good, w.before args z = true) ∧ va_K E.1 vwCl (tyL E) z ∧ XW E z ∧ z.heap.size = n0 E + 1
section TWO
variable {E : Ev0} {l : Launch} {p : Program} {e : Env} {R : Room} {z : State} {m : MethodId} {args : Array Value} {below : List Frame} {meth : Method} {c : Code} {cc : ByteArray} {own : String} {Q : State → Prop} {pc : Nat}
theorem l_pre {σ τ : St} {H : Heap} {locs : List Loc} (C : CL E p z m args c cc own) (I : LB E z σ τ H locs) : ∀ U : State, U.heap = H → z.WarmedH U.vm → Bd E σ U := by
  intro U hU hW
  obtain ⟨-, -, -, -, -, hK, hX, hz⟩ := C
  refine ⟨by rw [hU]; exact I.1, va_K.moved hW.alike hK, hX.moved hW (fun a h1 h2 => ?_), by rw [hU]; exact Nat.lt_of_lt_of_le (by omega) I.2.2.1.1⟩
  rw [hU]
  exact I.2.2.1.2.1 a h1 h2
theorem l_after {σ σ' τ : St} {r : List V} {H : Heap} {locs : List Loc} {cells slots mc ms : Nat} {ls : Array Slot} {st0 rest : List Value} {a : Array Value} (C : CL E p z m args c cc own) (I : LB E z σ τ H locs) (hmc : (mc : Int) = nx σ' - nx σ)
    (h : ∀ (H1 : Heap) (locs1 : List Loc), LB E z σ' (lf τ (nx σ')) H1 locs1 → W p l e R z m args below meth c H1 locs1 (cells + mc) (slots + ms) Q (F0 m (pc + 3) ls ((r.map (mv E)).head?.toList ++ rest)))
    (hr : va_Run p l e R z m args below meth c H locs cells slots mc ms (F0 m pc ls st0) rest (Qx E (oA E σ) r σ' σ a) (oA E σ)) : W p l e R z m args below meth c H locs cells slots Q (F0 m pc ls st0) := by
  obtain ⟨I1, I2, I3, I4⟩ := I
  obtain ⟨-, -, -, -, -, -, -, hz⟩ := C
  have hsz := I1.2.1
  have hsz2 := I2.2.1
  have hS1 := I3.1
  have hsub : ∀ q, oA E σ q → aN E q := by
    intro q hq
    show n0 E < q
    rcases hq with ⟨x, hx, rfl⟩ | hq
    · have := (I1.1 x hx).1
      omega
    · omega
  refine x_call hr I3 (fun q _ hq => hsub q hq) hsub (fun t locs1 hb ht hx hO hk hS => ?_)
  refine h t.heap locs1 ⟨hb.1, I2.lift (by omega) hb.1.2.1 (fun q hq => hk _ ?_ ?_), hS, fun q hq => ?_⟩
  · have := I2.1 q hq
    omega
  · rintro (⟨y, hy, e1⟩ | e1)
    · have h1 := (I1.1 y hy).1
      have h2 := (I2.1 q hq).1
      have e2 : y = q := by omega
      subst e2
      exact hq (I4 y hy)
    · have h2 := I2.1 q hq
      omega
  · show kd τ q = 0
    by_cases hq2 : kd τ q = 0
    · exact hq2
    · exfalso
      have h2 := I2.1 q hq2
      have h3 := (hb.1.1 q hq).1
      rcases hO q hq with ⟨y, hy, e1⟩ | e1
      · have h1 := (I1.1 y hy).1
        have e2 : y = q := by omega
        subst e2
        exact hq2 (I4 y hy)
      · omega
theorem l_callV {d j idx : Nat} {x : Int} {as r : List V} {σ σ' τ : St} {H : Heap} {locs : List Loc} {cells slots : Nat} {ls : Array Slot} {rest : List Value} (C : CL E p z m args c cc own) (I : LB E z σ τ H locs) (hls : ls.size = 4) (dc : decode cc pc = .ok (.invokevirtual idx, 3)) (hj : j < 286) (hwt : wt ((1, x) :: as) ≤ mN j) (hS : mS j = false) (hni : (mY j).name ≠ "<init>") (hk : kd σ x = mOw j + 4) (hlk : Cond.methodLink own idx (mY j) ∈ lw_good) (hn : as.length + 1 = mNa j) (hty : ∀ v ∈ as, tvV σ v)
    (hrm : (rest.map fun v => v.category).sum ≤ 8 ∧ d + 5 ≤ R.frames ∧ 64 * d + 300 ≤ R.locals) (hcl : nx σ ≤ nx σ' ∧ sl σ ≤ sl σ' ∧ cells + (nx σ' - nx σ).toNat ≤ R.cells ∧ slots + (sl σ' - sl σ).toNat ≤ R.slots) (hev : EV d j 0 (ent 0 ((1, x) :: as)) [] σ = some (r, σ'))
    (h : ∀ (H1 : Heap) (locs1 : List Loc), LB E z σ' (lf τ (nx σ')) H1 locs1 → W p l e R z m args below meth c H1 locs1 (cells + (nx σ' - nx σ).toNat) (slots + (sl σ' - sl σ).toNat) Q (F0 m (pc + 3) ls ((r.map (mv E)).head?.toList ++ rest))) :
    W p l e R z m args below meth c H locs cells slots Q (F0 m pc ls (((1, x) :: as).reverse.map (mv E) ++ rest)) := by
  obtain ⟨f1, f2, f3, f4, f5, f6, f7, f8⟩ := m_facts hj
  rw [if_neg (by rw [hS]; decide)] at f1 f6
  obtain ⟨hx, hb, hml, hown, hts, hK, hX, hz⟩ := id C
  have emc : (((nx σ' - nx σ).toNat : Nat) : Int) = nx σ' - nx σ := by omega
  have ems : (((sl σ' - sl σ).toNat : Nat) : Int) = sl σ' - sl σ := by omega
  have hkx : kd σ x ≠ 0 := by omega
  have e3 : mv E (1, x) = .ref (n0 E + x.toNat) := (I.1.pos hkx).2.2
  obtain ⟨⟨cellB, g1, g2, g3, -⟩, -⟩ := I.1.obj hk f3
  have hcls := (hK.1 _ _ (vw_get f3)).2.1
  have hrec : ∃ cellB : Cell, H[n0 E + x.toNat]? = some cellB ∧ cellB.vm.isStatics = false ∧ z.vm.findClass (cn (mOw j)) = some cellB.cls := ⟨cellB, g1, by rw [g3]; rfl, by rw [g2]; exact hcls⟩
  have hM : MX E l d j ((1, x) :: as) σ r σ' := sound ck_all hj hwt (List.forall_mem_cons.mpr ⟨Or.inr hkx, hty⟩) hev
  have hMx := hM _ _ emc ems
  rw [List.map_cons, e3] at hMx
  refine l_after (a := (Value.ref (n0 E + x.toNat) :: as.map (mv E)).toArray) C I emc h ?_
  refine va_runV (As := as.map (mv E)) (C := cn (mOw j)) (b := n0 E + x.toNat) ⟨hx, hb, hml, hown, hts⟩ hMx ⟨callB_of (ws' := lw_good) (bytes := mC j) (maxL := mN j) (ret := mR j) (mNa j - 1) hts (wsJ_good hj) rfl rfl rfl (by rw [f2]; exact hts _ (ini_in f3).1) (hts _ hlk) ⟨f5.1, f5.2, f6⟩ ⟨hrm.2.1, by show 8 + (mN j + 11) + (64 * d + 256) ≤ _; omega⟩, hts _ f1.1, hts _ (f1.2.resolve_left hni)⟩ ⟨Bd.blind E σ _, hrec, fun U hU hW => ⟨rfl, l_pre C I U hU hW⟩⟩ rfl (by rw [List.length_map]; omega) hls ?_ (by show 2 * 0 + _ ≤ 8; omega) dc ⟨by omega, by omega⟩
  show ((1, x) :: as).reverse.map (mv E) ++ rest = _
  rw [List.map_reverse, List.map_cons, List.reverse_cons, e3, List.append_assoc]
  rfl
end TWO
