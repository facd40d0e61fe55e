/-! ===== the law's start: the tables' words together; an object is made, its constructor called, beside another store ===== -/
section STB
variable {s : State} {args : Array Value}
theorem st_E (hts : ∀ w ∈ lw_tbl, w.before args s = true) (hgv : (Jvm.Cond.and given_1 narrow_1).before args s = true) (hsz : 0 < s.heap.size) : ∃ E : Ev0, s.heap.size = n0 E + 1 ∧ va_K E.1 vwCl (tyL E) s ∧ XW E s := by
  have htg : ∀ w ∈ lw_good, w.before args s = true := fun w hw => hts w (List.mem_filter.mp hw).1
  have hs := flat_of_before _ hgv
  obtain ⟨f, hf⟩ := st_cls htg
  obtain ⟨g, hg⟩ := st_arr hts
  have hA : ∀ a : Nat, a < s.heap.size → ¬ (fun q => s.heap.size - 1 < q) a := fun a ha => by
    show ¬ (s.heap.size - 1 < a)
    omega
  obtain ⟨adK, adV, hS, hT⟩ := st_str (A := fun q => s.heap.size - 1 < q) hgv hA
  refine ⟨((fun ci => (f ci).1, fun ci => (f ci).2), fun t => g (t - 20), s.heap.size - 1, adK, adV), ?_, ⟨fun c q hq => ?_, fun k q hq => ?_⟩, ?_, ⟨va_AO.of (hts (.arrayOver (.object (cn 3))) (by decide +kernel)), va_AO.of (hts (.arrayOver (.object (cn 0))) (by decide +kernel)), va_AO.of (hts (.arrayOver (.object (cn 7))) (by decide +kernel))⟩, hS, ?_, ?_, ?_, ?_⟩
  · show s.heap.size = s.heap.size - 1 + 1
    omega
  · have hc : c < 13 := (List.getElem?_eq_some_iff.mp hq).1
    rw [vw_get hc] at hq
    cases hq
    exact hf c hc
  · unfold tyL at hq
    rw [List.getElem?_map] at hq
    by_cases hk : k < 7
    · rw [List.getElem?_range hk] at hq
      cases hq
      show ArrOfT s (g (20 + k - 20)) _ ∧ va_RA s (g (20 + k - 20)) _
      rw [show 20 + k - 20 = k by omega]
      exact hg k hk
    · rw [List.getElem?_eq_none (by rw [List.length_range]; omega)] at hq
      cases hq
  · intro q hq
    have := List.all_eq_true.mp poolN_ok q hq
    rw [Bool.and_eq_true, decide_eq_true_eq] at this
    exact va_Nw.of rfl (hts _ (List.mem_of_getElem? this.1))
  · exact vk_R.of (hts _ (by decide +kernel)) (hT 0 (by decide))
  · exact vk_R.of (hts _ (by decide +kernel)) (hT 1 (by decide))
  · exact va_Zof (hts _ (by decide +kernel)) (hts _ (by decide +kernel)) (va_eqt (hs _ (by decide +kernel))) hA
  · exact va_Zqof (hts _ (by decide +kernel)) (hts _ (by decide +kernel)) (hs _ (by decide +kernel)) hA
end STB
section STC
variable {E : Ev0} {l : Launch} {p : Program} {e : Env} {R : Room} {z : State} {m : MethodId} {args : Array Value} {below : List Frame} {meth : Method} {c : Code} {cc : ByteArray} {own : String} {Q : State → Prop} {pc : Nat}
theorem l_new {ci idx : Nat} {σ τ : St} {H : Heap} {locs : List Loc} {cells slots : Nat} {ls : Array Slot} {rest : List Value} (C : CL E p z m args c cc own) (I : LB E z σ τ H locs) (dc : decode cc pc = .ok (.new idx, 3)) (hci : ci < 13) (hlk : Cond.classLink own idx (cn ci) ∈ lw_good) (hr1 : cells + 1 ≤ R.cells) (hr2 : slots + cN ci ≤ R.slots)
    (h : ∀ H1 : Heap, LB E z (nO σ ci (cN ci)) (lf τ (nx σ + 1)) H1 locs → W p l e R z m args below meth c H1 locs (cells + 1) (slots + cN ci) Q (F0 m (pc + 3) ls (mv E (1, nx σ) :: rest))) : W p l e R z m args below meth c H locs cells slots Q (F0 m pc ls rest) := by
  obtain ⟨hx, hb, hml, hown, hts, hK, hX, hz⟩ := id C
  obtain ⟨I1, I2, I3, I4⟩ := id I
  have hKn := hK.1 ci _ (vw_get hci)
  have hsz := I1.2.1
  have hsz2 := I2.2.1
  have hS1 := I3.1
  refine W.newcK hx hb hown (hts _ hlk) (hts _ (ini_in hci).2) (hts _ (ini_in hci).1) rfl dc (by omega) (by omega) hKn.2.1 rfl fun H1 kC hkC e1 z1 o1 => ?_
  have hob : t_OB H.size (E.1.1 ci) (cN ci) (E.1.2 ci) H1 (fun k => mt E (fty ci k) 0) := by
    refine ⟨_, e1, rfl, rfl, fun k hk => ?_⟩
    obtain ⟨cf, kf, fi, fd, hi, he⟩ := hKn.1 k hk
    have h3 := (u_facts hKn.2.1 hkC (u_lays hts (lay_in hci) hk) hi).2.2
    obtain ⟨ty, hpt, hft⟩ := fty_get hci hk
    rw [(State.fieldFound?_type hi hpt).2] at h3
    rw [← he]
    show _ = some (mt E (fty ci k) 0)
    rw [← def_mt E hft]
    exact k2_blank h3
  obtain ⟨g1, g2, g3, g4⟩ := I1.newO (by omega) hci hob z1 o1
  have e4 : mv E (1, nx σ) = .ref H.size := g4
  have h1 := h H1 ⟨g1, I2.lift (by omega) (by omega) (fun q hq => o1 _ ?_), ⟨by omega, fun q h1 h2 => (o1 q (by omega)).trans (I3.2.1 q h1 h2), I3.2.2⟩, fun q hq => ?_⟩
  · rw [e4] at h1
    exact h1
  · have := I2.1 q hq
    omega
  · show kd τ q = 0
    by_cases e : q = nx σ
    · by_cases hq2 : kd τ q = 0
      · exact hq2
      · have := I2.1 q hq2
        omega
    · exact I4 q (by simpa [kd, nO, e] using hq)
theorem l_callI {d j idx : Nat} {x : Int} {σ σ' τ : St} {H : Heap} {locs : List Loc} {cells slots : Nat} {ls : Array Slot} {rest : List Value} (C : CL E p z m args c cc own) (I : LB E z σ τ H locs) (hls : ls.size = 4) (dc : decode cc pc = .ok (.invokespecial idx, 3)) (hj : j < 286) (hwt : wt [(1, x)] ≤ mN j) (hS : mS j = false) (hni : (mY j).name = "<init>") (hr0 : mR j = none) (hk : kd σ x = mOw j + 4) (hlk : Cond.methodLink own idx (mY j) ∈ lw_good) (hn : 1 = mNa j)
    (hrm : (rest.map fun v => v.category).sum ≤ 8 ∧ d + 5 ≤ R.frames ∧ 64 * d + 300 ≤ R.locals) (hcl : nx σ ≤ nx σ' ∧ sl σ ≤ sl σ' ∧ cells + (nx σ' - nx σ).toNat ≤ R.cells ∧ slots + (sl σ' - sl σ).toNat ≤ R.slots) (hev : EV d j 0 (ent 0 [(1, x)]) [] σ = some ([], σ'))
    (h : ∀ (H1 : Heap) (locs1 : List Loc), LB E z σ' (lf τ (nx σ')) H1 locs1 → W p l e R z m args below meth c H1 locs1 (cells + (nx σ' - nx σ).toNat) (slots + (sl σ' - sl σ).toNat) Q (F0 m (pc + 3) ls rest)) :
    W p l e R z m args below meth c H locs cells slots Q (F0 m pc ls (mv E (1, x) :: rest)) := by
  obtain ⟨f1, f2, f3, f4, f5, f6, f7, f8⟩ := m_facts hj
  rw [if_neg (by rw [hS]; decide)] at f1 f6
  obtain ⟨hx, hb, hml, hown, hts, hK, hX, hz⟩ := id C
  have emc : (((nx σ' - nx σ).toNat : Nat) : Int) = nx σ' - nx σ := by omega
  have ems : (((sl σ' - sl σ).toNat : Nat) : Int) = sl σ' - sl σ := by omega
  have hkx : kd σ x ≠ 0 := by omega
  have e3 : mv E (1, x) = .ref (n0 E + x.toNat) := (I.1.pos hkx).2.2
  have hM : MX E l d j [(1, x)] σ [] σ' := sound ck_all hj hwt (List.forall_mem_cons.mpr ⟨Or.inr hkx, fun v hv => by cases hv⟩) hev
  have hMx := hM _ _ emc ems
  rw [List.map_cons, e3] at hMx
  have hg := wsJ_good hj
  unfold wsJ at hMx hg
  rw [hr0] at hMx hg
  refine l_after (r := []) (a := (Value.ref (n0 E + x.toNat) :: ([] : List Value)).toArray) C I emc h ?_
  refine va_runI (As := []) (b := n0 E + x.toNat) ⟨hx, hb, hml, hown, hts⟩ hMx ⟨callB_of (ws' := lw_good) (bytes := mC j) (maxL := mN j) (ret := none) (mNa j - 1) hts hg rfl rfl rfl (by rw [f2]; exact hts _ (ini_in f3).1) (hts _ hlk) ⟨f5.1, f5.2, f6⟩ ⟨hrm.2.1, by show 8 + (mN j + 11) + (64 * d + 256) ≤ _; omega⟩, hni, hts _ f1.1⟩ ⟨Bd.blind E σ _, fun U hU hW => ⟨rfl, l_pre C I U hU hW⟩⟩ rfl (by simp; omega) hls ?_ (by show 2 * 0 + _ ≤ 8; omega) dc ⟨by omega, by omega⟩
  rw [e3]
  rfl
end STC
