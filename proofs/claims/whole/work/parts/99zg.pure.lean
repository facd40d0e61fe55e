/-! ===== every call of the law: class and reference answer as the abstract state tells; printed by wip/whole/tools/mk_pure.py ===== -/
def Rel0 (py : Int) (σ τ : St) : Prop := py = 98 ∧ ∃ a : Ab, wfA a ∧ RepC a σ ∧ Fz σ ∧ RepM a τ
def StepQ (q : Lw) : Prop := ∀ as : List V, as.length = q.2.1 → (∀ v ∈ as, v.1 = 0 ∧ rg v.2) → ∀ (py : Int) (σ τ : St), Rel0 py σ τ → nx σ = nx τ →
  ∃ (v : Int) (σ' τ' : St), EV 60 q.2.2.1 0 (ent 0 ((1, 1) :: as)) [] σ = some ([(0, v)], σ') ∧ EV 60 q.2.2.2.1 0 (ent 0 ((1, py) :: as)) [] (lf τ (nx σ')) = some ([(0, v)], τ') ∧ (nx σ ≤ nx σ' ∧ sl σ ≤ sl σ') ∧ (nx σ' ≤ nx τ' ∧ sl τ ≤ sl τ') ∧ nx τ' ≤ nx σ + 27 ∧ (sl σ' - sl σ) + (sl τ' - sl τ) ≤ 594 ∧ Rel0 py (lf σ' (nx τ')) τ'
section PUR
variable {σ τ s s' : St} {a a' : Ab} {v : Int} {d jc jm : Nat} {as : List V} {r : Res}
theorem step_mk {q : Lw} (hc : Gl (GI fun x s' => x = v ∧ RepC a' s' ∧ Fz s' ∧ (nx σ ≤ nx s' ∧ nx s' ≤ nx σ + 27) ∧ (sl σ ≤ sl s' ∧ sl s' ≤ sl σ + 594)) (EV 60 q.2.2.1 0 (ent 0 ((1, 1) :: as)) [] σ)) (hm : ∀ n, Gl (GI fun x s' => x = v ∧ RepM a' s') (EV 60 q.2.2.2.1 0 (ent 0 ((1, 98) :: as)) [] (lf τ n))) (hj : okB q.2.2.2.1 = true) (W' : wfA a') (hn : nx σ = nx τ) : ∃ (v : Int) (σ' τ' : St), EV 60 q.2.2.1 0 (ent 0 ((1, 1) :: as)) [] σ = some ([(0, v)], σ') ∧ EV 60 q.2.2.2.1 0 (ent 0 ((1, 98) :: as)) [] (lf τ (nx σ')) = some ([(0, v)], τ') ∧ (nx σ ≤ nx σ' ∧ sl σ ≤ sl σ') ∧ (nx σ' ≤ nx τ' ∧ sl τ ≤ sl τ') ∧ nx τ' ≤ nx σ + 27 ∧ (sl σ' - sl σ) + (sl τ' - sl τ) ≤ 594 ∧ Rel0 98 (lf σ' (nx τ')) τ' := by
  obtain ⟨x, s1, e1, hx, R1, Z1, ⟨n1, n2⟩, ⟨l1, l2⟩⟩ := hc
  obtain ⟨y, s2, e2, hy, R2⟩ := hm (nx s1)
  subst hx
  subst hy
  obtain ⟨q1, q2⟩ := ShM.nx e2 hj
  have q1' : nx s2 = nx s1 := q1
  have q2' : sl s2 = sl τ := q2
  refine ⟨_, s1, s2, e1, e2, ⟨n1, l1⟩, ⟨by omega, by omega⟩, by omega, by omega, rfl, a', W', ?_, ?_, R2⟩
  · rw [q1']
    exact R1
  · rw [q1']
    exact Z1
theorem cls_n (hj : okB jc = true) (Z : Fz σ) (h : Gl (GI fun x s' => x = v ∧ RepC a' s') (EV d jc 0 (ent 0 ((1, 1) :: as)) [] σ)) : Gl (GI fun x s' => x = v ∧ RepC a' s' ∧ Fz s' ∧ (nx σ ≤ nx s' ∧ nx s' ≤ nx σ + 27) ∧ (sl σ ≤ sl s' ∧ sl s' ≤ sl σ + 594)) (EV d jc 0 (ent 0 ((1, 1) :: as)) [] σ) := by
  obtain ⟨x, s1, e1, h1, R1⟩ := h
  have p := ev_pv e1 hj
  have p1 := p.1
  have p2 := p.2.1
  have p3 := p.2.2.1
  refine ⟨x, s1, e1, h1, R1, fun q hq => ?_, by omega, by omega⟩
  rw [p1 q]
  exact Z q (by omega)
theorem as0 (h : as.length = 0) : as = [] := List.eq_nil_of_length_eq_zero h
theorem as_s {n : Nat} (h : as.length = n + 1) (hv : ∀ v ∈ as, v.1 = 0 ∧ rg v.2) : ∃ x r, as = (0, x) :: r ∧ r.length = n ∧ rg x ∧ ∀ v ∈ r, v.1 = 0 ∧ rg v.2 := by
  match as, h, hv with
  | (t, x) :: r, h, hv =>
    have h1 := hv (t, x) (by simp)
    have ht : t = 0 := h1.1
    subst ht
    exact ⟨x, r, rfl, by simpa using h, h1.2, fun v hm => hv v (by simp [hm])⟩
end PUR
theorem pu_knot : StepQ (200, 3, 100, 170, 13, 17, 615, 1496) := by
  intro as hl hv py σ τ ⟨hpy, a, W, RC, Z, RM⟩ hn
  subst hpy
  obtain ⟨x1, r1, e1, l1, h1, v1⟩ := as_s hl hv
  subst e1
  obtain ⟨x2, r2, e2, l2, h2, v2⟩ := as_s l1 v1
  subst e2
  obtain ⟨x3, r3, e3, l3, h3, v3⟩ := as_s l2 v2
  subst e3
  have e0 := as0 l3
  subst e0
  have hc : Gl (GI fun x s' => x = (aKnot a x1 x2 x3).1 ∧ RepC (aKnot a x1 x2 x3).2 s') (X11_knot 60 σ 1 x1 x2 x3) := cc_knot (d := 58) RC W
  have hm : ∀ n, Gl (GI fun x s' => x = (aKnot a x1 x2 x3).1 ∧ RepM (aKnot a x1 x2 x3).2 s') (X12_knot 60 (lf τ n) 98 x1 x2 x3) := fun n => mm_knot (d := 57) (RM.lift n) W
  exact step_mk (q := (200, 3, 100, 170, 13, 17, 615, 1496)) (cls_n (by decide +kernel) Z hc) hm (by decide +kernel) (wf_knot W) hn
theorem pu_of : StepQ (243, 2, 101, 171, 18, 22, 642, 1511) := by
  intro as hl hv py σ τ ⟨hpy, a, W, RC, Z, RM⟩ hn
  subst hpy
  obtain ⟨x1, r1, e1, l1, h1, v1⟩ := as_s hl hv
  subst e1
  obtain ⟨x2, r2, e2, l2, h2, v2⟩ := as_s l1 v1
  subst e2
  have e0 := as0 l2
  subst e0
  have hc : Gl (GI fun x s' => x = aOf a.1 x1 x2 ∧ RepC a s') (X11_of 60 σ 1 x1 x2) := cc_of (d := 56) (hw := h2.2) RC W
  have hm : ∀ n, Gl (GI fun x s' => x = aOf a.1 x1 x2 ∧ RepM a s') (X12_of 60 (lf τ n) 98 x1 x2) := fun n => mm_of (d := 11) (hw := h2) (RM.lift n) W
  exact step_mk (q := (243, 2, 101, 171, 18, 22, 642, 1511)) (cls_n (by decide +kernel) Z hc) hm (by decide +kernel) W hn
theorem pu_terms : StepQ (276, 2, 102, 173, 23, 26, 699, 1627) := by
  intro as hl hv py σ τ ⟨hpy, a, W, RC, Z, RM⟩ hn
  subst hpy
  obtain ⟨x1, r1, e1, l1, h1, v1⟩ := as_s hl hv
  subst e1
  obtain ⟨x2, r2, e2, l2, h2, v2⟩ := as_s l1 v1
  subst e2
  have e0 := as0 l2
  subst e0
  have hc : Gl (GI fun x s' => x = (aTerms a x1 x2).1 ∧ RepC (aTerms a x1 x2).2 s') (X11_terms 60 σ 1 x1 x2) := cc_terms (d := 59) RC W
  have hm : ∀ n, Gl (GI fun x s' => x = (aTerms a x1 x2).1 ∧ RepM (aTerms a x1 x2).2 s') (X12_terms 60 (lf τ n) 98 x1 x2) := fun n => mm_terms (d := 58) (RM.lift n) W
  exact step_mk (q := (276, 2, 102, 173, 23, 26, 699, 1627)) (cls_n (by decide +kernel) Z hc) hm (by decide +kernel) (wf_terms W) hn
theorem pu_feed : StepQ (309, 5, 103, 176, 27, 31, 703, 1642) := by
  intro as hl hv py σ τ ⟨hpy, a, W, RC, Z, RM⟩ hn
  subst hpy
  obtain ⟨x1, r1, e1, l1, h1, v1⟩ := as_s hl hv
  subst e1
  obtain ⟨x2, r2, e2, l2, h2, v2⟩ := as_s l1 v1
  subst e2
  obtain ⟨x3, r3, e3, l3, h3, v3⟩ := as_s l2 v2
  subst e3
  obtain ⟨x4, r4, e4, l4, h4, v4⟩ := as_s l3 v3
  subst e4
  obtain ⟨x5, r5, e5, l5, h5, v5⟩ := as_s l4 v4
  subst e5
  have e0 := as0 l5
  subst e0
  have hc : Gl (GI fun x s' => x = (aFeed a x1 x2 x3 x4 x5).1 ∧ RepC (aFeed a x1 x2 x3 x4 x5).2 s') (X11_feed 60 σ 1 x1 x2 x3 x4 x5) := cc_feed (d := 59) RC W
  have hm : ∀ n, Gl (GI fun x s' => x = (aFeed a x1 x2 x3 x4 x5).1 ∧ RepM (aFeed a x1 x2 x3 x4 x5).2 s') (X12_feed 60 (lf τ n) 98 x1 x2 x3 x4 x5) := fun n => mm_feed (d := 60) (hv := ⟨h1, h2, h3, h4, h5⟩) (RM.lift n) W
  exact step_mk (q := (309, 5, 103, 176, 27, 31, 703, 1642)) (cls_n (by decide +kernel) Z hc) hm (by decide +kernel) (wf_feed W) hn
theorem pu_end : StepQ (372, 1, 104, 177, 32, 36, 711, 1646) := by
  intro as hl hv py σ τ ⟨hpy, a, W, RC, Z, RM⟩ hn
  subst hpy
  obtain ⟨x1, r1, e1, l1, h1, v1⟩ := as_s hl hv
  subst e1
  have e0 := as0 l1
  subst e0
  have hc : Gl (GI fun x s' => x = (aEnd a x1).1 ∧ RepC (aEnd a x1).2 s') (X11_end 60 σ 1 x1) := cc_end (d := 60) RC W
  have hm : ∀ n, Gl (GI fun x s' => x = (aEnd a x1).1 ∧ RepM (aEnd a x1).2 s') (X12_end 60 (lf τ n) 98 x1) := fun n => mm_end (d := 59) (RM.lift n) W
  exact step_mk (q := (372, 1, 104, 177, 32, 36, 711, 1646)) (cls_n (by decide +kernel) Z hc) hm (by decide +kernel) (wf_end W) hn
theorem pu_row : StepQ (395, 0, 105, 174, 37, 41, 715, 1634) := by
  intro as hl hv py σ τ ⟨hpy, a, W, RC, Z, RM⟩ hn
  subst hpy
  have e0 := as0 hl
  subst e0
  have hc : Gl (GI fun x s' => x = (aRow a).1 ∧ RepC (aRow a).2 s') (X11_row 60 σ 1 ) := cc_row (d := 58) RC W
  have hm : ∀ n, Gl (GI fun x s' => x = (aRow a).1 ∧ RepM (aRow a).2 s') (X12_row 60 (lf τ n) 98 ) := fun n => mm_row (d := 57) (RM.lift n) W
  exact step_mk (q := (395, 0, 105, 174, 37, 41, 715, 1634)) (cls_n (by decide +kernel) Z hc) hm (by decide +kernel) (wf_row W) hn
theorem pu_lint : StepQ (408, 0, 106, 175, 42, 45, 723, 1638) := by
  intro as hl hv py σ τ ⟨hpy, a, W, RC, Z, RM⟩ hn
  subst hpy
  have e0 := as0 hl
  subst e0
  have hc : Gl (GI fun x s' => x = a.2.2.2.2.1.2.1 ∧ RepC a s') (X11_lint 60 σ 1 ) := cc_lint (d := 60) RC
  have hm : ∀ n, Gl (GI fun x s' => x = a.2.2.2.2.1.2.1 ∧ RepM a s') (X12_lint 60 (lf τ n) 98 ) := fun n => mm_lint (d := 60) (RM.lift n)
  exact step_mk (q := (408, 0, 106, 175, 42, 45, 723, 1638)) (cls_n (by decide +kernel) Z hc) hm (by decide +kernel) W hn
theorem pu_law : StepQ (421, 0, 107, 201, 46, 49, 727, 1650) := by
  intro as hl hv py σ τ ⟨hpy, a, W, RC, Z, RM⟩ hn
  subst hpy
  have e0 := as0 hl
  subst e0
  have hc : Gl (GI fun x s' => x = (aLaw a).1 ∧ RepC (aLaw a).2 s' ∧ Fz s' ∧ (nx σ ≤ nx s' ∧ nx s' ≤ nx σ + 27) ∧ (sl σ ≤ sl s' ∧ sl s' ≤ sl σ + 594)) (X11_law 60 σ 1 ) := wkI (cc_law (d := 35) RC W Z) fun x s' _ ⟨q1, q2, q3, ⟨q4, q5⟩, ⟨q6, q7⟩⟩ => ⟨q1, q2, q3, ⟨q4, by omega⟩, ⟨q6, by omega⟩⟩
  have hm : ∀ n, Gl (GI fun x s' => x = (aLaw a).1 ∧ RepM (aLaw a).2 s') (X12_law 60 (lf τ n) 98 ) := fun n => mm_law (d := 11) (RM.lift n) W
  exact step_mk (q := (421, 0, 107, 201, 46, 49, 727, 1650)) (hc) hm (by decide +kernel) (wf_law W) hn
theorem pu_orders : StepQ (434, 0, 108, 275, 50, 53, 865, 1935) := by
  intro as hl hv py σ τ ⟨hpy, a, W, RC, Z, RM⟩ hn
  subst hpy
  have e0 := as0 hl
  subst e0
  have hc : Gl (GI fun x s' => x = (aOrd a).1 ∧ RepC (aOrd a).2 s') (X11_orders 60 σ 1 ) := cc_orders (d := 35) RC W
  have hm : ∀ n, Gl (GI fun x s' => x = (aOrd a).1 ∧ RepM (aOrd a).2 s') (X12_orders 60 (lf τ n) 98 ) := fun n => mm_orders (d := 9) (RM.lift n) W
  exact step_mk (q := (434, 0, 108, 275, 50, 53, 865, 1935)) (cls_n (by decide +kernel) Z hc) hm (by decide +kernel) (wf_ord W) hn
theorem pu_fault : StepQ (447, 0, 109, 202, 54, 57, 970, 1741) := by
  intro as hl hv py σ τ ⟨hpy, a, W, RC, Z, RM⟩ hn
  subst hpy
  have e0 := as0 hl
  subst e0
  have hc : Gl (GI fun x s' => x = a.2.2.2.2.1.2.2.1 ∧ RepC a s') (X11_fault 60 σ 1 ) := cc_fault (d := 60) RC
  have hm : ∀ n, Gl (GI fun x s' => x = a.2.2.2.2.1.2.2.1 ∧ RepM a s') (X12_fault 60 (lf τ n) 98 ) := fun n => mm_fault (d := 60) (RM.lift n)
  exact step_mk (q := (447, 0, 109, 202, 54, 57, 970, 1741)) (cls_n (by decide +kernel) Z hc) hm (by decide +kernel) W hn
theorem pu_stopped : StepQ (460, 0, 110, 274, 58, 61, 974, 1931) := by
  intro as hl hv py σ τ ⟨hpy, a, W, RC, Z, RM⟩ hn
  subst hpy
  have e0 := as0 hl
  subst e0
  have hc : Gl (GI fun x s' => x = a.2.2.2.2.1.2.2.2 ∧ RepC a s') (X11_stopped 60 σ 1 ) := cc_stopped (d := 60) RC
  have hm : ∀ n, Gl (GI fun x s' => x = a.2.2.2.2.1.2.2.2 ∧ RepM a s') (X12_stopped 60 (lf τ n) 98 ) := fun n => mm_stopped (d := 60) (RM.lift n)
  exact step_mk (q := (460, 0, 110, 274, 58, 61, 974, 1931)) (cls_n (by decide +kernel) Z hc) hm (by decide +kernel) W hn
theorem pu_force : StepQ (473, 1, 111, 203, 62, 65, 978, 1745) := by
  intro as hl hv py σ τ ⟨hpy, a, W, RC, Z, RM⟩ hn
  subst hpy
  obtain ⟨x1, r1, e1, l1, h1, v1⟩ := as_s hl hv
  subst e1
  have e0 := as0 l1
  subst e0
  have hc : Gl (GI fun x s' => x = (aForce a x1).1 ∧ RepC (aForce a x1).2 s') (X11_force 60 σ 1 x1) := cc_force (d := 59) RC W
  have hm : ∀ n, Gl (GI fun x s' => x = (aForce a x1).1 ∧ RepM (aForce a x1).2 s') (X12_force 60 (lf τ n) 98 x1) := fun n => mm_force (d := 59) (RM.lift n) W
  exact step_mk (q := (473, 1, 111, 203, 62, 65, 978, 1745)) (cls_n (by decide +kernel) Z hc) hm (by decide +kernel) (wf_force W) hn
theorem pu_asks : StepQ (496, 3, 112, 232, 66, 69, 982, 1757) := by
  intro as hl hv py σ τ ⟨hpy, a, W, RC, Z, RM⟩ hn
  subst hpy
  obtain ⟨x1, r1, e1, l1, h1, v1⟩ := as_s hl hv
  subst e1
  obtain ⟨x2, r2, e2, l2, h2, v2⟩ := as_s l1 v1
  subst e2
  obtain ⟨x3, r3, e3, l3, h3, v3⟩ := as_s l2 v2
  subst e3
  have e0 := as0 l3
  subst e0
  have hc : Gl (GI fun x s' => x = aAsks a.1 x1 x2 x3 ∧ RepC a s') (X11_asks 60 σ 1 x1 x2 x3) := cc_asks (d := 56) RC W
  have hm : ∀ n, Gl (GI fun x s' => x = aAsks a.1 x1 x2 x3 ∧ RepM a s') (X12_asks 60 (lf τ n) 98 x1 x2 x3) := fun n => mm_asks (d := 13) (RM.lift n) W
  exact step_mk (q := (496, 3, 112, 232, 66, 69, 982, 1757)) (cls_n (by decide +kernel) Z hc) hm (by decide +kernel) W hn
theorem pu_lay : StepQ (539, 2, 113, 241, 70, 73, 988, 1769) := by
  intro as hl hv py σ τ ⟨hpy, a, W, RC, Z, RM⟩ hn
  subst hpy
  obtain ⟨x1, r1, e1, l1, h1, v1⟩ := as_s hl hv
  subst e1
  obtain ⟨x2, r2, e2, l2, h2, v2⟩ := as_s l1 v1
  subst e2
  have e0 := as0 l2
  subst e0
  have hc : Gl (GI fun x s' => x = (aOut (dLay a x1 x2)).1 ∧ RepC (aOut (dLay a x1 x2)).2 s') (X11_lay 60 σ 1 x1 x2) := cc_lay (d := 55) RC W
  have hm : ∀ n, Gl (GI fun x s' => x = (aOut (dLay a x1 x2)).1 ∧ RepM (aOut (dLay a x1 x2)).2 s') (X12_lay 60 (lf τ n) 98 x1 x2) := fun n => mm_lay (d := 11) (RM.lift n) W
  exact step_mk (q := (539, 2, 113, 241, 70, 73, 988, 1769)) (cls_n (by decide +kernel) Z hc) hm (by decide +kernel) (wf_out (wf_dLay W).1) hn
theorem pu_through : StepQ (572, 1, 114, 242, 74, 77, 993, 1785) := by
  intro as hl hv py σ τ ⟨hpy, a, W, RC, Z, RM⟩ hn
  subst hpy
  obtain ⟨x1, r1, e1, l1, h1, v1⟩ := as_s hl hv
  subst e1
  have e0 := as0 l1
  subst e0
  have hc : Gl (GI fun x s' => x = (aOut (dThr a x1)).1 ∧ RepC (aOut (dThr a x1)).2 s') (X11_through 60 σ 1 x1) := cc_through (d := 55) RC W
  have hm : ∀ n, Gl (GI fun x s' => x = (aOut (dThr a x1)).1 ∧ RepM (aOut (dThr a x1)).2 s') (X12_through 60 (lf τ n) 98 x1) := fun n => mm_through (d := 56) (RM.lift n) W
  exact step_mk (q := (572, 1, 114, 242, 74, 77, 993, 1785)) (cls_n (by decide +kernel) Z hc) hm (by decide +kernel) (wf_out (wf_dThr W).1) hn
theorem pu_draw : StepQ (595, 1, 115, 243, 78, 81, 998, 1797) := by
  intro as hl hv py σ τ ⟨hpy, a, W, RC, Z, RM⟩ hn
  subst hpy
  obtain ⟨x1, r1, e1, l1, h1, v1⟩ := as_s hl hv
  subst e1
  have e0 := as0 l1
  subst e0
  have hc : Gl (GI fun x s' => x = (aOut (dDrw a x1)).1 ∧ RepC (aOut (dDrw a x1)).2 s') (X11_draw 60 σ 1 x1) := cc_draw (d := 55) RC W
  have hm : ∀ n, Gl (GI fun x s' => x = (aOut (dDrw a x1)).1 ∧ RepM (aOut (dDrw a x1)).2 s') (X12_draw 60 (lf τ n) 98 x1) := fun n => mm_draw (d := 56) (RM.lift n) W
  exact step_mk (q := (595, 1, 115, 243, 78, 81, 998, 1797)) (cls_n (by decide +kernel) Z hc) hm (by decide +kernel) (wf_out (wf_dDrw W).1) hn
theorem pu_mirror : StepQ (618, 1, 116, 244, 82, 85, 1003, 1805) := by
  intro as hl hv py σ τ ⟨hpy, a, W, RC, Z, RM⟩ hn
  subst hpy
  obtain ⟨x1, r1, e1, l1, h1, v1⟩ := as_s hl hv
  subst e1
  have e0 := as0 l1
  subst e0
  have hc : Gl (GI fun x s' => x = (aOut (dMir a x1)).1 ∧ RepC (aOut (dMir a x1)).2 s') (X11_mirror 60 σ 1 x1) := cc_mirror (d := 55) RC W
  have hm : ∀ n, Gl (GI fun x s' => x = (aOut (dMir a x1)).1 ∧ RepM (aOut (dMir a x1)).2 s') (X12_mirror 60 (lf τ n) 98 x1) := fun n => mm_mirror (d := 56) (RM.lift n) W
  exact step_mk (q := (618, 1, 116, 244, 82, 85, 1003, 1805)) (cls_n (by decide +kernel) Z hc) hm (by decide +kernel) (wf_out (wf_dMir W).1) hn
theorem pu_undo : StepQ (641, 0, 117, 234, 86, 89, 1008, 1765) := by
  intro as hl hv py σ τ ⟨hpy, a, W, RC, Z, RM⟩ hn
  subst hpy
  have e0 := as0 hl
  subst e0
  have hc : Gl (GI fun x s' => x = (aOut (dUnd a)).1 ∧ RepC (aOut (dUnd a)).2 s') (X11_undo 60 σ 1 ) := cc_undo (d := 55) RC W
  have hm : ∀ n, Gl (GI fun x s' => x = (aOut (dUnd a)).1 ∧ RepM (aOut (dUnd a)).2 s') (X12_undo 60 (lf τ n) 98 ) := fun n => mm_undo (d := 59) (RM.lift n) W
  exact step_mk (q := (641, 0, 117, 234, 86, 89, 1008, 1765)) (cls_n (by decide +kernel) Z hc) hm (by decide +kernel) (wf_out (wf_dUnd W).1) hn
theorem pu_front : StepQ (654, 2, 118, 231, 90, 93, 1016, 1749) := by
  intro as hl hv py σ τ ⟨hpy, a, W, RC, Z, RM⟩ hn
  subst hpy
  obtain ⟨x1, r1, e1, l1, h1, v1⟩ := as_s hl hv
  subst e1
  obtain ⟨x2, r2, e2, l2, h2, v2⟩ := as_s l1 v1
  subst e2
  have e0 := as0 l2
  subst e0
  have hc : Gl (GI fun x s' => x = aFront a.1 x1 x2 ∧ RepC a s') (X11_front 60 σ 1 x1 x2) := cc_front (d := 59) RC W
  have hm : ∀ n, Gl (GI fun x s' => x = aFront a.1 x1 x2 ∧ RepM a s') (X12_front 60 (lf τ n) 98 x1 x2) := fun n => mm_front (d := 57) (RM.lift n) W
  exact step_mk (q := (654, 2, 118, 231, 90, 93, 1016, 1749)) (cls_n (by decide +kernel) Z hc) hm (by decide +kernel) W hn
theorem pu_ways : StepQ (687, 2, 119, 256, 94, 97, 1026, 1816) := by
  intro as hl hv py σ τ ⟨hpy, a, W, RC, Z, RM⟩ hn
  subst hpy
  obtain ⟨x1, r1, e1, l1, h1, v1⟩ := as_s hl hv
  subst e1
  obtain ⟨x2, r2, e2, l2, h2, v2⟩ := as_s l1 v1
  subst e2
  have e0 := as0 l2
  subst e0
  have hc : Gl (GI fun x s' => x = aWays a.1 x1 x2 ∧ RepC a s') (X11_ways 60 σ 1 x1 x2) := cc_ways (d := 30) RC W
  have hm : ∀ n, Gl (GI fun x s' => x = aWays a.1 x1 x2 ∧ RepM a s') (X12_ways 60 (lf τ n) 98 x1 x2) := fun n => mm_ways (d := 12) (RM.lift n) W
  exact step_mk (q := (687, 2, 119, 256, 94, 97, 1026, 1816)) (cls_n (by decide +kernel) Z hc) hm (by decide +kernel) W hn
theorem pu_word : StepQ (720, 3, 120, 257, 98, 101, 1083, 1852) := by
  intro as hl hv py σ τ ⟨hpy, a, W, RC, Z, RM⟩ hn
  subst hpy
  obtain ⟨x1, r1, e1, l1, h1, v1⟩ := as_s hl hv
  subst e1
  obtain ⟨x2, r2, e2, l2, h2, v2⟩ := as_s l1 v1
  subst e2
  obtain ⟨x3, r3, e3, l3, h3, v3⟩ := as_s l2 v2
  subst e3
  have e0 := as0 l3
  subst e0
  have hc : Gl (GI fun x s' => x = aWord a.1 x1 x2 x3 ∧ RepC a s') (X11_word 60 σ 1 x1 x2 x3) := cc_word (d := 30) RC W
  have hm : ∀ n, Gl (GI fun x s' => x = aWord a.1 x1 x2 x3 ∧ RepM a s') (X12_word 60 (lf τ n) 98 x1 x2 x3) := fun n => mm_word (d := 12) (hk2 := h1) (RM.lift n) W
  exact step_mk (q := (720, 3, 120, 257, 98, 101, 1083, 1852)) (cls_n (by decide +kernel) Z hc) hm (by decide +kernel) W hn
theorem pu_rank : StepQ (763, 1, 121, 259, 102, 105, 1091, 1856) := by
  intro as hl hv py σ τ ⟨hpy, a, W, RC, Z, RM⟩ hn
  subst hpy
  obtain ⟨x1, r1, e1, l1, h1, v1⟩ := as_s hl hv
  subst e1
  have e0 := as0 l1
  subst e0
  have hc : Gl (GI fun x s' => x = aRank a.1 x1 ∧ RepC a s') (X11_rank 60 σ 1 x1) := cc_rank (d := 30) RC W
  have hm : ∀ n, Gl (GI fun x s' => x = aRank a.1 x1 ∧ RepM a s') (X12_rank 60 (lf τ n) 98 x1) := fun n => mm_rank (d := 12) (RM.lift n) W
  exact step_mk (q := (763, 1, 121, 259, 102, 105, 1091, 1856)) (cls_n (by decide +kernel) Z hc) hm (by decide +kernel) W hn
theorem pu_best : StepQ (786, 2, 122, 261, 106, 109, 1099, 1864) := by
  intro as hl hv py σ τ ⟨hpy, a, W, RC, Z, RM⟩ hn
  subst hpy
  obtain ⟨x1, r1, e1, l1, h1, v1⟩ := as_s hl hv
  subst e1
  obtain ⟨x2, r2, e2, l2, h2, v2⟩ := as_s l1 v1
  subst e2
  have e0 := as0 l2
  subst e0
  have hc : Gl (GI fun x s' => x = aBest a.1 x1 x2 ∧ RepC a s') (X11_best 60 σ 1 x1 x2) := cc_best (d := 30) (hw := h2.2) RC W
  have hm : ∀ n, Gl (GI fun x s' => x = aBest a.1 x1 x2 ∧ RepM a s') (X12_best 60 (lf τ n) 98 x1 x2) := fun n => mm_best (d := 12) (hw := h2) (RM.lift n) W
  exact step_mk (q := (786, 2, 122, 261, 106, 109, 1099, 1864)) (cls_n (by decide +kernel) Z hc) hm (by decide +kernel) W hn
theorem pu_change : StepQ (819, 2, 123, 262, 110, 113, 1130, 1880) := by
  intro as hl hv py σ τ ⟨hpy, a, W, RC, Z, RM⟩ hn
  subst hpy
  obtain ⟨x1, r1, e1, l1, h1, v1⟩ := as_s hl hv
  subst e1
  obtain ⟨x2, r2, e2, l2, h2, v2⟩ := as_s l1 v1
  subst e2
  have e0 := as0 l2
  subst e0
  have hc : Gl (GI fun x s' => x = aChange a.1 x1 x2 ∧ RepC a s') (X11_change 60 σ 1 x1 x2) := cc_change (d := 29) RC W
  have hm : ∀ n, Gl (GI fun x s' => x = aChange a.1 x1 x2 ∧ RepM a s') (X12_change 60 (lf τ n) 98 x1 x2) := fun n => mm_change (d := 12) (RM.lift n) W
  exact step_mk (q := (819, 2, 123, 262, 110, 113, 1130, 1880)) (cls_n (by decide +kernel) Z hc) hm (by decide +kernel) W hn
theorem pu_alike : StepQ (852, 2, 124, 263, 114, 117, 1139, 1884) := by
  intro as hl hv py σ τ ⟨hpy, a, W, RC, Z, RM⟩ hn
  subst hpy
  obtain ⟨x1, r1, e1, l1, h1, v1⟩ := as_s hl hv
  subst e1
  obtain ⟨x2, r2, e2, l2, h2, v2⟩ := as_s l1 v1
  subst e2
  have e0 := as0 l2
  subst e0
  have hc : Gl (GI fun x s' => x = aAlike a.1 x1 x2 ∧ RepC a s') (X11_alike 60 σ 1 x1 x2) := cc_alike (d := 30) RC W
  have hm : ∀ n, Gl (GI fun x s' => x = aAlike a.1 x1 x2 ∧ RepM a s') (X12_alike 60 (lf τ n) 98 x1 x2) := fun n => mm_alike (d := 12) (RM.lift n) W
  exact step_mk (q := (852, 2, 124, 263, 114, 117, 1139, 1884)) (cls_n (by decide +kernel) Z hc) hm (by decide +kernel) W hn
theorem pu_sight : StepQ (885, 2, 125, 264, 118, 121, 1153, 1891) := by
  intro as hl hv py σ τ ⟨hpy, a, W, RC, Z, RM⟩ hn
  subst hpy
  obtain ⟨x1, r1, e1, l1, h1, v1⟩ := as_s hl hv
  subst e1
  obtain ⟨x2, r2, e2, l2, h2, v2⟩ := as_s l1 v1
  subst e2
  have e0 := as0 l2
  subst e0
  have hc : Gl (GI fun x s' => x = (aSight a x1 x2).1 ∧ RepC (aSight a x1 x2).2 s') (X11_sight 60 σ 1 x1 x2) := cc_sight (d := 59) RC W
  have hm : ∀ n, Gl (GI fun x s' => x = (aSight a x1 x2).1 ∧ RepM (aSight a x1 x2).2 s') (X12_sight 60 (lf τ n) 98 x1 x2) := fun n => mm_sight (d := 59) (RM.lift n) W
  exact step_mk (q := (885, 2, 125, 264, 118, 121, 1153, 1891)) (cls_n (by decide +kernel) Z hc) hm (by decide +kernel) (wf_sight W) hn
theorem pu_forget : StepQ (918, 0, 126, 265, 122, 125, 1161, 1895) := by
  intro as hl hv py σ τ ⟨hpy, a, W, RC, Z, RM⟩ hn
  subst hpy
  have e0 := as0 hl
  subst e0
  have hc : Gl (GI fun x s' => x = (aForget a).1 ∧ RepC (aForget a).2 s') (X11_forget 60 σ 1 ) := cc_forget (d := 60) RC W
  have hm : ∀ n, Gl (GI fun x s' => x = (aForget a).1 ∧ RepM (aForget a).2 s') (X12_forget 60 (lf τ n) 98 ) := fun n => mm_forget (d := 60) (RM.lift n) W
  exact step_mk (q := (918, 0, 126, 265, 122, 125, 1161, 1895)) (cls_n (by decide +kernel) Z hc) hm (by decide +kernel) (wf_forget W) hn
theorem pu_fits : StepQ (931, 4, 127, 267, 126, 130, 1165, 1899) := by
  intro as hl hv py σ τ ⟨hpy, a, W, RC, Z, RM⟩ hn
  subst hpy
  obtain ⟨x1, r1, e1, l1, h1, v1⟩ := as_s hl hv
  subst e1
  obtain ⟨x2, r2, e2, l2, h2, v2⟩ := as_s l1 v1
  subst e2
  obtain ⟨x3, r3, e3, l3, h3, v3⟩ := as_s l2 v2
  subst e3
  obtain ⟨x4, r4, e4, l4, h4, v4⟩ := as_s l3 v3
  subst e4
  have e0 := as0 l4
  subst e0
  have hc : Gl (GI fun x s' => x = aFits a.1 x1 x2 x3 x4 ∧ RepC a s') (X11_fits 60 σ 1 x1 x2 x3 x4) := cc_fits (d := 28) RC W
  have hm : ∀ n, Gl (GI fun x s' => x = aFits a.1 x1 x2 x3 x4 ∧ RepM a s') (X12_fits 60 (lf τ n) 98 x1 x2 x3 x4) := fun n => mm_fits (d := 12) (RM.lift n) W
  exact step_mk (q := (931, 4, 127, 267, 126, 130, 1165, 1899)) (cls_n (by decide +kernel) Z hc) hm (by decide +kernel) W hn
theorem pu_look : StepQ (984, 2, 128, 268, 131, 134, 1182, 1907) := by
  intro as hl hv py σ τ ⟨hpy, a, W, RC, Z, RM⟩ hn
  subst hpy
  obtain ⟨x1, r1, e1, l1, h1, v1⟩ := as_s hl hv
  subst e1
  obtain ⟨x2, r2, e2, l2, h2, v2⟩ := as_s l1 v1
  subst e2
  have e0 := as0 l2
  subst e0
  have hc : Gl (GI fun x s' => x = aLook a.1 x1 x2 ∧ RepC a s') (X11_look 60 σ 1 x1 x2) := cc_look (d := 28) RC W
  have hm : ∀ n, Gl (GI fun x s' => x = aLook a.1 x1 x2 ∧ RepM a s') (X12_look 60 (lf τ n) 98 x1 x2) := fun n => mm_look (d := 12) (RM.lift n) W
  exact step_mk (q := (984, 2, 128, 268, 131, 134, 1182, 1907)) (cls_n (by decide +kernel) Z hc) hm (by decide +kernel) W hn
theorem pu_boy : StepQ (1017, 1, 129, 269, 135, 138, 1190, 1911) := by
  intro as hl hv py σ τ ⟨hpy, a, W, RC, Z, RM⟩ hn
  subst hpy
  obtain ⟨x1, r1, e1, l1, h1, v1⟩ := as_s hl hv
  subst e1
  have e0 := as0 l1
  subst e0
  have hc : Gl (GI fun x s' => x = (aBoy a x1).1 ∧ RepC (aBoy a x1).2 s') (X11_boy 60 σ 1 x1) := cc_boy (d := 59) RC W
  have hm : ∀ n, Gl (GI fun x s' => x = (aBoy a x1).1 ∧ RepM (aBoy a x1).2 s') (X12_boy 60 (lf τ n) 98 x1) := fun n => mm_boy (d := 59) (RM.lift n) W
  exact step_mk (q := (1017, 1, 129, 269, 135, 138, 1190, 1911)) (cls_n (by decide +kernel) Z hc) hm (by decide +kernel) (wf_boy W) hn
theorem pu_home : StepQ (1040, 0, 130, 270, 139, 142, 1198, 1915) := by
  intro as hl hv py σ τ ⟨hpy, a, W, RC, Z, RM⟩ hn
  subst hpy
  have e0 := as0 hl
  subst e0
  have hc : Gl (GI fun x s' => x = (aHome a).1 ∧ RepC (aHome a).2 s') (X11_home 60 σ 1 ) := cc_home (d := 60) RC W
  have hm : ∀ n, Gl (GI fun x s' => x = (aHome a).1 ∧ RepM (aHome a).2 s') (X12_home 60 (lf τ n) 98 ) := fun n => mm_home (d := 60) (RM.lift n) W
  exact step_mk (q := (1040, 0, 130, 270, 139, 142, 1198, 1915)) (cls_n (by decide +kernel) Z hc) hm (by decide +kernel) (wf_home W) hn
theorem pu_wear : StepQ (1053, 1, 131, 273, 143, 146, 1202, 1919) := by
  intro as hl hv py σ τ ⟨hpy, a, W, RC, Z, RM⟩ hn
  subst hpy
  obtain ⟨x1, r1, e1, l1, h1, v1⟩ := as_s hl hv
  subst e1
  have e0 := as0 l1
  subst e0
  have hc : Gl (GI fun x s' => x = aWear a.1 x1 ∧ RepC a s') (X11_wear 60 σ 1 x1) := cc_wear (d := 54) RC W
  have hm : ∀ n, Gl (GI fun x s' => x = aWear a.1 x1 ∧ RepM a s') (X12_wear 60 (lf τ n) 98 x1) := fun n => mm_wear (d := 11) (RM.lift n) W
  exact step_mk (q := (1053, 1, 131, 273, 143, 146, 1202, 1919)) (cls_n (by decide +kernel) Z hc) hm (by decide +kernel) W hn
theorem pu_hands : StepQ (1076, 3, 132, 282, 147, 150, 1233, 1959) := by
  intro as hl hv py σ τ ⟨hpy, a, W, RC, Z, RM⟩ hn
  subst hpy
  obtain ⟨x1, r1, e1, l1, h1, v1⟩ := as_s hl hv
  subst e1
  obtain ⟨x2, r2, e2, l2, h2, v2⟩ := as_s l1 v1
  subst e2
  obtain ⟨x3, r3, e3, l3, h3, v3⟩ := as_s l2 v2
  subst e3
  have e0 := as0 l3
  subst e0
  have hc : Gl (GI fun x s' => x = (aHands a x1 x2 x3).1 ∧ RepC (aHands a x1 x2 x3).2 s') (X11_hands 60 σ 1 x1 x2 x3) := cc_hands (d := 30) RC W
  have hm : ∀ n, Gl (GI fun x s' => x = (aHands a x1 x2 x3).1 ∧ RepM (aHands a x1 x2 x3).2 s') (X12_hands 60 (lf τ n) 98 x1 x2 x3) := fun n => mm_hands (d := 12) (RM.lift n) W
  exact step_mk (q := (1076, 3, 132, 282, 147, 150, 1233, 1959)) (cls_n (by decide +kernel) Z hc) hm (by decide +kernel) (wf_hands W) hn
theorem pu_drawn : StepQ (1119, 1, 133, 283, 151, 154, 1255, 1970) := by
  intro as hl hv py σ τ ⟨hpy, a, W, RC, Z, RM⟩ hn
  subst hpy
  obtain ⟨x1, r1, e1, l1, h1, v1⟩ := as_s hl hv
  subst e1
  have e0 := as0 l1
  subst e0
  have hc : Gl (GI fun x s' => x = aDrawn a x1 ∧ RepC a s') (X11_drawn 60 σ 1 x1) := cc_drawn (d := 60) (hw := h1.2) RC W
  have hm : ∀ n, Gl (GI fun x s' => x = aDrawn a x1 ∧ RepM a s') (X12_drawn 60 (lf τ n) 98 x1) := fun n => mm_drawn (d := 59) (hw := h1) (RM.lift n) W
  exact step_mk (q := (1119, 1, 133, 283, 151, 154, 1255, 1970)) (cls_n (by decide +kernel) Z hc) hm (by decide +kernel) W hn
theorem pu_image : StepQ (1142, 1, 134, 163, 155, 158, 1259, 1473) := by
  intro as hl hv py σ τ ⟨hpy, a, W, RC, Z, RM⟩ hn
  subst hpy
  obtain ⟨x1, r1, e1, l1, h1, v1⟩ := as_s hl hv
  subst e1
  have e0 := as0 l1
  subst e0
  have hc : Gl (GI fun x s' => x = (aImage a x1).1 ∧ RepC (aImage a x1).2 s' ∧ Fz s' ∧ (nx σ ≤ nx s' ∧ nx s' ≤ nx σ + 27) ∧ (sl σ ≤ sl s' ∧ sl s' ≤ sl σ + 594)) (X11_image 60 σ 1 x1) := wkI (cc_image (d := 58) RC W Z) fun x s' _ ⟨q1, q2, q3, ⟨q4, q5⟩, ⟨q6, q7⟩⟩ => ⟨q1, q2, q3, ⟨q4, by omega⟩, ⟨q6, by omega⟩⟩
  have hm : ∀ n, Gl (GI fun x s' => x = (aImage a x1).1 ∧ RepM (aImage a x1).2 s') (X12_image 60 (lf τ n) 98 x1) := fun n => mm_image (d := 59) (RM.lift n) W
  exact step_mk (q := (1142, 1, 134, 163, 155, 158, 1259, 1473)) (hc) hm (by decide +kernel) (wf_image W) hn
theorem pu_back : StepQ (1165, 1, 135, 164, 159, 162, 1264, 1488) := by
  intro as hl hv py σ τ ⟨hpy, a, W, RC, Z, RM⟩ hn
  subst hpy
  obtain ⟨x1, r1, e1, l1, h1, v1⟩ := as_s hl hv
  subst e1
  have e0 := as0 l1
  subst e0
  have hc : Gl (GI fun x s' => x = (aBack a x1).1 ∧ RepC (aBack a x1).2 s') (X11_back 60 σ 1 x1) := cc_back (d := 58) RC W
  have hm : ∀ n, Gl (GI fun x s' => x = (aBack a x1).1 ∧ RepM (aBack a x1).2 s') (X12_back 60 (lf τ n) 98 x1) := fun n => mm_back (d := 58) (RM.lift n) W
  exact step_mk (q := (1165, 1, 135, 164, 159, 162, 1264, 1488)) (cls_n (by decide +kernel) Z hc) hm (by decide +kernel) (wf_back W) hn
theorem pu_count : StepQ (1188, 1, 136, 284, 163, 166, 1268, 1974) := by
  intro as hl hv py σ τ ⟨hpy, a, W, RC, Z, RM⟩ hn
  subst hpy
  obtain ⟨x1, r1, e1, l1, h1, v1⟩ := as_s hl hv
  subst e1
  have e0 := as0 l1
  subst e0
  have hc : Gl (GI fun x s' => x = aCount a x1 ∧ RepC a s') (X11_count 60 σ 1 x1) := cc_count (d := 60) RC
  have hm : ∀ n, Gl (GI fun x s' => x = aCount a x1 ∧ RepM a s') (X12_count 60 (lf τ n) 98 x1) := fun n => mm_count (d := 60) (RM.lift n)
  exact step_mk (q := (1188, 1, 136, 284, 163, 166, 1268, 1974)) (cls_n (by decide +kernel) Z hc) hm (by decide +kernel) W hn
theorem pu_status : StepQ (1211, 0, 137, 285, 167, 170, 1272, 1978) := by
  intro as hl hv py σ τ ⟨hpy, a, W, RC, Z, RM⟩ hn
  subst hpy
  have e0 := as0 hl
  subst e0
  have hc : Gl (GI fun x s' => x = a.2.2.2.2.1.1 ∧ RepC a s') (X11_status 60 σ 1 ) := cc_status (d := 60) RC
  have hm : ∀ n, Gl (GI fun x s' => x = a.2.2.2.2.1.1 ∧ RepM a s') (X12_status 60 (lf τ n) 98 ) := fun n => mm_status (d := 60) (RM.lift n)
  exact step_mk (q := (1211, 0, 137, 285, 167, 170, 1272, 1978)) (cls_n (by decide +kernel) Z hc) hm (by decide +kernel) W hn
theorem pure_step : PureStep 60 Rel0 27 594 := by
  have all : ∀ q ∈ lawT, StepQ q := List.forall_mem_cons.mpr ⟨pu_knot, List.forall_mem_cons.mpr ⟨pu_of, List.forall_mem_cons.mpr ⟨pu_terms, List.forall_mem_cons.mpr ⟨pu_feed, List.forall_mem_cons.mpr ⟨pu_end, List.forall_mem_cons.mpr ⟨pu_row, List.forall_mem_cons.mpr ⟨pu_lint, List.forall_mem_cons.mpr ⟨pu_law, List.forall_mem_cons.mpr ⟨pu_orders, List.forall_mem_cons.mpr ⟨pu_fault, List.forall_mem_cons.mpr ⟨pu_stopped, List.forall_mem_cons.mpr ⟨pu_force, List.forall_mem_cons.mpr ⟨pu_asks, List.forall_mem_cons.mpr ⟨pu_lay, List.forall_mem_cons.mpr ⟨pu_through, List.forall_mem_cons.mpr ⟨pu_draw, List.forall_mem_cons.mpr ⟨pu_mirror, List.forall_mem_cons.mpr ⟨pu_undo, List.forall_mem_cons.mpr ⟨pu_front, List.forall_mem_cons.mpr ⟨pu_ways, List.forall_mem_cons.mpr ⟨pu_word, List.forall_mem_cons.mpr ⟨pu_rank, List.forall_mem_cons.mpr ⟨pu_best, List.forall_mem_cons.mpr ⟨pu_change, List.forall_mem_cons.mpr ⟨pu_alike, List.forall_mem_cons.mpr ⟨pu_sight, List.forall_mem_cons.mpr ⟨pu_forget, List.forall_mem_cons.mpr ⟨pu_fits, List.forall_mem_cons.mpr ⟨pu_look, List.forall_mem_cons.mpr ⟨pu_boy, List.forall_mem_cons.mpr ⟨pu_home, List.forall_mem_cons.mpr ⟨pu_wear, List.forall_mem_cons.mpr ⟨pu_hands, List.forall_mem_cons.mpr ⟨pu_drawn, List.forall_mem_cons.mpr ⟨pu_image, List.forall_mem_cons.mpr ⟨pu_back, List.forall_mem_cons.mpr ⟨pu_count, List.forall_mem_cons.mpr ⟨pu_status, fun _ h => by cases h⟩⟩⟩⟩⟩⟩⟩⟩⟩⟩⟩⟩⟩⟩⟩⟩⟩⟩⟩⟩⟩⟩⟩⟩⟩⟩⟩⟩⟩⟩⟩⟩⟩⟩⟩⟩⟩⟩
  exact fun q hq => all q hq
theorem rel0_kd : RelKd Rel0 := fun py σ τ h => by
  obtain ⟨hpy, a, W, RC, Z, RM⟩ := h
  subst hpy
  exact ⟨RC.1.o1.1, RM.1.k98⟩
