/-! ===== the shape of the reference: its object at 98, its arrays at 99 to 125; printed by mk_shm.py ===== -/
def kML : List Nat := [16, 20, 20, 20, 22, 20, 21, 21, 20, 20, 20, 20, 20, 20, 20, 20, 20, 20, 20, 22, 20, 20, 20, 20, 20, 20, 23, 20]
def lML : List Nat := [0, 7, 5781, 11562, 2, 137, 129, 400, 5, 401, 401, 401, 6, 24, 13, 2208, 2208, 288, 288, 288, 64, 36, 6, 6, 8, 8, 2, 12]
def kM (p : Int) : Nat := if p < 98 then 0 else kML.getD (p - 98).toNat 0
def lM (p : Int) : Nat := if p < 98 then 0 else lML.getD (p - 98).toNat 0
theorem kMs : kM 98 = 16 ∧ kM 99 = 20 ∧ kM 100 = 20 ∧ kM 101 = 20 ∧ kM 102 = 22 ∧ kM 103 = 20 ∧ kM 104 = 21 ∧ kM 105 = 21 ∧ kM 106 = 20 ∧ kM 107 = 20 ∧ kM 108 = 20 ∧ kM 109 = 20 ∧ kM 110 = 20 ∧ kM 111 = 20 ∧ kM 112 = 20 ∧ kM 113 = 20 ∧ kM 114 = 20 ∧ kM 115 = 20 ∧ kM 116 = 20 ∧ kM 117 = 22 ∧ kM 118 = 20 ∧ kM 119 = 20 ∧ kM 120 = 20 ∧ kM 121 = 20 ∧ kM 122 = 20 ∧ kM 123 = 20 ∧ kM 124 = 23 ∧ kM 125 = 20 := by decide +kernel
theorem lMs : lM 99 = 7 ∧ lM 100 = 5781 ∧ lM 101 = 11562 ∧ lM 102 = 2 ∧ lM 103 = 137 ∧ lM 104 = 129 ∧ lM 105 = 400 ∧ lM 106 = 5 ∧ lM 107 = 401 ∧ lM 108 = 401 ∧ lM 109 = 401 ∧ lM 110 = 6 ∧ lM 111 = 24 ∧ lM 112 = 13 ∧ lM 113 = 2208 ∧ lM 114 = 2208 ∧ lM 115 = 288 ∧ lM 116 = 288 ∧ lM 117 = 288 ∧ lM 118 = 64 ∧ lM 119 = 36 ∧ lM 120 = 6 ∧ lM 121 = 6 ∧ lM 122 = 8 ∧ lM 123 = 8 ∧ lM 124 = 2 ∧ lM 125 = 12 := by decide +kernel
def fMs (s : St) : Prop := gF s 98 1 = 99 ∧ gF s 98 2 = 100 ∧ gF s 98 3 = 101 ∧ gF s 98 4 = 102 ∧ gF s 98 5 = 103 ∧ gF s 98 7 = 104 ∧ gF s 98 11 = 105 ∧ gF s 98 12 = 106 ∧ gF s 98 15 = 107 ∧ gF s 98 16 = 108 ∧ gF s 98 17 = 109 ∧ gF s 98 25 = 110 ∧ gF s 98 26 = 111 ∧ gF s 98 30 = 112 ∧ gF s 98 31 = 113 ∧ gF s 98 32 = 114 ∧ gF s 98 34 = 115 ∧ gF s 98 35 = 116 ∧ gF s 98 36 = 117 ∧ gF s 98 42 = 118 ∧ gF s 98 43 = 119 ∧ gF s 98 44 = 120 ∧ gF s 98 45 = 121 ∧ gF s 98 46 = 122 ∧ gF s 98 47 = 123 ∧ gF s 98 57 = 124 ∧ gF s 98 58 = 125
def finM : List Nat := [1, 2, 3, 4, 5, 7, 11, 12, 15, 16, 17, 25, 26, 30, 31, 32, 34, 35, 36, 42, 43, 44, 45, 46, 47, 57, 58]
def ShM (s : St) : Prop := (∀ p, kd s p = kM p) ∧ (∀ p, (gA s p).length = lM p) ∧ fMs s
theorem ShM.kd {s : St} (h : ShM s) (p : Int) : kd s p = kM p := h.1 p
theorem ShM.ln {s : St} (h : ShM s) (p : Int) : (gA s p).length = lM p := h.2.1 p
theorem ShM.fs {s : St} (h : ShM s) : gF s 98 1 = 99 ∧ gF s 98 2 = 100 ∧ gF s 98 3 = 101 ∧ gF s 98 4 = 102 ∧ gF s 98 5 = 103 ∧ gF s 98 7 = 104 ∧ gF s 98 11 = 105 ∧ gF s 98 12 = 106 ∧ gF s 98 15 = 107 ∧ gF s 98 16 = 108 ∧ gF s 98 17 = 109 ∧ gF s 98 25 = 110 ∧ gF s 98 26 = 111 ∧ gF s 98 30 = 112 ∧ gF s 98 31 = 113 ∧ gF s 98 32 = 114 ∧ gF s 98 34 = 115 ∧ gF s 98 35 = 116 ∧ gF s 98 36 = 117 ∧ gF s 98 42 = 118 ∧ gF s 98 43 = 119 ∧ gF s 98 44 = 120 ∧ gF s 98 45 = 121 ∧ gF s 98 46 = 122 ∧ gF s 98 47 = 123 ∧ gF s 98 57 = 124 ∧ gF s 98 58 = 125 := h.2.2
def okM (j : Nat) : Bool := okB j && finM.all fun k => !wsB j 16 k
theorem ShM.pv {s s' : St} {W : Nat → Nat → Bool} {A : Nat → Bool} (h : ShM s) (g : Pv W A s s') (hf : finM.all (fun k => !W 16 k) = true) : ShM s' := by
  obtain ⟨g1, g2, g3, g4, g5, g6⟩ := g
  have e : ∀ k, k ∈ finM → gF s' 98 k = gF s 98 k := fun k hk => g5 98 k (by
    have := List.all_eq_true.mp hf k hk
    rw [h.kd 98, show kM 98 = 16 from rfl]
    simpa using this)
  refine ⟨fun p => (g1 p).trans (h.kd p), fun p => (g4 p).trans (h.ln p), ?_⟩
  unfold fMs
  refine ⟨(e 1 (by decide)).trans h.fs.1, (e 2 (by decide)).trans h.fs.2.1, (e 3 (by decide)).trans h.fs.2.2.1, (e 4 (by decide)).trans h.fs.2.2.2.1, (e 5 (by decide)).trans h.fs.2.2.2.2.1, (e 7 (by decide)).trans h.fs.2.2.2.2.2.1, (e 11 (by decide)).trans h.fs.2.2.2.2.2.2.1, (e 12 (by decide)).trans h.fs.2.2.2.2.2.2.2.1, (e 15 (by decide)).trans h.fs.2.2.2.2.2.2.2.2.1, (e 16 (by decide)).trans h.fs.2.2.2.2.2.2.2.2.2.1, (e 17 (by decide)).trans h.fs.2.2.2.2.2.2.2.2.2.2.1, (e 25 (by decide)).trans h.fs.2.2.2.2.2.2.2.2.2.2.2.1, (e 26 (by decide)).trans h.fs.2.2.2.2.2.2.2.2.2.2.2.2.1, (e 30 (by decide)).trans h.fs.2.2.2.2.2.2.2.2.2.2.2.2.2.1, (e 31 (by decide)).trans h.fs.2.2.2.2.2.2.2.2.2.2.2.2.2.2.1, (e 32 (by decide)).trans h.fs.2.2.2.2.2.2.2.2.2.2.2.2.2.2.2.1, (e 34 (by decide)).trans h.fs.2.2.2.2.2.2.2.2.2.2.2.2.2.2.2.2.1, (e 35 (by decide)).trans h.fs.2.2.2.2.2.2.2.2.2.2.2.2.2.2.2.2.2.1, (e 36 (by decide)).trans h.fs.2.2.2.2.2.2.2.2.2.2.2.2.2.2.2.2.2.2.1, (e 42 (by decide)).trans h.fs.2.2.2.2.2.2.2.2.2.2.2.2.2.2.2.2.2.2.2.1, (e 43 (by decide)).trans h.fs.2.2.2.2.2.2.2.2.2.2.2.2.2.2.2.2.2.2.2.2.1, (e 44 (by decide)).trans h.fs.2.2.2.2.2.2.2.2.2.2.2.2.2.2.2.2.2.2.2.2.2.1, (e 45 (by decide)).trans h.fs.2.2.2.2.2.2.2.2.2.2.2.2.2.2.2.2.2.2.2.2.2.2.1, (e 46 (by decide)).trans h.fs.2.2.2.2.2.2.2.2.2.2.2.2.2.2.2.2.2.2.2.2.2.2.2.1, (e 47 (by decide)).trans h.fs.2.2.2.2.2.2.2.2.2.2.2.2.2.2.2.2.2.2.2.2.2.2.2.2.1, (e 57 (by decide)).trans h.fs.2.2.2.2.2.2.2.2.2.2.2.2.2.2.2.2.2.2.2.2.2.2.2.2.2.1, (e 58 (by decide)).trans h.fs.2.2.2.2.2.2.2.2.2.2.2.2.2.2.2.2.2.2.2.2.2.2.2.2.2.2⟩
/-- every method of the reference keeps its shape -/
theorem ShM.ev {d j i : Nat} {L : Lc} {st : List V} {s s' : St} {r : List V} (hs : ShM s) (h : EV d j i L st s = some (r, s')) (hj : okM j = true) : ShM s' := by
  unfold okM at hj
  rw [Bool.and_eq_true] at hj
  exact hs.pv (ev_pv h hj.1) hj.2
theorem ShM.gf {d j i k : Nat} {L : Lc} {st : List V} {s s' : St} {r : List V} (hs : ShM s) (h : EV d j i L st s = some (r, s')) (hj : okB j = true) (hk : wsB j 16 k = false) : gF s' 98 k = gF s 98 k :=
  (ev_pv h hj).2.2.2.2.1 98 k (by rw [hs.kd 98]; exact hk)
theorem ShM.sF {s : St} {k : Nat} {v : Int} (h : ShM s) (hk : finM.all (fun x => !(x == k)) = true) : ShM (sF s 98 k v) := by
  refine h.pv (W := fun _ x => x == k) (A := fun _ => false) (Pv.sF v (by simp)) hk
theorem ShM.sA {s : St} {p : Int} {l : List Int} (h : ShM s) (hl : l.length = (gA s p).length) : ShM (sA s p l) :=
  h.pv (W := fun _ _ => false) (A := fun _ => true) (Pv.sA hl rfl) (by decide)
theorem ShM.nx {d j i : Nat} {L : Lc} {st : List V} {s s' : St} {r : List V} (h : EV d j i L st s = some (r, s')) (hj : okB j = true) : nx s' = nx s ∧ sl s' = sl s := ⟨(ev_pv h hj).2.1, (ev_pv h hj).2.2.1⟩
