/-! ===== words in the order of their numbers; finding one ===== -/
theorem fol_lt {b : Int} (h : pl3 b) : fol b ((0 : Nat) : Int) < fol b ((1 : Nat) : Int) := by
  rcases h with rfl | rfl | rfl <;> decide
theorem fol_pl3 {b h : Int} : pl3 (fol b h) := by
  unfold fol pl3
  split <;> split <;> omega
theorem w4p_s {a u b : Nat} (h1 : 1 ≤ a) (hb : b < 2) : w4p (plN (a + 1) (2 * u + b)) (a + 1) = w4p (plN a u) a * 4 + fol (plN a u (a - 1)) (b : Int) := by
  obtain ⟨p1, p2⟩ := plN_step (a := a) (u := u) (b := b) h1 hb
  rw [w4p, w4p_congr p1, p2]
theorem w4p_lt : ∀ {a u v : Nat}, 1 ≤ a → v < WN a → u < v → w4p (plN a u) a < w4p (plN a v) a
  | 0, u, v, h, _, _ => by omega
  | 1, u, v, _, _, h => by
    have e : ∀ x, w4p (plN 1 x) 1 = (x : Int) := fun x => by
      show (0 : Int) * 4 + ((x / 2 ^ (1 - 1) : Nat) : Int) = x
      rw [show 2 ^ (1 - 1) = 1 from rfl, Nat.div_one]; omega
    rw [e, e]; omega
  | a + 2, u, v, _, hv, h => by
    have hv2 : v / 2 < WN (a + 1) := by
      have e : WN (a + 2) = 2 * WN (a + 1) := by
        unfold WN
        rw [show a + 2 - 1 = a + 1 by omega, show a + 1 - 1 = a by omega, Nat.pow_succ]; omega
      omega
    have ih := fun (g : u / 2 < v / 2) => w4p_lt (a := a + 1) (by omega) hv2 g
    have eu := w4p_s (a := a + 1) (u := u / 2) (b := u % 2) (by omega) (Nat.mod_lt _ (by omega))
    have ev := w4p_s (a := a + 1) (u := v / 2) (b := v % 2) (by omega) (Nat.mod_lt _ (by omega))
    rw [Nat.div_add_mod] at eu ev
    rw [eu, ev]
    have fu : pl3 (fol (plN (a + 1) (u / 2) (a + 1 - 1)) ((u % 2 : Nat) : Int)) := fol_pl3
    have fv : pl3 (fol (plN (a + 1) (v / 2) (a + 1 - 1)) ((v % 2 : Nat) : Int)) := fol_pl3
    by_cases g : u / 2 < v / 2
    · have := ih g
      unfold pl3 at fu fv
      omega
    · have e2 : u / 2 = v / 2 := by omega
      have e0 : u % 2 = 0 := by omega
      have e1 : v % 2 = 1 := by omega
      have := fol_lt (plN_pl (n := a + 1) (w := v / 2) hv2 (a + 1 - 1))
      rw [e0, e1, e2]
      omega
theorem gdA1 {l : List Nat} {x i : Nat} (h : i < l.length) : (l ++ [x]).getD i 0 = l.getD i 0 := by
  rw [List.getD_eq_getElem?_getD, List.getElem?_append_left h, List.getD_eq_getElem?_getD]
theorem gdA2 {l : List Nat} {x : Nat} : (l ++ [x]).getD l.length 0 = x := by
  rw [List.getD_eq_getElem?_getD, List.getElem?_append_right (Nat.le_refl _), Nat.sub_self]; rfl
theorem prU_lt {cls : List Cl} {mood th : Int} {n w : Nat} {i j : Nat} (hij : i < j) (hj : j < (prU cls mood th n w).length) : (prU cls mood th n w).getD i 0 < (prU cls mood th n w).getD j 0 := by
  induction w with
  | zero => simp [prU] at hj
  | succ w ih =>
    cases hp : prB cls mood th (((n : Int) - 1) % 2) (plN n w) n with
    | false => rw [prU_0 hp] at hj ⊢; exact ih hj
    | true =>
      rw [prU_1 hp] at hj ⊢
      rw [List.length_append, List.length_singleton] at hj
      by_cases g : j < (prU cls mood th n w).length
      · rw [gdA1 (by omega), gdA1 g]; exact ih g
      · have e : j = (prU cls mood th n w).length := by omega
        rw [gdA1 (by omega), e, gdA2]
        exact prU_mem (gdMem (a := 0) (by omega))
theorem unl_w4 {f g : Nat → Int} : ∀ {n : Nat}, (∀ k, k < n → pl3 (f k)) → (∀ k, k < n → pl3 (g k)) → (unlN f g n = 0 ↔ w4p f n = w4p g n)
  | 0, _, _ => ⟨fun _ => rfl, fun _ => rfl⟩
  | n + 1, hf, hg => by
    have ih := unl_w4 (n := n) (fun k hk => hf k (by omega)) (fun k hk => hg k (by omega))
    have h1 := hf n (by omega)
    have h2 := hg n (by omega)
    have hb := unlN_bd f g n
    have e : unlN f g (n + 1) = unlN f g n + (if f n = g n then 0 else 1) := rfl
    rw [e, w4p, w4p]
    unfold pl3 at h1 h2
    by_cases c : f n = g n
    · rw [if_pos c, c]
      constructor
      · intro h; rw [ih.mp (by omega)]
      · intro h; rw [ih.mpr (by omega)]; rfl
    · rw [if_neg c]
      constructor
      · intro h; omega
      · intro h; omega
theorem fidx_some {p : Nat → Bool} {L : List Nat} {i : Nat} (hi : i < L.length) (h1 : p (L.getD i 0) = true) (h2 : ∀ j, j < i → p (L.getD j 0) = false) : idxI (L.findIdx? p) = i := by
  induction L generalizing i with
  | nil => simp at hi
  | cons a L ih =>
    rw [List.findIdx?_cons]
    cases i with
    | zero =>
      have : p a = true := h1
      rw [this]; rfl
    | succ i =>
      have h0 : p a = false := h2 0 (by omega)
      have := ih (i := i) (by simp at hi; omega) h1 (fun j hj => h2 (j + 1) (by omega))
      rw [h0]
      simp only [Bool.false_eq_true, reduceIte]
      cases hq : L.findIdx? p with
      | none => rw [hq] at this; unfold idxI at this; dsimp only at this; omega
      | some q => rw [hq] at this; unfold idxI at this ⊢; dsimp only [Option.map] at this ⊢; omega
theorem fidx_none {p : Nat → Bool} {L : List Nat} (h : ∀ j, j < L.length → p (L.getD j 0) = false) : idxI (L.findIdx? p) = -1 := by
  have : L.findIdx? p = none := by
    rw [List.findIdx?_eq_none_iff]
    intro x hx
    obtain ⟨j, hj, e⟩ := List.getElem_of_mem hx
    have := h j hj
    rw [List.getD_eq_getElem?_getD, List.getElem?_eq_getElem hj] at this
    rw [← e]; exact this
  rw [this]; rfl
