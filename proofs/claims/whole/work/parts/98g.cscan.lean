/-! ===== the class: words; the text is scanned ===== -/
section CSC
variable {s s' : St} {t : List Int} {d : Nat}
/-- a word's end -/
theorem c_kw41 {r kind : Int} {a b : Nat} {w : List Int} {z : Int} (hb : b ≤ t.length) (hab : a ≤ b) : X5_keyword_41 d s r 2 a b kind ((a + w.length : Nat) : Int) (if pmW t a b w w.length then 1 else 0) z = if slT t a b = w then some ([(0, kind)], s) else X5_keyword_12 d s r 2 a b (wi (kind + 1)) a 1 (wi (z + 1)) := by
  rw [e_X5_keyword_41]
  have hx := pm_sl (w := w) hb hab
  cases hm : pmW t a b w w.length with
  | false =>
    rw [if_pos (show (if false = true then (1 : Int) else 0) = 0 from rfl), if_neg (fun e => by have := (hx.mpr e).1; rw [hm] at this; cases this)]
  | true =>
    rw [if_pos rfl, if_neg (show ¬ ((1 : Int) = 0) by decide)]
    by_cases e : a + w.length = b
    · rw [if_pos (show ((a + w.length : Nat) : Int) = (b : Int) by omega), if_pos (hx.mp ⟨hm, e⟩)]
    · rw [if_neg (show ¬ (((a + w.length : Nat) : Int) = (b : Int)) by omega), if_neg (fun x => e (hx.mpr x).2)]
theorem c_kws {r : Int} {a b : Nat} (P : TpR s t) (hb : b ≤ t.length) (hab : a ≤ b) (S : List Int) (hS : strL.getD r.toNat [] = S) (hS2 : S.length ≤ 1000) : ∀ (ws : List (List Int)) (pre : List Int) (kind : Int), ws ≠ [] → S = pre ++ jnW ws → (∀ w ∈ ws, ∀ x ∈ w, x ≠ 32) → (0 ≤ kind ∧ kind + ws.length ≤ 1000) → X5_keyword_12 d s r 2 a b kind a 1 (pre.length : Nat) = some ([(0, fdW (slT t a b) 258 ws kind)], s)
  | [], _, _, h, _, _, _ => absurd rfl h
  | [w], pre, kind, _, hj, hn, hk => by
    have hl : strLen r = (S.length : Int) := by unfold strLen; rw [hS]
    have hlen : S.length = pre.length + w.length := by rw [hj]; exact List.length_append
    have ch : ∀ q, q < w.length → strCh r ((pre.length + q : Nat) : Int) = w.getD q 0 ∧ w.getD q 0 ≠ 32 := by
      intro q hq
      refine ⟨?_, hn w (by simp) _ (gdMem hq)⟩
      unfold strCh
      rw [hS, hj, Int.toNat_natCast, gd_r]
      rfl
    have k := c_kwI (d := d) (a := a) (kind := kind) P hb hab (by omega) ch (by omega) w.length 0 (by omega)
    have e0 : pmW t a b w 0 = true := rfl
    rw [e0, if_pos rfl, Nat.add_zero, Nat.add_zero] at k
    rw [k, e_X5_keyword_12, if_neg (by omega), if_pos (by omega), c_kw41 hb hab, fdW, fdW]
    by_cases e : slT t a b = w
    · rw [if_pos e, if_pos e]
    · rw [if_neg e, if_neg e, e_X5_keyword_12, wi_sc (by omega), if_pos (by omega)]
  | w :: x :: r', pre, kind, _, hj, hn, hk => by
    have hl : strLen r = (S.length : Int) := by unfold strLen; rw [hS]
    have hj2 : S = pre ++ (w ++ 32 :: jnW (x :: r')) := hj
    have hlen : S.length = pre.length + (w.length + (1 + (jnW (x :: r')).length)) := by rw [hj2, List.length_append, List.length_append]; simp; omega
    have ch : ∀ q, q < w.length → strCh r ((pre.length + q : Nat) : Int) = w.getD q 0 ∧ w.getD q 0 ≠ 32 := by
      intro q hq
      refine ⟨?_, hn w (by simp) _ (gdMem hq)⟩
      unfold strCh
      rw [hS, hj2, Int.toNat_natCast, gd_r, gd_l hq]
    have k := c_kwI (d := d) (a := a) (kind := kind) P hb hab (by omega) ch (by omega) w.length 0 (by omega)
    have e0 : pmW t a b w 0 = true := rfl
    have c32 : strCh r ((pre.length + w.length : Nat) : Int) = 32 := by
      unfold strCh
      rw [hS, hj2, Int.toNat_natCast, gd_r]
      have := gd_r (x := w) (y := 32 :: jnW (x :: r')) (i := 0) (a := (0 : Int))
      rw [Nat.add_zero] at this
      rw [this]
      rfl
    rw [e0, if_pos rfl, Nat.add_zero, Nat.add_zero] at k
    rw [k, e_X5_keyword_12, if_neg (by omega), if_neg (by omega)]
    unfold sC
    rw [if_pos (by omega), c32]
    dsimp only
    rw [if_pos rfl, c_kw41 hb hab, fdW]
    by_cases e : slT t a b = w
    · rw [if_pos e, if_pos e]
    · rw [if_neg e, if_neg e, wi_sc (by omega), wi_sm (by simp at hk; omega) (by simp at hk; omega)]
      have ih := c_kws P hb hab S hS hS2 (x :: r') (pre ++ w ++ [32]) (kind + 1) (by simp) (by rw [hj2]; simp) (fun y hy => hn y (by simp at hy ⊢; exact Or.inr hy)) (by simp at hk ⊢; omega)
      have el : (pre ++ w ++ [(32 : Int)]).length = pre.length + w.length + 1 := by rw [List.length_append, List.length_append]; rfl
      rw [el] at ih
      exact ih
theorem c_kw0 {a b : Nat} (P : TpR s t) (hb : b ≤ t.length) (hab : a ≤ b) : X5_keyword d s 0 300 2 a b = some ([(0, fdW (slT t a b) 258 kw0 300)], s) := by
  rw [e_X5_keyword]
  exact c_kws (r := 0) P hb hab (jnW kw0) (by decide) (by decide) kw0 [] 300 (by decide) rfl (by decide) (by decide)
theorem c_kw1 {a b : Nat} (P : TpR s t) (hb : b ≤ t.length) (hab : a ≤ b) : X5_keyword d s 1 313 2 a b = some ([(0, fdW (slT t a b) 258 kw1 313)], s) := by
  rw [e_X5_keyword]
  exact c_kws (r := 1) P hb hab (jnW kw1) (by decide) (by decide) kw1 [] 313 (by decide) rfl (by decide) (by decide)
end CSC
