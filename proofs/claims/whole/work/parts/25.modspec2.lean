theorem bI_fit (b : Bool) : fits .boolean (.int (bI b)) = true := by cases b <;> rfl
theorem upd_tb {f : Nat → Int32} {P : Nat → Nat} {b i : Nat} {v : Int32} (h : ∀ j, j < i → b.testBit j = true → f j = nI (P j)) (hv : v = nI (P i)) (j : Nat) (hj : j < i + 1) (hb : b.testBit j = true) : upd f i v j = nI (P j) := by
  by_cases e : j = i
  · subst e; rw [pk_us]; exact hv
  · rw [pk_un e]; exact h j (by omega) hb
theorem keep_tb {f : Nat → Int32} {P : Nat → Nat} {b i : Nat} (h : ∀ j, j < i → b.testBit j = true → f j = nI (P j)) (hv : b.testBit i = false) (j : Nat) (hj : j < i + 1) (hb : b.testBit j = true) : f j = nI (P j) := by
  by_cases e : j = i
  · subst e; rw [hv] at hb; cases hb
  · exact h j (by omega) hb
theorem nI_n9 {k : Nat} (h : k < 2 ^ 31) : ¬ nI k = (-9) := by
  intro q
  have h1 := nI_toInt h
  rw [q] at h1
  have e : (-9 : Int32).toInt = -9 := rfl
  omega
theorem fbk_bo {bo tl : Nat → Nat} : ∀ i j, (fbk bo tl i).1 = some j → j < i ∧ tl j < bo j ∧ (fbk bo tl i).2 = bo j - tl j := by
  intro i
  induction i with
  | zero => intro j h; cases h
  | succ i ih =>
    intro j h
    simp only [fbk] at h ⊢
    by_cases c : (fbk bo tl i).2 + tl i < bo i
    · rw [if_pos c] at h ⊢
      cases h
      exact ⟨by omega, by omega, rfl⟩
    · rw [if_neg c] at h ⊢
      obtain ⟨a, b, d⟩ := ih j h
      exact ⟨by omega, b, d⟩
theorem fb_bit {st R sg : Nat → Nat} {n p b j : Nat} (h : fb st R sg n p b = some j) : b.testBit j = true := by
  unfold fb at h
  split at h
  · obtain ⟨-, h2, -⟩ := fbk_bo n j h
    simp only [boN] at h2
    by_cases q : b.testBit j = true
    · exact q
    · rw [if_neg q] at h2; omega
  · cases h
theorem pop_clr_d : ∀ j, j < 8 → ∀ W, W < 256 → W.testBit j = true → pop (clr W j) + 1 = pop W := by decide +kernel
theorem pop0_d : ∀ W, W < 256 → pop W = 0 → W = 0 := by decide +kernel
theorem pop8_d : ∀ W, W < 256 → pop W ≤ 8 := by decide +kernel
theorem clr_ltW_d : ∀ j, j < 8 → ∀ W, W < 256 → W.testBit j = true → clr W j < W := by decide +kernel
theorem wa_more {Fb : Nat → Option Nat} (hF : ∀ b j, b < 256 → Fb b = some j → j < 8 ∧ b.testBit j = true) : ∀ k b, b < 256 → pop b ≤ k → wa Fb k b = wa Fb (k + 1) b := by
  intro k
  induction k with
  | zero =>
    intro b hb hp
    cases e : Fb b with
    | none => rw [wa_none e, wa_none e]
    | some j =>
      obtain ⟨-, h2⟩ := hF b j hb e
      rw [pop0_d b hb (by omega), Nat.zero_testBit] at h2
      cases h2
  | succ k ih =>
    intro b hb hp
    cases e : Fb b with
    | none => rw [wa_none e, wa_none e]
    | some j =>
      obtain ⟨h1, h2⟩ := hF b j hb e
      rw [wa_some e, wa_some e]
      have := pop_clr_d j h1 b hb h2
      exact ih _ (Nat.lt_of_le_of_lt (clr_le _ _) hb) (by omega)
theorem wa_fix {Fb : Nat → Option Nat} (hF : ∀ b j, b < 256 → Fb b = some j → j < 8 ∧ b.testBit j = true) {b j : Nat} (hb : b < 256) (e : Fb b = some j) : wa Fb 8 (clr b j) = wa Fb 8 b := by
  obtain ⟨h1, h2⟩ := hF b j hb e
  have := pop_clr_d j h1 b hb h2
  have := pop8_d b hb
  rw [wa_some e]
  exact (wa_more hF 7 _ (Nat.lt_of_le_of_lt (clr_le _ _) hb) (by omega)).symm
theorem fb_F {st R sg : Nat → Nat} {n p : Nat} (hn : n ≤ 8) : ∀ b j, b < 256 → fb st R sg n p b = some j → j < 8 ∧ b.testBit j = true := fun b j _ h => ⟨by have := fb_lt h; omega, fb_bit h⟩
theorem and_neg1 {W : Nat} (h : W < 256) : nI W &&& (-1) = nI W := (show ∀ W, W < 256 → nI W &&& (-1) = nI W by decide +kernel) W h
