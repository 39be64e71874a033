/-! a greater load bends further; what is too much by a load is so by a greater one -/
theorem fbk_none {bo tl : Nat → Nat} : ∀ i, (fbk bo tl i).1 = none → (fbk bo tl i).2 = 0 ∧ ∀ j, j < i → ¬ tl j < bo j := by
  intro i
  induction i with
  | zero => intro _; exact ⟨rfl, fun j h => absurd h (Nat.not_lt_zero _)⟩
  | succ i ih =>
    intro h
    simp only [fbk] at h ⊢
    by_cases c : (fbk bo tl i).2 + tl i < bo i
    · rw [if_pos c] at h; cases h
    · rw [if_neg c] at h ⊢
      obtain ⟨h1, h2⟩ := ih h
      refine ⟨h1, fun j hj => ?_⟩
      rcases (show j < i ∨ j = i by omega) with z | rfl
      · exact h2 j z
      · rw [h1] at c; omega
theorem fbk_some {bo tl : Nat → Nat} : ∀ i, (fbk bo tl i).1 ≠ none → ∃ j, j < i ∧ tl j < bo j := by
  intro i
  induction i with
  | zero => intro h; exact absurd rfl h
  | succ i ih =>
    intro h
    simp only [fbk] at h
    by_cases c : (fbk bo tl i).2 + tl i < bo i
    · exact ⟨i, by omega, by omega⟩
    · rw [if_neg c] at h
      obtain ⟨j, a, b⟩ := ih h
      exact ⟨j, by omega, b⟩
theorem mono_step {p q s m s' m' t r : Nat} (h1 : (p + m) * s' ≤ (q + m') * s) (h2 : p + m ≤ s * r) : (p + m) * (s' + t) ≤ (q + (m' + t * r)) * s := by
  have a1 : (p + m) * t ≤ (s * r) * t := Nat.mul_le_mul_right t h2
  have a2 : (s * r) * t = (t * r) * s := by ac_rfl
  have a3 : (p + m) * (s' + t) = (p + m) * s' + (p + m) * t := Nat.mul_add _ _ _
  have a4 : (q + (m' + t * r)) * s = (q + m') * s + (t * r) * s := by rw [← Nat.add_assoc, Nat.add_mul]
  omega
theorem pr_mono {st R : Nat → Nat} {b p q : Nat} (hpq : p ≤ q) (hR : ∀ k i, R i ≤ R (i + k)) : ∀ i, (pr st R b p i = pr st R b q i) ∨ ((∃ i0, i0 < i ∧ p + (pr st R b p i).2 ≤ (pr st R b p i).1 * R i0) ∧ (p + (pr st R b p i).2) * (pr st R b q i).1 ≤ (q + (pr st R b q i).2) * (pr st R b p i).1 ∧ (pr st R b p i).1 ≤ (pr st R b q i).1) := by
  intro i
  induction i with
  | zero => exact Or.inl rfl
  | succ i ih =>
    by_cases hb : b.testBit i = true
    · rcases ih with h | ⟨⟨i0, h0, h1⟩, h2, h3⟩
      · by_cases c1 : p + (pr st R b p i).2 ≤ (pr st R b p i).1 * R i
        · have e1 : pr st R b p (i + 1) = pr st R b p i := by simp only [pr, if_pos hb, if_pos c1]
          by_cases c2 : q + (pr st R b q i).2 ≤ (pr st R b q i).1 * R i
          · have e2 : pr st R b q (i + 1) = pr st R b q i := by simp only [pr, if_pos hb, if_pos c2]
            exact Or.inl (by rw [e1, e2]; exact h)
          · have e2 : pr st R b q (i + 1) = ((pr st R b q i).1 + st i, (pr st R b q i).2 + st i * R i) := by simp only [pr, if_pos hb, if_neg c2]
            rw [e1, e2]
            refine Or.inr ⟨⟨i, by omega, c1⟩, ?_, ?_⟩
            · exact mono_step (by rw [← h]; exact Nat.mul_le_mul_right _ (by omega)) c1
            · show (pr st R b p i).1 ≤ (pr st R b q i).1 + st i
              rw [h]; omega
        · have c2 : ¬ q + (pr st R b q i).2 ≤ (pr st R b q i).1 * R i := by rw [← h]; omega
          have e1 : pr st R b p (i + 1) = ((pr st R b p i).1 + st i, (pr st R b p i).2 + st i * R i) := by simp only [pr, if_pos hb, if_neg c1]
          have e2 : pr st R b q (i + 1) = ((pr st R b q i).1 + st i, (pr st R b q i).2 + st i * R i) := by simp only [pr, if_pos hb, if_neg c2]
          exact Or.inl (by rw [e1, e2, h])
      · have hm : R i0 ≤ R i := by have := hR (i - i0) i0; rw [show i0 + (i - i0) = i by omega] at this; exact this
        have c1 : p + (pr st R b p i).2 ≤ (pr st R b p i).1 * R i := Nat.le_trans h1 (Nat.mul_le_mul_left _ hm)
        have e1 : pr st R b p (i + 1) = pr st R b p i := by simp only [pr, if_pos hb, if_pos c1]
        by_cases c2 : q + (pr st R b q i).2 ≤ (pr st R b q i).1 * R i
        · have e2 : pr st R b q (i + 1) = pr st R b q i := by simp only [pr, if_pos hb, if_pos c2]
          rw [e1, e2]
          exact Or.inr ⟨⟨i0, by omega, h1⟩, h2, h3⟩
        · have e2 : pr st R b q (i + 1) = ((pr st R b q i).1 + st i, (pr st R b q i).2 + st i * R i) := by simp only [pr, if_pos hb, if_neg c2]
          rw [e1, e2]
          exact Or.inr ⟨⟨i0, by omega, h1⟩, mono_step h2 c1, by show _ ≤ (pr st R b q i).1 + st i; omega⟩
    · have e1 : pr st R b p (i + 1) = pr st R b p i := by simp only [pr, if_neg hb]
      have e2 : pr st R b q (i + 1) = pr st R b q i := by simp only [pr, if_neg hb]
      rw [e1, e2]
      rcases ih with h | ⟨⟨i0, h0, h1⟩, h2, h3⟩
      · exact Or.inl h
      · exact Or.inr ⟨⟨i0, by omega, h1⟩, h2, h3⟩
theorem much_mono {sg st r U L U' L' : Nat} (hL : 0 < L) (hL' : 0 < L') (h : U * L' ≤ U' * L) (c : sg * L < st * (U - r * L)) : sg * L' < st * (U' - r * L') := by
  refine Nat.lt_of_mul_lt_mul_right (a := L) ?_
  have a1 : sg * L * L' < st * (U - r * L) * L' := Nat.mul_lt_mul_of_pos_right c hL'
  have a2 : st * (U - r * L) * L' = st * (U * L' - r * L * L') := by rw [Nat.mul_assoc, Nat.sub_mul]
  have a3 : st * (U' - r * L') * L = st * (U' * L - r * L' * L) := by rw [Nat.mul_assoc, Nat.sub_mul]
  have a4 : r * L * L' = r * L' * L := by ac_rfl
  have a5 : sg * L * L' = sg * L' * L := by ac_rfl
  have a6 : st * (U * L' - r * L * L') ≤ st * (U' * L - r * L' * L) := Nat.mul_le_mul_left st (by omega)
  rw [a3, ← a5]
  omega
theorem fb_mono {st R sg : Nat → Nat} {n b p q : Nat} (hR : ∀ k i, R i ≤ R (i + k)) (hp : 1 ≤ p) (hpq : p ≤ q) (h : fb st R sg n p b ≠ none) : fb st R sg n q b ≠ none := by
  unfold fb at h
  by_cases hl : 0 < lowN st R b p n
  · rw [if_pos hl] at h
    obtain ⟨j, hj, hc⟩ := fbk_some n h
    have hlp : lowN st R b p n = (pr st R b p n).1 := by unfold lowN; rw [if_neg (by omega)]
    have hlq : lowN st R b q n = (pr st R b q n).1 := by unfold lowN; rw [if_neg (by omega)]
    have key : 0 < lowN st R b q n ∧ uppN st R b p n * lowN st R b q n ≤ uppN st R b q n * lowN st R b p n := by
      rw [hlp] at hl
      rw [hlp, hlq]
      unfold uppN
      rcases pr_mono (st := st) (b := b) hpq hR n with e | ⟨-, e1, e2⟩
      · rw [← e]
        exact ⟨hl, Nat.mul_le_mul_right _ (by omega)⟩
      · exact ⟨by omega, e1⟩
    unfold fb
    rw [if_pos key.1]
    intro hn
    refine (fbk_none n hn).2 j hj ?_
    simp only [boN] at hc ⊢
    by_cases hb : b.testBit j = true
    · rw [if_pos hb] at hc ⊢
      exact much_mono hl key.1 key.2 hc
    · rw [if_neg hb] at hc; omega
  · rw [if_neg hl] at h; exact absurd rfl h
theorem lst_le {T : Nat → Option Nat} : ∀ k p, lstN T k p ≤ p + k := by
  intro k
  induction k with
  | zero => intro p; exact Nat.le_refl _
  | succ k ih =>
    intro p
    simp only [lstN]
    split
    · have := ih (p + 1); omega
    · omega
theorem ld_le {nu : Nat → Nat → Nat} {n W i : Nat} (hn : n ≤ 8) (hS : ∀ i, i < n → nu 1 i ≤ 9) (hR : ∀ i, i < n → R0 nu i ≤ 240) (hi : i < n) : ldN nu n W i ≤ 20000 := by
  unfold ldN
  split
  · have := la_le (R := R0 nu) (b := W) (hR i hi) hS n (Nat.le_refl n); omega
  · omega
theorem ok_gt {x : Int32} {k : Nat} {M : Int32} (hM : M = nI k) (hk : k < 2 ^ 30) (h1 : ¬ x < 0) (h2 : ¬ M < x) : ∃ j, j < k + 1 ∧ x = nI j := ok_le hM hk h1 (Int32.not_lt.mp h2)
theorem ok_ngt {x : Int32} {k : Nat} {M : Int32} (hM : M = nI k) (hk : k < 2 ^ 30) (h2 : M < x) : okB x (k + 1) = false := ok_nle hM hk (fun q => Int32.not_lt.mpr q h2)
theorem pop_le (W : Nat) : pop W ≤ 9 := by
  have h := fun i => Bool.toNat_le (W.testBit i)
  have h0 := h 0; have h1 := h 1; have h2 := h 2; have h3 := h 3; have h4 := h 4; have h5 := h 5; have h6 := h 6; have h7 := h 7; have h8 := h 8
  unfold pop; omega
theorem mlC_congr {so so' : Nat → Bool} {ct : Nat → Int32} : ∀ k, (∀ t, t < k → so t = so' t) → mlC so ct k = mlC so' ct k := by
  intro k
  induction k with
  | zero => intro _; rfl
  | succ k ih =>
    intro h
    have hc : ∀ j, j ≤ k + 1 → ∀ last, cq so ct last j = cq so' ct last j := by
      intro j
      induction j with
      | zero => intro _ _; rfl
      | succ j ihj => intro hj last; simp only [cq, ihj (by omega) last, h j (by omega)]
    simp only [mlC, ih (fun t ht => h t (by omega)), h k (by omega), hc (k + 1) (Nat.le_refl _)]
theorem mA_sb {so : Nat → Bool} {nu : Nat → Nat → Nat} {n W p : Nat} : mlC (fun t9 => (fbits so (n + 1)).testBit t9) (fun s9 => cutS nu n W s9 p) (n + 1) = mA so nu n W p := by
  unfold mA
  refine mlC_congr _ (fun t ht => ?_)
  show (fbits so (n + 1)).testBit t = so t
  rw [fbits_tb, decide_eq_true ht, Bool.true_and]
theorem fb_so {so : Nat → Bool} {n i : Nat} (h : i < n) : (fbits so n).testBit i = so i := by rw [fbits_tb, decide_eq_true h, Bool.true_and]
theorem ok_lt2 {x : Int32} (h1 : ¬ x < 0) (h2 : x < 2) : ∃ j, j < 2 ∧ x = nI j := ok_of (by decide) h1 (Int32.not_le.mpr h2)
