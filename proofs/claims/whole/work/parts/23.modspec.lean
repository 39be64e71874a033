/-! the reference: its own words -/
def o9 (o : Option Nat) : Int32 := match o with
  | none => -9
  | some j => nI j
theorem fig_dec {v : Nat} : decide (48 ≤ v ∧ v ≤ 57) = figN v := by
  unfold figN
  by_cases h : v < 48
  · rw [if_pos h]; exact decide_eq_false (by omega)
  · rw [if_neg h]
    by_cases h2 : 57 < v
    · rw [if_pos h2]; exact decide_eq_false (by omega)
    · rw [if_neg h2]; exact decide_eq_true (by omega)
theorem mod_step (W k : Nat) : W % 2 ^ (k + 1) = if W.testBit k = true then W % 2 ^ k ||| 2 ^ k else W % 2 ^ k := by
  apply Nat.eq_of_testBit_eq
  intro i
  rw [Nat.testBit_mod_two_pow]
  split
  · rename_i h
    rw [Nat.testBit_or, Nat.testBit_mod_two_pow, Nat.testBit_two_pow]
    by_cases e : k = i
    · subst e; simp [h]
    · rcases Nat.lt_or_ge i k with q | q
      · simp [q, Nat.lt_succ_of_lt q, e]
      · simp [Nat.not_lt.mpr q, e, show ¬ i < k + 1 by omega]
  · rename_i h
    rw [Nat.testBit_mod_two_pow]
    by_cases e : i = k
    · subst e; simp at h; simp [h]
    · rcases Nat.lt_or_ge i k with q | q
      · simp [q, Nat.lt_succ_of_lt q]
      · simp [Nat.not_lt.mpr q, show ¬ i < k + 1 by omega]
theorem pop_cnt {W : Nat} (h : W < 256) : cnt (fun i => W.testBit i) 8 = pop W := by
  have h8 : W.testBit 8 = false := Nat.testBit_lt_two_pow (by omega)
  unfold pop
  rw [h8]
  simp [cnt_s, cnt_0]
theorem wlt {n W : Nat} (hn : n ≤ 8) (h : W < 2 ^ n) : W < 256 := Nat.lt_of_lt_of_le h (Nat.pow_le_pow_right (n := 2) (by decide) hn)
theorem all_lt {n : Nat} (hn : n ≤ 8) : 2 ^ n - 1 < 256 := by
  have : 2 ^ n ≤ 2 ^ 8 := Nat.pow_le_pow_right (by decide) hn
  have : (2 : Nat) ^ 8 = 256 := rfl
  omega
theorem all_tb {n i : Nat} (h : i < n) : (2 ^ n - 1).testBit i = true := by rw [Nat.testBit_two_pow_sub_one]; exact decide_eq_true h
theorem rs_congr {ca : Nat → Nat} {M M' : Nat} : ∀ i, (∀ j, j < i → M.testBit j = M'.testBit j) → rs ca M i = rs ca M' i := by
  intro i
  induction i with
  | zero => intro _; rfl
  | succ i ih => intro h; simp only [rs, ih (fun j hj => h j (by omega)), h i (by omega)]
theorem tb255 {i : Nat} (h : i < 8) : (255 : Nat).testBit i = true := (show ∀ i, i < 8 → (255 : Nat).testBit i = true by decide) i h
theorem RC_all {ca : Nat → Nat} {n j : Nat} (hn : n ≤ 8) (hj : j < n) : RC ca (2 ^ n - 1) j = RC ca 255 j := by
  unfold RC
  rw [rs_congr (M' := 255) (j + 1) (fun i hi => by rw [all_tb (by omega), tb255 (by omega)])]
def abN (st R : Nat → Nat) (b p n : Nat) : Nat := if (pr st R b p n).1 = 0 then 0 else p + (pr st R b p n).2
def beN (st R : Nat → Nat) (b p n : Nat) : Nat := if (pr st R b p n).1 = 0 then 1 else (pr st R b p n).1
theorem pr_zero {st R : Nat → Nat} {b p : Nat} : ∀ n, (∀ i, i < n → 1 ≤ st i) → (pr st R b p n).1 = 0 → (pr st R b p n).2 = 0 ∧ (0 < p → ∀ i, i < n → b.testBit i = false) := by
  intro n
  induction n with
  | zero => intro _ _; exact ⟨rfl, fun _ i hi => absurd hi (Nat.not_lt_zero _)⟩
  | succ n ih =>
    intro h h0
    simp only [pr] at h0 ⊢
    by_cases hb : b.testBit n = true
    · rw [if_pos hb] at h0 ⊢
      by_cases c : p + (pr st R b p n).2 ≤ (pr st R b p n).1 * R n
      · rw [if_pos c] at h0 ⊢
        obtain ⟨a1, a2⟩ := ih (fun i hi => h i (by omega)) h0
        rw [h0, a1] at c
        exact ⟨a1, fun hp => by omega⟩
      · rw [if_neg c] at h0
        have h0 : (pr st R b p n).1 + st n = 0 := h0
        have := h n (by omega)
        omega
    · rw [if_neg hb] at h0 ⊢
      obtain ⟨a1, a2⟩ := ih (fun i hi => h i (by omega)) h0
      refine ⟨a1, fun hp i hi => ?_⟩
      by_cases e : i = n
      · rw [e]; cases q : b.testBit n <;> simp_all
      · exact a2 hp i (by omega)
theorem bits_zero {b n : Nat} (hb : b < 2 ^ n) (h : ∀ i, i < n → b.testBit i = false) : b = 0 := by
  apply Nat.eq_of_testBit_eq
  intro i
  rw [Nat.zero_testBit]
  rcases Nat.lt_or_ge i n with q | q
  · exact h i q
  · exact Nat.testBit_lt_two_pow (Nat.lt_of_lt_of_le hb (Nat.pow_le_pow_right (by decide) q))
theorem pr_p0 {st R : Nat → Nat} {b : Nat} : ∀ n, pr st R b 0 n = (0, 0) := by
  intro n
  induction n with
  | zero => rfl
  | succ n ih =>
    simp only [pr, ih]
    by_cases h : b.testBit n = true
    · rw [if_pos h, if_pos (by omega)]
    · rw [if_neg h]
theorem bent {st R : Nat → Nat} {b p n : Nat} (hs : ∀ i, i < n → 1 ≤ st i) (hb : b < 2 ^ n) : 0 < lowN st R b p n ↔ (p = 0 ∨ b ≠ 0) := by
  unfold lowN
  by_cases hp : p = 0
  · rw [if_pos hp]; exact ⟨fun _ => Or.inl hp, fun _ => by decide⟩
  · rw [if_neg hp]
    constructor
    · intro h
      right
      intro hb0
      subst hb0
      have : ∀ n, pr st R 0 p n = (0, 0) := by
        intro n
        induction n with
        | zero => rfl
        | succ n ih => simp only [pr, ih, Nat.zero_testBit, Bool.false_eq_true, if_false]
      rw [this n] at h
      exact absurd h (Nat.lt_irrefl 0)
    · intro h
      rcases Nat.eq_zero_or_pos (pr st R b p n).1 with q | q
      · exact absurd (bits_zero hb ((pr_zero n hs q).2 (by omega))) (by rcases h with h | h; exact absurd h hp; exact h)
      · exact q
theorem ab_eq {st R : Nat → Nat} {b p n : Nat} (h : 0 < lowN st R b p n) : abN st R b p n = uppN st R b p n ∧ beN st R b p n = lowN st R b p n := by
  unfold abN beN lowN uppN at *
  by_cases hp : p = 0
  · subst hp; rw [pr_p0]; exact ⟨rfl, rfl⟩
  · rw [if_neg hp] at h ⊢
    rw [if_neg (by omega), if_neg (by omega)]
    exact ⟨rfl, rfl⟩
theorem gcd_pos {a b : Nat} (h : 0 < b) : gcdM a b = Nat.gcd a b := by
  have := Nat.gcd_pos_of_pos_right a h
  unfold gcdM; omega
