theorem cut_eq {st R : Nat → Nat} {b p n : Nat} : (if decide (0 < lowN st R b p n) = true then nI (abN st R b p n / beN st R b p n) else (-9)) = cutI (uppN st R b p n) (lowN st R b p n) := by
  unfold cutI
  by_cases h : 0 < lowN st R b p n
  · rw [if_pos (decide_eq_true h), if_neg (by omega), (ab_eq h).1, (ab_eq h).2]
  · rw [if_neg (by rw [decide_eq_false h]; exact fun q => by cases q), if_pos (by omega)]
theorem so_res {mb X : Bool} (ht : mb = true → X = true) (hf : mb = false → X = false) : mb = X := by
  cases mb with
  | false => exact (hf rfl).symm
  | true => exact (ht rfl).symm
theorem so_0 {nu : Nat → Nat → Nat} {n W sz : Nat} {lo : Nat → Nat} {bf : Nat → Int32} : soB nu n W sz lo bf 0 = agB nu n W sz lo bf 0 := by unfold soB; rw [if_pos rfl]
theorem so_S {nu : Nat → Nat → Nat} {n W sz j : Nat} {lo : Nat → Nat} {bf : Nat → Int32} : soB nu n W sz lo bf (j + 1) = if W.testBit j = true then agB nu n W sz lo bf (j + 1) else false := by unfold soB; rw [if_neg (by omega)]; rfl
theorem ag_t {nu : Nat → Nat → Nat} {n W sz s : Nat} {lo : Nat → Nat} {bf : Nat → Int32} (h : ∀ i, i < sz → cutS nu n W s (lo i) = bf i) : agB nu n W sz lo bf s = true := decide_eq_true h
theorem ag_f {nu : Nat → Nat → Nat} {n W sz s i : Nat} {lo : Nat → Nat} {bf : Nat → Int32} (hi : i < sz) (h : ¬ cutS nu n W s (lo i) = bf i) : agB nu n W sz lo bf s = false := decide_eq_false (fun q => h (q i hi))
theorem inc_a {t : Nat} (h : 0 < t) : nI (t - 1) + Int32.ofInt 1 = nI (t + 1) - 1 := by
  rw [show nI (t + 1) - 1 = nI (t + 1 - 1) from pk_sub (b := 1) (by omega), show nI (t - 1) + Int32.ofInt 1 = nI (t - 1 + 1) from nI_add _ 1, show t - 1 + 1 = t by omega, show t + 1 - 1 = t by omega]
theorem m2_lt {u : Nat} (h : u < 2 ^ 30) : nI u - 2 < (-1) ↔ u = 0 := by
  have e : (nI u - nI 2).toInt = (u : Int) - (2 : Nat) := pk_sub_toInt h (by decide)
  have e1 : (-1 : Int32).toInt = -1 := rfl
  show nI u - nI 2 < (-1) ↔ u = 0
  rw [Int32.lt_iff_toInt_lt, e, e1]
  omega
theorem dec_a {u : Nat} (h : 2 ≤ u) : nI (u - 2) + Int32.ofInt (-1) = nI (u - 1) - 2 := by
  obtain ⟨v, rfl⟩ : ∃ v, u = v + 2 := ⟨u - 2, by omega⟩
  show nI v + Int32.ofInt (-1) = nI (v + 1) - 2
  have e : Int32.ofInt (-1) = 1 - 2 := by decide
  rw [e, ← nI_1, Int32.sub_eq_add_neg, Int32.sub_eq_add_neg, Int32.add_assoc]
theorem fso_min {so : Nat → Bool} : ∀ m s, s < m → so s = true → (∀ t, t < s → so t = false) → fso so m = some s := by
  intro m
  induction m with
  | zero => intro s h; omega
  | succ m ih =>
    intro s h hs hl
    by_cases e : s = m
    · subst e
      have : ∀ k, k ≤ s → fso so k = none := by
        intro k
        induction k with
        | zero => intro _; rfl
        | succ k ihk => intro hk; simp only [fso, ihk (by omega), hl k (by omega), Bool.false_eq_true, if_false]
      simp only [fso, this s (Nat.le_refl s), hs, if_true]
    · simp only [fso, ih s (by omega) hs hl]
theorem fso_no {so : Nat → Bool} : ∀ m, (∀ t, t < m → so t = false) → fso so m = none := by
  intro m
  induction m with
  | zero => intro _; rfl
  | succ m ih => intro h; simp only [fso, ih (fun t ht => h t (by omega)), h m (by omega), Bool.false_eq_true, if_false]
def mlM (so : Nat → Bool) (ct : Nat → Int32) (m : Nat) : Nat → Nat
  | 0 => 0
  | k + 1 => max (mlM so ct m k) (if so k = true then cq so ct k m else 0)
theorem cq_eqv {so : Nat → Bool} {ct : Nat → Int32} {a b : Nat} (h : ct a = ct b) : ∀ k, cq so ct a k = cq so ct b k := by
  intro k
  induction k with
  | zero => rfl
  | succ k ih => simp only [cq, ih, h]
theorem mlC_ge {so : Nat → Bool} {ct : Nat → Int32} : ∀ m s, s < m → so s = true → cq so ct s (s + 1) ≤ mlC so ct m := by
  intro m
  induction m with
  | zero => intro s h; omega
  | succ m ih =>
    intro s h hs
    simp only [mlC]
    by_cases e : s = m
    · subst e; rw [if_pos hs]; omega
    · have := ih s (by omega) hs
      split <;> omega
theorem cq_last {so : Nat → Bool} {ct : Nat → Int32} {v : Nat} : ∀ m, cq so ct v m = 0 ∨ ∃ s, s < m ∧ so s = true ∧ ct s = ct v ∧ cq so ct v m = cq so ct s (s + 1) := by
  intro m
  induction m with
  | zero => exact Or.inl rfl
  | succ m ih =>
    by_cases h1 : so m = true
    · by_cases h2 : ct m = ct v
      · exact Or.inr ⟨m, by omega, h1, h2, cq_eqv h2.symm (m + 1)⟩
      · have e : cq so ct v (m + 1) = cq so ct v m := by simp only [cq, if_pos h1, if_neg h2]
        rw [e]
        rcases ih with q | ⟨s, a, b, c, d⟩
        · exact Or.inl q
        · exact Or.inr ⟨s, by omega, b, c, d⟩
    · have e : cq so ct v (m + 1) = cq so ct v m := by simp only [cq, if_neg h1]
      rw [e]
      rcases ih with q | ⟨s, a, b, c, d⟩
      · exact Or.inl q
      · exact Or.inr ⟨s, by omega, b, c, d⟩
theorem cq_mono {so : Nat → Bool} {ct : Nat → Int32} {v : Nat} : ∀ d k, cq so ct v k ≤ cq so ct v (k + d) := by
  intro d
  induction d with
  | zero => intro k; exact Nat.le_refl _
  | succ d ih =>
    intro k
    refine Nat.le_trans (ih k) ?_
    show cq so ct v (k + d) ≤ cq so ct v (k + d + 1)
    simp only [cq]
    split
    · split <;> omega
    · omega
theorem mlM_le {so : Nat → Bool} {ct : Nat → Int32} {m : Nat} : ∀ k, k ≤ m → mlM so ct m k ≤ mlC so ct m := by
  intro k
  induction k with
  | zero => intro _; exact Nat.zero_le _
  | succ k ih =>
    intro hk
    have h1 := ih (by omega)
    simp only [mlM]
    by_cases h : so k = true
    · rw [if_pos h]
      rcases cq_last (so := so) (ct := ct) (v := k) m with q | ⟨s, a, b, c, d⟩
      · omega
      · have := mlC_ge (ct := ct) m s a b; omega
    · rw [if_neg h]; omega
theorem mlM_up {so : Nat → Bool} {ct : Nat → Int32} {m : Nat} : ∀ k, k ≤ m → mlC so ct k ≤ mlM so ct m k := by
  intro k
  induction k with
  | zero => intro _; exact Nat.zero_le _
  | succ k ih =>
    intro hk
    have h1 := ih (by omega)
    simp only [mlM, mlC]
    by_cases h : so k = true
    · rw [if_pos h, if_pos h]
      have := cq_mono (so := so) (ct := ct) (v := k) (m - (k + 1)) (k + 1)
      rw [show k + 1 + (m - (k + 1)) = m by omega] at this
      omega
    · rw [if_neg h, if_neg h]; omega
theorem mlM_eq {so : Nat → Bool} {ct : Nat → Int32} {m : Nat} : mlM so ct m m = mlC so ct m := Nat.le_antisymm (mlM_le m (Nat.le_refl m)) (mlM_up m (Nat.le_refl m))
theorem mlM_bd {so : Nat → Bool} {ct : Nat → Int32} {m : Nat} : ∀ k, mlM so ct m k ≤ m := by
  intro k
  induction k with
  | zero => exact Nat.zero_le _
  | succ k ih =>
    have := cq_le (so := so) (ct := ct) (last := k) m
    simp only [mlM]; split <;> omega
theorem bI_vp (b : Bool) : vp_nar .boolean (bI b) = bI b := by cases b <;> rfl
theorem cnt_le {so : Nat → Bool} : ∀ k, cnt so k ≤ k := by
  intro k
  induction k with
  | zero => exact Nat.le_refl _
  | succ k ih => rw [cnt_s]; have := Bool.toNat_le (so k); omega
theorem fd_no {so : Nat → Bool} {n u : Nat} {fd : Int32} (h : so (u - 1) = false) (hfd : (fd = (-2000000) ∧ ∀ s9, u ≤ s9 → s9 ≤ n → so s9 = false) ∨ (∃ s9, u ≤ s9 ∧ s9 ≤ n ∧ so s9 = true ∧ (∀ t9, u ≤ t9 → t9 < s9 → so t9 = false) ∧ fd = nI s9 - 1)) (hu : 0 < u) : (fd = (-2000000) ∧ ∀ s9, u - 1 ≤ s9 → s9 ≤ n → so s9 = false) ∨ (∃ s9, u - 1 ≤ s9 ∧ s9 ≤ n ∧ so s9 = true ∧ (∀ t9, u - 1 ≤ t9 → t9 < s9 → so t9 = false) ∧ fd = nI s9 - 1) := by
  have key : ∀ t, u - 1 ≤ t → t < u → so t = false := fun t a b => by rw [show t = u - 1 by omega]; exact h
  rcases hfd with ⟨a, b⟩ | ⟨s, a, b, c, d, e⟩
  · exact Or.inl ⟨a, fun t p q => by rcases Nat.lt_or_ge t u with z | z; exact key t p z; exact b t z q⟩
  · exact Or.inr ⟨s, by omega, b, c, fun t p q => by rcases Nat.lt_or_ge t u with z | z; exact key t p z; exact d t z q, e⟩
theorem fd_yes {so : Nat → Bool} {n u : Nat} {fd : Int32} (h : so (u - 1) = true) (hu : 0 < u) (hn : u ≤ n + 1) (e : fd = nI (u - 1) - 1) : (fd = (-2000000) ∧ ∀ s9, u - 1 ≤ s9 → s9 ≤ n → so s9 = false) ∨ (∃ s9, u - 1 ≤ s9 ∧ s9 ≤ n ∧ so s9 = true ∧ (∀ t9, u - 1 ≤ t9 → t9 < s9 → so t9 = false) ∧ fd = nI s9 - 1) :=
  Or.inr ⟨u - 1, Nat.le_refl _, by omega, h, fun t p q => by omega, e⟩
theorem fd_end {so : Nat → Bool} {n : Nat} {fd : Int32} (hfd : (fd = (-2000000) ∧ ∀ s9, 0 ≤ s9 → s9 ≤ n → so s9 = false) ∨ (∃ s9, 0 ≤ s9 ∧ s9 ≤ n ∧ so s9 = true ∧ (∀ t9, 0 ≤ t9 → t9 < s9 → so t9 = false) ∧ fd = nI s9 - 1)) : fd = match fso so (n + 1) with
  | none => (-2000000)
  | some s => nI s - 1 := by
  rcases hfd with ⟨a, b⟩ | ⟨s, -, b, c, d, e⟩
  · rw [fso_no (n + 1) (fun t ht => b t (Nat.zero_le _) (by omega))]; exact a
  · rw [fso_min (n + 1) s (by omega) c (fun t ht => d t (Nat.zero_le _) ht)]; exact e
