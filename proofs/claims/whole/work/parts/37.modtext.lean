/-! the reference reads -/
def soQ (ch : Nat → Nat) (z p : Nat) : Nat := if p < z then (if ch p = 108 then 1 else if figN (ch p) = true then 2 else if ch p = 59 then 3 else 4) else 0
def enQ (ch : Nat → Nat) (z p : Nat) : Nat := if p < z then teN ch z p else p
def vlN (ch : Nat → Nat) (p : Nat) : Nat → Nat
  | 0 => ch p - 48
  | k + 1 => if ch p = 48 then 1000 else (if vlN ch p k ≤ 99 then 10 * vlN ch p k + (ch (p + k + 1) - 48) else 1000)
def vaQ (ch : Nat → Nat) (z p v0 : Nat) : Nat := if soQ ch z p = 2 then vlN ch p (teN ch z p - p - 1) else v0
theorem soQ_le {ch : Nat → Nat} {z p : Nat} : soQ ch z p ≤ 4 := by unfold soQ; repeat' split
                                                                   all_goals omega
theorem soQ_2 {ch : Nat → Nat} {z p : Nat} : soQ ch z p = 2 ↔ p < z ∧ figN (ch p) = true := by
  unfold soQ
  by_cases h : p < z
  · rw [if_pos h]
    by_cases h1 : ch p = 108
    · rw [if_pos h1]
      exact ⟨fun q => by omega, fun q => by have := fig_in q.2; omega⟩
    · rw [if_neg h1]
      by_cases h2 : figN (ch p) = true
      · rw [if_pos h2]; exact ⟨fun _ => ⟨h, h2⟩, fun _ => rfl⟩
      · rw [if_neg h2]
        refine ⟨fun q => ?_, fun q => absurd q.2 h2⟩
        split at q <;> omega
  · rw [if_neg h]; exact ⟨fun q => by omega, fun q => absurd q.1 h⟩
theorem enQ_in {ch : Nat → Nat} {z p : Nat} (h : p ≤ z) : p ≤ enQ ch z p ∧ enQ ch z p ≤ z := by
  unfold enQ
  split
  · rename_i q; have := te_in (ch := ch) q; omega
  · omega
theorem vl_le {ch : Nat → Nat} {p z : Nat} (hch : ∀ i, i < z → ch i ≤ 255) : ∀ k, p + k < z → (∀ i, p ≤ i → i ≤ p + k → figN (ch i) = true) → vlN ch p k ≤ 1009 := by
  intro k
  induction k with
  | zero => intro h hf; have := fig_in (hf p (Nat.le_refl _) (by omega)); simp only [vlN]; omega
  | succ k ih =>
    intro h hf
    have h1 := ih (by omega) (fun i a b => hf i a (by omega))
    have h2 := fig_in (hf (p + k + 1) (by omega) (by omega))
    simp only [vlN]
    split
    · omega
    · split <;> omega
theorem vl_big {ch : Nat → Nat} {p : Nat} : ∀ k d, 99 < vlN ch p k → 99 < vlN ch p (k + d) := by
  intro k d
  induction d with
  | zero => intro h; exact h
  | succ d ih =>
    intro h
    have h1 := ih h
    show 99 < vlN ch p (k + d + 1)
    simp only [vlN]
    split
    · omega
    · rw [if_neg (by omega)]; omega
/-- a number that fits is the class's number -/
theorem vl_num {ch : Nat → Nat} {p e : Nat} (hpe : p < e) (hf : ∀ i, p ≤ i → i < e → figN (ch i) = true) (v : Nat) (hv : v ≤ 99) : vlN ch p (e - p - 1) = v ↔ numO ch p e = some v := by
  have hp := hf p (Nat.le_refl _) hpe
  have d0 := fig_in hp
  unfold numO
  rw [if_pos hp]
  by_cases hz : 1 < e - p ∧ ch p = 48
  · rw [if_pos hz]
    refine ⟨fun q => ?_, fun q => by cases q⟩
    rw [show e - p - 1 = (e - p - 2) + 1 by omega] at q
    simp only [vlN, if_pos hz.2] at q
    omega
  · rw [if_neg hz]
    by_cases h2 : 2 < e - p
    · rw [if_pos h2]
      refine ⟨fun q => ?_, fun q => by cases q⟩
      have n48 : ¬ ch p = 48 := fun q => hz ⟨by omega, q⟩
      have d1 := fig_in (hf (p + 1) (by omega) (by omega))
      have d2 := fig_in (hf (p + 2) (by omega) (by omega))
      have b2 : 99 < vlN ch p 2 := by
        have e1 : vlN ch p 1 = 10 * (ch p - 48) + (ch (p + 1) - 48) := by
          show (if ch p = 48 then 1000 else (if ch p - 48 ≤ 99 then 10 * (ch p - 48) + (ch (p + 0 + 1) - 48) else 1000)) = _
          rw [if_neg n48, if_pos (by omega), Nat.add_zero]
        have e2 : vlN ch p 2 = if vlN ch p 1 ≤ 99 then 10 * vlN ch p 1 + (ch (p + 1 + 1) - 48) else 1000 := by
          show vlN ch p (1 + 1) = _
          rw [vlN, if_neg n48]
        rw [e2]
        split <;> omega
      have := vl_big 2 (e - p - 1 - 2) b2
      rw [show 2 + (e - p - 1 - 2) = e - p - 1 by omega] at this
      omega
    · rw [if_neg h2]
      rcases (show e - p = 1 ∨ e - p = 2 by omega) with q | q
      · rw [q]
        have e1 : dcN ch p 1 = ch p - 48 := by simp only [dcN, Nat.add_zero]; omega
        rw [e1]
        show ch p - 48 = v ↔ _
        exact ⟨fun h => by rw [h], fun h => Option.some.inj h⟩
      · rw [q]
        have n48 : ¬ ch p = 48 := fun h => hz ⟨by omega, h⟩
        have e1 : dcN ch p 2 = 10 * (ch p - 48) + (ch (p + 1) - 48) := by simp only [dcN, Nat.add_zero]; omega
        have e2 : vlN ch p 1 = 10 * (ch p - 48) + (ch (p + 1) - 48) := by
          show (if ch p = 48 then 1000 else (if ch p - 48 ≤ 99 then 10 * (ch p - 48) + (ch (p + 0 + 1) - 48) else 1000)) = _
          rw [if_neg n48, if_pos (by omega), Nat.add_zero]
        rw [e1]
        show vlN ch p 1 = v ↔ _
        rw [e2]
        exact ⟨fun h => by rw [h], fun h => Option.some.inj h⟩
def numB (ch : Nat → Nat) (z a v0 lo hi : Nat) : Bool := if soQ ch z (bk ch z a) = 2 then decide (lo ≤ vaQ ch z (bk ch z a) v0 ∧ vaQ ch z (bk ch z a) v0 ≤ hi) else false
def fAb (nu : Nat → Nat → Nat) (n : Nat) : Nat := if n = 0 then 9 else nu 0 (n - 1)
abbrev Pq (ch : Nat → Nat) (z p : Nat) : Nat := bk ch z (enQ ch z p)
abbrev V1 (ch : Nat → Nat) (z p v0 : Nat) : Nat := vaQ ch z (Pq ch z p) v0
def leafB (ch : Nat → Nat) (z p n v0 ab : Nat) : Bool := if soQ ch z p = 1 then (if n = 8 then false else (if numB ch z (enQ ch z p) v0 1 ab = true then (if numB ch z (enQ ch z (Pq ch z p)) (V1 ch z p v0) 1 9 = true then (if numB ch z (enQ ch z (Pq ch z (Pq ch z p))) (V1 ch z (Pq ch z p) (V1 ch z p v0)) 0 30 = true then (if numB ch z (enQ ch z (Pq ch z (Pq ch z (Pq ch z p)))) (V1 ch z (Pq ch z (Pq ch z p)) (V1 ch z (Pq ch z p) (V1 ch z p v0))) 1 99 = true then decide (soQ ch z (Pq ch z (Pq ch z (Pq ch z (Pq ch z (Pq ch z p))))) = 3) else false) else false) else false) else false)) else false
theorem va_le {ch : Nat → Nat} {z p v0 : Nat} (hz : ∀ i, i < z → ch i ≤ 255) (h : v0 ≤ 2000) : vaQ ch z p v0 ≤ 2000 := by
  unfold vaQ
  split
  · rename_i q
    obtain ⟨a, b⟩ := soQ_2.mp q
    have c := te_in (ch := ch) a
    have := vl_le (ch := ch) (p := p) (z := z) hz (teN ch z p - p - 1) (by omega) (fun i h1 h2 => te_fig (z := z) b i h1 (by omega))
    omega
  · exact h
def fpN (ch : Nat → Nat) (z p n v0 ab : Nat) : Nat := if soQ ch z p = 1 then (if n = 8 then p else (if numB ch z (enQ ch z p) v0 1 ab = true then (if numB ch z (enQ ch z (Pq ch z p)) (V1 ch z p v0) 1 9 = true then (if numB ch z (enQ ch z (Pq ch z (Pq ch z p))) (V1 ch z (Pq ch z p) (V1 ch z p v0)) 0 30 = true then (if numB ch z (enQ ch z (Pq ch z (Pq ch z (Pq ch z p)))) (V1 ch z (Pq ch z (Pq ch z p)) (V1 ch z (Pq ch z p) (V1 ch z p v0))) 1 99 = true then Pq ch z (Pq ch z (Pq ch z (Pq ch z (Pq ch z p)))) else Pq ch z (Pq ch z (Pq ch z (Pq ch z p)))) else Pq ch z (Pq ch z (Pq ch z p))) else Pq ch z (Pq ch z p)) else Pq ch z p)) else p
def drN (df : Nat → Int32) (n v1 v2 v3 v4 : Nat) : Nat → Int32 := upd (upd (upd (upd (upd (upd df (5 * n + 1) (nI v1)) (5 * n + 2) (nI v2)) (5 * n + 3) (nI v3)) (5 * n + 4) (nI v4)) (5 * n + 5) 1) 0 (nI (n + 1))
