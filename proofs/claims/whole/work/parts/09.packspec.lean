/-! the pack's mathematics: reach, bend, what is borne, what breaks -/
def nipN (ca : Nat → Nat) (o : Option Nat) (b : Nat) : Nat := match o with
  | none => 0
  | some j => ca j - ca b
def rs (ca : Nat → Nat) (M : Nat) : Nat → Option Nat × Nat
  | 0 => (none, 0)
  | i + 1 => if M.testBit i = true then (some i, (rs ca M i).2 + nipN ca (rs ca M i).1 i) else rs ca M i
def RC (ca : Nat → Nat) (M j : Nat) : Nat := (rs ca M (j + 1)).2
theorem rs_lt {ca : Nat → Nat} {M : Nat} : ∀ i j : Nat, (rs ca M i).1 = some j → j < i := by
  intro i
  induction i with
  | zero => intro j h; simp [rs] at h
  | succ i ih =>
    intro j h
    simp only [rs] at h
    split at h
    · simp at h; omega
    · have := ih j h; omega
theorem rs_le {ca : Nat → Nat} {M n : Nat} (hc : ∀ i, i < n → ca i ≤ 30) : ∀ i, i ≤ n → (rs ca M i).2 ≤ 30 * i := by
  intro i
  induction i with
  | zero => intro _; simp [rs]
  | succ i ih =>
    intro hi
    have h1 := ih (by omega)
    simp only [rs]
    split
    · show (rs ca M i).2 + nipN ca (rs ca M i).1 i ≤ _
      have : nipN ca (rs ca M i).1 i ≤ 30 := by
        cases h : (rs ca M i).1 with
        | none => simp [nipN]
        | some j =>
          have hj := rs_lt i j h
          have := hc j (by omega)
          simp only [nipN]; omega
      omega
    · omega
theorem rs_mono {ca : Nat → Nat} {M : Nat} : ∀ i, (rs ca M i).2 ≤ (rs ca M (i + 1)).2 := by
  intro i
  show _ ≤ (if M.testBit i = true then (some i, (rs ca M i).2 + nipN ca (rs ca M i).1 i) else rs ca M i).2
  split
  · show (rs ca M i).2 ≤ (rs ca M i).2 + _; omega
  · omega
theorem RC_mono {ca : Nat → Nat} {M : Nat} : ∀ k i, RC ca M i ≤ RC ca M (i + k) := by
  intro k
  induction k with
  | zero => intro i; exact Nat.le_refl _
  | succ k ih => intro i; exact Nat.le_trans (ih i) (rs_mono (i + k + 1))
theorem RC_le {ca : Nat → Nat} {M n : Nat} (hn : n ≤ 8) (hc : ∀ i, i < n → ca i ≤ 30) : ∀ i, i < n → RC ca M i ≤ 240 := by
  intro i hi
  have := rs_le (M := M) hc (i + 1) (by omega)
  show (rs ca M (i + 1)).2 ≤ 240
  omega
def pr (st R : Nat → Nat) (b p : Nat) : Nat → Nat × Nat
  | 0 => (0, 0)
  | i + 1 => if b.testBit i = true then (if p + (pr st R b p i).2 ≤ (pr st R b p i).1 * R i then pr st R b p i else ((pr st R b p i).1 + st i, (pr st R b p i).2 + st i * R i)) else pr st R b p i
theorem pr_le {st R : Nat → Nat} {b p n : Nat} (hS : ∀ i, i < n → st i ≤ 9) (hR : ∀ i, i < n → R i ≤ 240) : ∀ i, i ≤ n → (pr st R b p i).1 ≤ 9 * i ∧ (pr st R b p i).2 ≤ 2160 * i := by
  intro i
  induction i with
  | zero => intro _; simp [pr]
  | succ i ih =>
    intro hi
    obtain ⟨h1, h2⟩ := ih (by omega)
    have a1 := hS i (by omega)
    have a2 := hR i (by omega)
    have a3 : st i * R i ≤ 9 * 240 := Nat.mul_le_mul a1 a2
    simp only [pr]
    split
    · split
      · exact ⟨by omega, by omega⟩
      · exact ⟨by show _ + st i ≤ _; omega, by show _ + st i * R i ≤ _; omega⟩
    · exact ⟨by omega, by omega⟩
def lowN (st R : Nat → Nat) (b p n : Nat) : Nat := if p = 0 then 1 else (pr st R b p n).1
def uppN (st R : Nat → Nat) (b p n : Nat) : Nat := p + (pr st R b p n).2
theorem low_le {st R : Nat → Nat} {b p n : Nat} (hn : n ≤ 8) (hS : ∀ i, i < n → st i ≤ 9) (hR : ∀ i, i < n → R i ≤ 240) : lowN st R b p n ≤ 72 := by
  have := (pr_le (b := b) (p := p) hS hR n (Nat.le_refl n)).1
  unfold lowN; split <;> omega
theorem upp_le {st R : Nat → Nat} {b p n : Nat} (hn : n ≤ 8) (hp : p ≤ 999) (hS : ∀ i, i < n → st i ≤ 9) (hR : ∀ i, i < n → R i ≤ 240) : uppN st R b p n ≤ 20000 := by
  have := (pr_le (b := b) (p := p) hS hR n (Nat.le_refl n)).2
  unfold uppN; omega
def cutI (U L : Nat) : Int32 := if L ≤ 0 then (-9) else nI (U / L)
def boN (st R : Nat → Nat) (b U L j : Nat) : Nat := if b.testBit j = true then st j * (U - R j * L) else 0
theorem bo_le {st R : Nat → Nat} {b U L j : Nat} (hU : U ≤ 20000) (hS : st j ≤ 9) : boN st R b U L j ≤ 180000 := by
  unfold boN
  split
  · have : st j * (U - R j * L) ≤ 9 * 20000 := Nat.mul_le_mul hS (by omega)
    omega
  · omega
def fbk (bo tl : Nat → Nat) : Nat → Option Nat × Nat
  | 0 => (none, 0)
  | i + 1 => if (fbk bo tl i).2 + tl i < bo i then (some i, bo i - tl i) else fbk bo tl i
theorem fbk_lt {bo tl : Nat → Nat} : ∀ i j : Nat, (fbk bo tl i).1 = some j → j < i := by
  intro i
  induction i with
  | zero => intro j h; simp [fbk] at h
  | succ i ih =>
    intro j h
    simp only [fbk] at h
    split at h
    · simp at h; omega
    · have := ih j h; omega
theorem fbk_le {bo tl : Nat → Nat} {K : Nat} (h : ∀ i, bo i ≤ K) : ∀ i, (fbk bo tl i).2 ≤ K := by
  intro i
  induction i with
  | zero => simp [fbk]
  | succ i ih =>
    simp only [fbk]
    split
    · show bo i - tl i ≤ K; have := h i; omega
    · exact ih
/-- which leaf breaks first by p -/
def fb (st R sg : Nat → Nat) (n p b : Nat) : Option Nat := if 0 < lowN st R b p n then (fbk (fun j => boN st R b (uppN st R b p n) (lowN st R b p n) j) (fun j => sg j * lowN st R b p n) n).1 else none
theorem fb_lt {st R sg : Nat → Nat} {n p b j : Nat} (h : fb st R sg n p b = some j) : j < n := by
  unfold fb at h
  split at h
  · exact fbk_lt n j h
  · cases h
def wa (fbb : Nat → Option Nat) : Nat → Nat → Nat
  | 0, b => b
  | k + 1, b => match fbb b with
    | none => b
    | some j => wa fbb k (clr b j)
theorem wa_none {fbb : Nat → Option Nat} {k b : Nat} (h : fbb b = none) : wa fbb k b = b := by
  cases k with
  | zero => rfl
  | succ k => simp only [wa, h]
theorem wa_some {fbb : Nat → Option Nat} {k b j : Nat} (h : fbb b = some j) : wa fbb (k + 1) b = wa fbb k (clr b j) := by
  simp only [wa, h]
def laN (st R : Nat → Nat) (b d : Nat) : Nat → Nat
  | 0 => 0
  | i + 1 => if b.testBit i = true then laN st R b d i + st i * (d - R i) else laN st R b d i
theorem la_le {st R : Nat → Nat} {b d n : Nat} (hd : d ≤ 240) (hS : ∀ i, i < n → st i ≤ 9) : ∀ i, i ≤ n → laN st R b d i ≤ 2160 * i := by
  intro i
  induction i with
  | zero => intro _; simp [laN]
  | succ i ih =>
    intro hi
    have h1 := ih (by omega)
    have a1 := hS i (by omega)
    have a3 : st i * (d - R i) ≤ 9 * 240 := Nat.mul_le_mul a1 (by omega)
    simp only [laN]
    split <;> omega
theorem upd_lt {f : Nat → Int32} {P : Nat → Nat} {i : Nat} {v : Int32} (h : ∀ j, j < i → f j = nI (P j)) (hv : v = nI (P i)) (j : Nat) (hj : j < i + 1) : upd f i v j = nI (P j) := by
  by_cases e : j = i
  · subst e; rw [pk_us]; exact hv
  · rw [pk_un e]; exact h j (by omega)
theorem sub_le_N {a b p : Nat} (ha : a < 2 ^ 30) (hb : b < 2 ^ 30) (hp : p < 2 ^ 30) : nI a - nI b ≤ nI p ↔ a ≤ p + b := by
  rw [Int32.le_iff_toInt_le, pk_sub_toInt ha hb, nI_toInt (by omega)]
  omega
theorem oI_neg {o : Option Nat} (h : ∀ j, o = some j → j < 2 ^ 31) (c : oI o < 0) : o = none := by
  cases o with
  | none => rfl
  | some j => exact absurd c (nI_pos (h j rfl))
theorem oI_pos {o : Option Nat} (c : ¬ oI o < 0) : ∃ j, o = some j := by
  cases o with
  | none => exact absurd (show oI none < 0 by decide) c
  | some j => exact ⟨j, rfl⟩
theorem oI_neg' {o : Option Nat} (h : ∀ j, o = some j → j < 2 ^ 31) (c : ¬ 0 ≤ oI o) : o = none := by
  cases o with
  | none => rfl
  | some j => exact absurd (nI_pos' (h j rfl)) c
theorem oI_pos' {o : Option Nat} (c : 0 ≤ oI o) : ∃ j, o = some j := by
  cases o with
  | none => exact absurd c (show ¬ 0 ≤ oI none by decide)
  | some j => exact ⟨j, rfl⟩
def lstN (T : Nat → Option Nat) : Nat → Nat → Nat
  | 0, p => p
  | k + 1, p => match T p with
    | none => lstN T k (p + 1)
    | some _ => p
theorem lst_eq {T : Nat → Option Nat} : ∀ (k p L : Nat), p ≤ L → L ≤ p + k → (∀ q, p ≤ q → q < L → T q = none) → (L < p + k → T L ≠ none) → L = lstN T k p := by
  intro k
  induction k with
  | zero => intro p L h1 h2 _ _; simp only [lstN]; omega
  | succ k ih =>
    intro p L h1 h2 h3 h4
    simp only [lstN]
    cases e : T p with
    | none =>
      refine ih (p + 1) L ?_ (by omega) (fun q a b => h3 q (by omega) b) (fun a => h4 (by omega))
      rcases Nat.lt_or_ge p L with h | h
      · exact h
      · exact absurd (show T L = none by rw [show L = p by omega]; exact e) (h4 (by omega))
    | some j =>
      show L = p
      rcases Nat.lt_or_ge p L with h | h
      · have := h3 p (Nat.le_refl p) h; rw [e] at this; cases this
      · omega
def bwN (st R sg : Nat → Nat) (n p d b : Nat) : Bool := if 0 < lowN st R b p n then (if d * lowN st R b p n < uppN st R b p n then false else (fb st R sg n p b).isNone) else false
