theorem ab_le {st R : Nat → Nat} {b p n : Nat} (hn : n ≤ 8) (hp : p ≤ 999) (hS : ∀ i, i < n → st i ≤ 9) (hR : ∀ i, i < n → R i ≤ 240) : abN st R b p n ≤ 20000 := by
  have := upp_le (b := b) hn hp hS hR
  unfold uppN at this
  unfold abN; split <;> omega
theorem be_le {st R : Nat → Nat} {b p n : Nat} (hn : n ≤ 8) (hS : ∀ i, i < n → st i ≤ 9) (hR : ∀ i, i < n → R i ≤ 240) : beN st R b p n ≤ 72 := by
  have := (pr_le (b := b) (p := p) hS hR n (Nat.le_refl n)).1
  unfold beN; split <;> omega
theorem be_pos {st R : Nat → Nat} {b p n : Nat} : 0 < beN st R b p n := by unfold beN; split <;> omega
theorem gcd_bd {a b : Nat} (h : 0 < b) (hb : b ≤ 72) : 0 < Nat.gcd a b ∧ Nat.gcd a b ≤ 72 := ⟨Nat.gcd_pos_of_pos_right a h, Nat.le_trans (Nat.le_of_dvd h (Nat.gcd_dvd_right a b)) hb⟩
theorem fb_b0 {st R sg : Nat → Nat} {n p : Nat} (hp : 0 < p) : fb st R sg n p 0 = none := by
  unfold fb
  rw [if_neg]
  unfold lowN
  rw [if_neg (by omega)]
  have : ∀ n, pr st R 0 p n = (0, 0) := by
    intro n
    induction n with
    | zero => rfl
    | succ n ih => simp only [pr, ih, Nat.zero_testBit, Bool.false_eq_true, if_false]
  rw [this n]
  exact Nat.lt_irrefl 0
def fI (b : Nat) : Int32 := if b = 0 then (-9) else nI b
theorem may_d : ∀ k, k < 256 → ∀ W, W < k → (nI k &&& (nI W ^^^ (-1))) ≠ 0 := by decide +kernel
theorem may_gt {k W : Nat} (hk : k < 256) (h : W < k) : mayB W k = false := by
  unfold mayB; rw [if_neg (may_d k hk W h)]
theorem chB_stay {W : Nat} {ok : Nat → Bool} : ∀ m, W + m ≤ 255 → chB (mayB W) ok (W + m) = chB (mayB W) ok W := by
  intro m
  induction m with
  | zero => intro _; rfl
  | succ m ih =>
    intro h
    show chB (mayB W) ok (W + m + 1) = _
    simp only [chB, may_gt (show W + m + 1 < 256 by omega) (show W < W + m + 1 by omega), Bool.false_eq_true, if_false]
    exact ih (by omega)
theorem chB_all {W : Nat} {ok : Nat → Bool} (h : W < 256) : chB (mayB W) ok 255 = chB (mayB W) ok W := by
  have := chB_stay (W := W) (ok := ok) (255 - W) (by omega)
  rw [show W + (255 - W) = 255 by omega] at this
  exact this
theorem knee_o9 {nu : Nat → Nat → Nat} {n W : Nat} {x : Int32} (h1 : (-1) ≤ x) (h2 : ¬ x = (-1)) : kneeS nu n W x = o9 (kth (ldN nu n W) x.toNatClampNeg n) := by
  unfold kneeS
  rw [if_neg (Int32.not_lt.mpr h1), if_neg h2]
  cases kth (ldN nu n W) x.toNatClampNeg n <;> rfl
theorem wa_0 {Fb : Nat → Option Nat} (hF : ∀ b j, b < 256 → Fb b = some j → j < 8 ∧ b.testBit j = true) {k : Nat} : wa Fb k 0 = 0 := by
  cases e : Fb 0 with
  | none => exact wa_none e
  | some j =>
    have := (hF 0 j (by decide) e).2
    rw [Nat.zero_testBit] at this
    cases this
theorem nip_all {ca : Nat → Nat} {n j : Nat} (hj : j < n) : nipN ca (rs ca (2 ^ n - 1) j).1 j = if j = 0 then 0 else ca (j - 1) - ca j := by
  cases j with
  | zero => rfl
  | succ k =>
    simp only [rs, if_pos (all_tb (show k < n by omega))]
    rw [if_neg (by omega)]
    rfl
theorem leaf_of {gn : Nat → Int32} {nu : Nat → Nat → Nat} {n W j w : Nat} (hg : ∀ a i, a < 4 → i < n → gn (5 * i + (a + 1)) = nI (nu a i)) (hw : ∀ i, i < n → gn (5 * i + 5) = nI (W.testBit i).toNat) (hj : j < n) (h : w < 5) : gn (5 * j + (1 + w)) = leafA nu W j w := by
  rcases (show w < 4 ∨ w = 4 by omega) with q | rfl
  · rw [Nat.add_comm 1 w, hg w j q hj]
    unfold leafA; rw [if_pos q]
  · rw [show 5 * j + (1 + 4) = 5 * j + 5 from rfl, hw j hj, show leafA nu W j 4 = bI (W.testBit j) from rfl]
    cases W.testBit j <;> rfl
theorem o9_none {o : Option Nat} (h : ∀ j, o = some j → j < 2 ^ 31) (c : o9 o = (-9)) : o = none := by
  cases o with
  | none => rfl
  | some j => exact absurd c (nI_n9 (h j rfl))
theorem isNone_f {o : Option Nat} (h : o ≠ none) : o.isNone = false := by
  cases o with
  | none => exact absurd rfl h
  | some j => rfl
/-- what is behind notes() -/
def notesP (z : Nat) (gn pf pf' : Nat → Int32) : Prop := (z < 6 → (∀ t, t < 41 * z → pf' t = pf t) ∧ ∀ t, t < 41 → pf' (41 * z + t) = gn t) ∧ (z = 6 → (∀ t, t < 205 → pf' t = pf (t + 41)) ∧ ∀ t, t < 41 → pf' (205 + t) = gn t)
theorem upd_keep {f : Nat → Int32} {P : Nat → Prop} {Q : Nat → Int32} {k : Nat} {v : Int32} (h : ∀ t, P t → f t = Q t) (hk : ¬ P k) (t : Nat) (ht : P t) : upd f k v t = Q t := by
  have hne : t ≠ k := fun e => hk (by rw [← e]; exact ht)
  rw [pk_un hne]; exact h t ht
theorem upd_at {f : Nat → Int32} {Q : Nat → Int32} {b i : Nat} {v : Int32} (h : ∀ t, t < i → f (b + t) = Q t) (hv : v = Q i) (t : Nat) (ht : t < i + 1) : upd f (b + i) v (b + t) = Q t := by
  by_cases e : t = i
  · subst e; rw [pk_us]; exact hv
  · rw [pk_un (by omega)]; exact h t (by omega)
theorem gw_clr {gn : Nat → Int32} {n W j : Nat} (hn : n ≤ 8) (hW : W < 2 ^ n) (hj : j < n) (h : ∀ i, i < n → gn (5 * i + 5) = nI (W.testBit i).toNat) (i : Nat) (hi : i < n) : upd gn (5 * j + 5) 0 (5 * i + 5) = nI ((clr W j).testBit i).toNat := by
  rw [clr_tb (wlt hn hW) (by omega) (by omega)]
  by_cases e : i = j
  · subst e; rw [pk_us]; simp; rfl
  · rw [pk_un (by omega), h i hi]; simp [e]
theorem gw_set {gn : Nat → Int32} {n W j : Nat} (hn : n ≤ 8) (hW : W < 2 ^ n) (hj : j < n) (h : ∀ i, i < n → gn (5 * i + 5) = nI (W.testBit i).toNat) (i : Nat) (hi : i < n) : upd gn (5 * j + 5) 1 (5 * i + 5) = nI ((W ||| 2 ^ j).testBit i).toNat := by
  rw [set_tb (wlt hn hW) (by omega) (by omega)]
  by_cases e : i = j
  · subst e; rw [pk_us]; simp; rfl
  · rw [pk_un (by omega), h i hi]; simp [e]
theorem set_ltn {n W j : Nat} (hW : W < 2 ^ n) (hj : j < n) : W ||| 2 ^ j < 2 ^ n := Nat.or_lt_two_pow hW (Nat.pow_lt_pow_right (by decide) hj)
theorem wa_ltn {Fb : Nat → Option Nat} {n : Nat} : ∀ k b, b < 2 ^ n → wa Fb k b < 2 ^ n := by
  intro k
  induction k with
  | zero => intro b h; exact h
  | succ k ih =>
    intro b h
    simp only [wa]
    split
    · exact h
    · exact ih _ (Nat.lt_of_le_of_lt (clr_le _ _) h)
theorem met_mono {l : Launch} {y : MethodName} {ws : List Cond} {rm : Room} {Pc : Array Value → State → Prop} {Qc Qc' : Array Value → State → Outcome → State → Prop} {mc ms : Nat} {free : Addr → Prop} (h : ∀ a s o t, Qc a s o t → Qc' a s o t) (hM : Met l y ws rm Pc Qc mc ms free) : Met l y ws rm Pc Qc' mc ms free := by
  intro p e ha hc hk s m args below hf happ hP hask
  obtain ⟨k, o, h1, h2, h3, hQ, hL⟩ := hM p e ha hc hk s m args below hf happ hP hask
  exact ⟨k, o, h1, h2, h3, h _ _ _ _ hQ, hL⟩
