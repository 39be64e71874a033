/-! the text -/
def figN (c : Nat) : Bool := if c < 48 then false else if 57 < c then false else true
theorem fig_in {c : Nat} (h : figN c = true) : 48 ≤ c ∧ c ≤ 57 := by
  unfold figN at h
  split at h
  · cases h
  · split at h
    · cases h
    · omega
def skN (P : Nat → Bool) (z : Nat) : Nat → Nat → Nat
  | 0, p => p
  | k + 1, p => if p < z then (if P p = true then skN P z k (p + 1) else p) else p
def sk (P : Nat → Bool) (z p : Nat) : Nat := skN P z (z - p) p
theorem sk_step {P : Nat → Bool} {z p : Nat} (h1 : p < z) (h2 : P p = true) : sk P z p = sk P z (p + 1) := by
  unfold sk
  rw [show z - p = (z - (p + 1)) + 1 by omega]
  simp only [skN, if_pos h1, if_pos h2]
theorem sk_end {P : Nat → Bool} {z p : Nat} (h1 : ¬ p < z) : sk P z p = p := by
  unfold sk
  rw [show z - p = 0 by omega]
  rfl
theorem sk_stop {P : Nat → Bool} {z p : Nat} (h2 : P p = false) : sk P z p = p := by
  unfold sk
  cases z - p with
  | zero => rfl
  | succ k =>
    simp only [skN]
    split
    · rw [if_neg (by rw [h2]; exact fun q => by cases q)]
    · rfl
theorem sk_prop {P : Nat → Bool} {z : Nat} : ∀ d p, z - p = d → p ≤ sk P z p ∧ (p ≤ z → sk P z p ≤ z) ∧ (∀ i, p ≤ i → i < sk P z p → P i = true) ∧ (sk P z p < z → P (sk P z p) = false) := by
  intro d
  induction d with
  | zero =>
    intro p h
    rw [sk_end (by omega)]
    exact ⟨Nat.le_refl _, fun h => h, fun i a b => by omega, fun a => by omega⟩
  | succ d ih =>
    intro p h
    by_cases hp : P p = true
    · rw [sk_step (by omega) hp]
      obtain ⟨a1, a2, a3, a4⟩ := ih (p + 1) (by omega)
      refine ⟨by omega, fun q => a2 (by omega), fun i b1 b2 => ?_, a4⟩
      by_cases e : i = p
      · rw [e]; exact hp
      · exact a3 i (by omega) b2
    · have hp' : P p = false := by cases q : P p <;> simp_all
      rw [sk_stop hp']
      exact ⟨Nat.le_refl _, fun h => h, fun i a b => by omega, fun _ => hp'⟩
def bk (ch : Nat → Nat) (z p : Nat) : Nat := sk (fun i => decide (ch i = 32)) z p
def teN (ch : Nat → Nat) (z p : Nat) : Nat := if figN (ch p) = true then sk (fun i => figN (ch i)) z (p + 1) else p + 1
theorem bk_in {ch : Nat → Nat} {z p : Nat} (h : p ≤ z) : p ≤ bk ch z p ∧ bk ch z p ≤ z := by
  obtain ⟨a, b, -⟩ := sk_prop (P := fun i => decide (ch i = 32)) (z := z) (z - p) p rfl
  exact ⟨a, b h⟩
theorem te_in {ch : Nat → Nat} {z p : Nat} (h : p < z) : p < teN ch z p ∧ teN ch z p ≤ z := by
  unfold teN
  split
  · obtain ⟨a, b, -⟩ := sk_prop (P := fun i => figN (ch i)) (z := z) (z - (p + 1)) (p + 1) rfl
    exact ⟨by omega, b (by omega)⟩
  · omega
theorem te_fig {ch : Nat → Nat} {z p : Nat} (h : figN (ch p) = true) : ∀ i, p ≤ i → i < teN ch z p → figN (ch i) = true := by
  intro i h1 h2
  unfold teN at h2
  rw [if_pos h] at h2
  by_cases e : i = p
  · rw [e]; exact h
  · exact (sk_prop (P := fun i => figN (ch i)) (z := z) (z - (p + 1)) (p + 1) rfl).2.2.1 i (by omega) h2
def dcN (ch : Nat → Nat) (p : Nat) : Nat → Nat
  | 0 => 0
  | k + 1 => dcN ch p k * 10 + (ch (p + k) - 48)
def numO (ch : Nat → Nat) (p e : Nat) : Option Nat := if figN (ch p) = true then (if 1 < e - p ∧ ch p = 48 then none else (if 2 < e - p then none else some (dcN ch p (e - p)))) else none
def LEN (a : Nat) : Nat := if a = 2 then 0 else 1
def MO0 (a : Nat) : Nat := if a = 0 then 9 else if a = 1 then 9 else if a = 2 then 30 else 99
def MON (nu : Nat → Nat → Nat) (n a : Nat) : Nat := if a = 0 then (if n ≤ 0 then MO0 a else nu 0 (n - 1)) else MO0 a
theorem fLe_N {a : Nat} (h : a < 4) : fLe a = nI (LEN a) := by
  rcases (show a = 0 ∨ a = 1 ∨ a = 2 ∨ a = 3 by omega) with rfl | rfl | rfl | rfl <;> rfl
theorem fMo_N {a : Nat} (h : a < 4) : fMo a = nI (MO0 a) := by
  rcases (show a = 0 ∨ a = 1 ∨ a = 2 ∨ a = 3 by omega) with rfl | rfl | rfl | rfl <;> rfl
theorem MON_N {f : Nat → Int32} {nu : Nat → Nat → Nat} {n a : Nat} (ha : a < 4) (h0 : 0 < n → f (0 * 8 + (n - 1)) = nI (nu 0 (n - 1))) : sX2_mostOfNext f n a = nI (MON nu n a) := by
  unfold sX2_mostOfNext MON
  split
  · split
    · exact fMo_N ha
    · exact h0 (by omega)
  · exact fMo_N ha
def rngB (nu : Nat → Nat → Nat) (n a : Nat) (o : Option Nat) : Bool := match o with
  | none => false
  | some v => decide (LEN a ≤ v ∧ v ≤ MON nu n a)
def okT (ch : Nat → Nat) (z t p n : Nat) (nu : Nat → Nat → Nat) : Bool := if t = 0 then decide (ch p = 108 ∧ n < 8) else if t = 5 then decide (ch p = 59) else rngB nu n (t - 1) (numO ch p (teN ch z p))
def nxN (t n : Nat) : Nat := if t = 5 then n + 1 else n
def nxU (ch : Nat → Nat) (z t p n : Nat) (nu : Nat → Nat → Nat) : Nat → Nat → Nat := if t = 0 then nu else if t = 5 then nu else fun a i => if a = t - 1 ∧ i = n then (numO ch p (teN ch z p)).getD 0 else nu a i
def nxT (t : Nat) : Nat := if t = 5 then 0 else t + 1
def rd (ch : Nat → Nat) (z : Nat) : Nat → Nat → Nat → Nat → (Nat → Nat → Nat) → Option Nat × Nat × (Nat → Nat → Nat)
  | 0, t, _, n, nu => if t = 0 ∧ 0 < n then (none, n, nu) else (some z, n, nu)
  | k + 1, t, p, n, nu => if p < z then (if okT ch z t p n nu = true then rd ch z k (nxT t) (bk ch z (teN ch z p)) (nxN t n) (nxU ch z t p n nu) else (some p, n, nu)) else (if t = 0 ∧ 0 < n then (none, n, nu) else (some z, n, nu))
theorem rd_end {ch : Nat → Nat} {z k t p n : Nat} {nu : Nat → Nat → Nat} (h : ¬ p < z) : rd ch z k t p n nu = if t = 0 ∧ 0 < n then (none, n, nu) else (some z, n, nu) := by
  cases k with
  | zero => rfl
  | succ k => simp only [rd, if_neg h]
theorem rd_bad {ch : Nat → Nat} {z k t p n : Nat} {nu : Nat → Nat → Nat} (h : p < z) (hb : okT ch z t p n nu = false) : rd ch z (k + 1) t p n nu = (some p, n, nu) := by
  simp only [rd, if_pos h, hb, Bool.false_eq_true, if_false]
theorem rd_ok {ch : Nat → Nat} {z k t p n : Nat} {nu : Nat → Nat → Nat} (h : p < z) (hb : okT ch z t p n nu = true) : rd ch z (k + 1) t p n nu = rd ch z k (nxT t) (bk ch z (teN ch z p)) (nxN t n) (nxU ch z t p n nu) := by
  simp only [rd, if_pos h, hb, if_true]
def nu00 : Nat → Nat → Nat := fun _ _ => 0
def RD (ch : Nat → Nat) (z : Nat) : Option Nat × Nat × (Nat → Nat → Nat) := rd ch z 100 0 (bk ch z 0) 0 nu00
/-- what a reading that ends well has read -/
def HT (nu : Nat → Nat → Nat) (n t : Nat) : Prop := n ≤ 8 ∧ t ≤ 5 ∧ (0 < t → n < 8) ∧ HB nu n ∧ ∀ a, a + 1 < t → LEN a ≤ nu a n ∧ nu a n ≤ MO0 a
theorem MON_le {nu : Nat → Nat → Nat} {n a : Nat} (h : HB nu n) : MON nu n a ≤ MO0 a := by
  unfold MON
  split
  · rename_i e
    split
    · exact Nat.le_refl _
    · have := (h (n - 1) (by omega)).1.2
      rw [e]; exact this
  · exact Nat.le_refl _
theorem HT_step {ch : Nat → Nat} {z t p n : Nat} {nu : Nat → Nat → Nat} (h : HT nu n t) (hb : okT ch z t p n nu = true) : HT (nxU ch z t p n nu) (nxN t n) (nxT t) := by
  obtain ⟨h1, h2, h3, h4, h5⟩ := h
  unfold okT at hb
  by_cases t0 : t = 0
  · subst t0
    rw [if_pos rfl] at hb
    have := of_decide_eq_true hb
    exact ⟨h1, by decide, fun _ => this.2, h4, fun a ha => by have ha : a + 1 < 1 := ha; omega⟩
  · rw [if_neg t0] at hb
    by_cases t5 : t = 5
    · subst t5
      refine ⟨by show n + 1 ≤ 8; have := h3 (by decide); omega, by decide, fun q => absurd q (by decide), ?_, fun a ha => by have ha : a + 1 < 0 := ha; omega⟩
      show HB nu (n + 1)
      intro i hi
      by_cases e : i = n
      · subst e
        have q0 := h5 0 (by decide); have q1 := h5 1 (by decide); have q2 := h5 2 (by decide); have q3 := h5 3 (by decide)
        simp only [LEN, MO0] at q0 q1 q2 q3
        exact ⟨⟨q0.1, q0.2⟩, ⟨q1.1, q1.2⟩, q2.2, ⟨q3.1, q3.2⟩⟩
      · exact h4 i (by omega)
    · rw [if_neg t5] at hb
      have et : nxT t = t + 1 := by unfold nxT; rw [if_neg t5]
      have en : nxN t n = n := by unfold nxN; rw [if_neg t5]
      have hn := h3 (by omega)
      rw [et, en]
      cases ho : numO ch p (teN ch z p) with
      | none => rw [ho] at hb; cases hb
      | some v =>
        rw [ho] at hb
        have hv := of_decide_eq_true hb
        have eu : ∀ a i, nxU ch z t p n nu a i = if a = t - 1 ∧ i = n then v else nu a i := by
          intro a i; unfold nxU; rw [if_neg t0, if_neg t5, ho]; rfl
        refine ⟨h1, by omega, fun _ => hn, ?_, ?_⟩
        · intro i hi
          rw [eu, eu, eu, eu, if_neg (by omega), if_neg (by omega), if_neg (by omega), if_neg (by omega)]
          exact h4 i hi
        · intro a ha
          rw [eu]
          by_cases e : a = t - 1
          · rw [if_pos ⟨e, rfl⟩, e]
            exact ⟨hv.1, Nat.le_trans hv.2 (MON_le h4)⟩
          · rw [if_neg (fun q => e q.1)]
            exact h5 a (by omega)
theorem rd_HB {ch : Nat → Nat} {z : Nat} : ∀ k t p n nu, HT nu n t → (rd ch z k t p n nu).1 = none → 1 ≤ (rd ch z k t p n nu).2.1 ∧ (rd ch z k t p n nu).2.1 ≤ 8 ∧ HB (rd ch z k t p n nu).2.2 (rd ch z k t p n nu).2.1 := by
  intro k
  induction k with
  | zero =>
    intro t p n nu h hn
    simp only [rd] at hn ⊢
    by_cases c : t = 0 ∧ 0 < n
    · rw [if_pos c]; exact ⟨c.2, h.1, h.2.2.2.1⟩
    · rw [if_neg c] at hn; cases hn
  | succ k ih =>
    intro t p n nu h hn
    by_cases hp : p < z
    · cases hb : okT ch z t p n nu with
      | false => rw [rd_bad hp hb] at hn; cases hn
      | true => rw [rd_ok hp hb] at hn ⊢; exact ih _ _ _ _ (HT_step h hb) hn
    · rw [rd_end hp] at hn ⊢
      by_cases c : t = 0 ∧ 0 < n
      · rw [if_pos c]; exact ⟨c.2, h.1, h.2.2.2.1⟩
      · rw [if_neg c] at hn; cases hn
theorem RD_HB {ch : Nat → Nat} {z : Nat} (h : (RD ch z).1 = none) : 1 ≤ (RD ch z).2.1 ∧ (RD ch z).2.1 ≤ 8 ∧ HB (RD ch z).2.2 (RD ch z).2.1 :=
  rd_HB 100 0 (bk ch z 0) 0 nu00 ⟨by decide, by decide, fun q => absurd q (by decide), fun i hi => absurd hi (Nat.not_lt_zero _), fun a ha => by omega⟩ h
theorem rd_le {ch : Nat → Nat} {z : Nat} : ∀ k t p n nu, (p ≤ z) → ∀ q, (rd ch z k t p n nu).1 = some q → q ≤ z := by
  intro k
  induction k with
  | zero =>
    intro t p n nu h q hq
    simp only [rd] at hq
    split at hq
    · cases hq
    · cases hq; exact Nat.le_refl _
  | succ k ih =>
    intro t p n nu h q hq
    by_cases hp : p < z
    · cases hb : okT ch z t p n nu with
      | false => rw [rd_bad hp hb] at hq; cases hq; omega
      | true => rw [rd_ok hp hb] at hq; exact ih _ _ _ _ (bk_in (te_in hp).2).2 q hq
    · rw [rd_end hp] at hq
      split at hq
      · cases hq
      · cases hq; exact Nat.le_refl _
theorem RD_le {ch : Nat → Nat} {z q : Nat} (h : (RD ch z).1 = some q) : q ≤ z := rd_le 100 0 _ 0 nu00 (bk_in (Nat.zero_le z)).2 q h
theorem char_N {c : Nat} (h : c < 256) : ((nI c).toUInt32 % 65536).toInt32 = nI c := (show ∀ c, c < 256 → ((nI c).toUInt32 % 65536).toInt32 = nI c by decide +kernel) c h
theorem char_nar {c : Nat} (h : c < 256) : vp_nar .char (nI c) = nI c := by rw [vp_nar_char]; exact (show ∀ c, c < 256 → (nI c).toUInt32.toUInt16.toUInt32.toInt32 = nI c by decide +kernel) c h
theorem m1_lt {k : Nat} (h : k < 2 ^ 31) : (-1 : Int32) < nI k := by
  refine Int32.lt_iff_toInt_lt.mpr ?_
  rw [nI_toInt h]
  have e : (-1 : Int32).toInt = -1 := rfl
  omega
theorem num_le {ch : Nat → Nat} {p e v : Nat} (h : numO ch p e = some v) (hf : figN (ch p) = true → ∀ i, p ≤ i → i < e → figN (ch i) = true) : v ≤ 1000 := by
  unfold numO at h
  split at h
  · rename_i hfp
    split at h
    · cases h
    · split at h
      · cases h
      · rename_i h1 h2
        cases h
        have hq : ∀ i, p ≤ i → i < e → ch i ≤ 57 := fun i a b => (fig_in (hf hfp i a b)).2
        rcases (show e - p = 0 ∨ e - p = 1 ∨ e - p = 2 by omega) with q | q | q <;> rw [q]
        · simp [dcN]
        · have := hq p (by omega) (by omega)
          simp only [dcN, Nat.add_zero]; omega
        · have a1 := hq p (by omega) (by omega)
          have a2 := hq (p + 1) (by omega) (by omega)
          simp only [dcN, Nat.add_zero]; omega
  · cases h
theorem rng_some {nu : Nat → Nat → Nat} {n a : Nat} {o : Option Nat} (h : rngB nu n a o = true) : ∃ v, o = some v := by
  cases o with
  | none => cases h
  | some v => exact ⟨v, rfl⟩
theorem or_pow (n : Nat) : (2 ^ n - 1) ||| 2 ^ n = 2 ^ (n + 1) - 1 := by
  have h := Nat.two_pow_add_eq_or_of_lt (i := n) (b := 2 ^ n - 1) (Nat.sub_lt (Nat.pow_pos (by decide)) (by decide)) 1
  rw [Nat.mul_one] at h
  rw [Nat.or_comm, ← h, Nat.pow_succ]
  have : 0 < 2 ^ n := Nat.pow_pos (by decide)
  omega
theorem tk_put {ch : Nat → Nat} {z t p n : Nat} {nu : Nat → Nat → Nat} {f : Nat → Int32} {v : Nat} (hf : ∀ a i, a < 4 → (i < n ∨ (i = n ∧ a + 1 < t)) → f (a * 8 + i) = nI (nu a i)) (ht : 1 ≤ t) (ht4 : t ≤ 4) (hn : n < 8) (hv : numO ch p (teN ch z p) = some v) (a i : Nat) (ha : a < 4) (hi : i < nxN t n ∨ (i = nxN t n ∧ a + 1 < nxT t)) : upd f ((t - 1) * 8 + n) (nI v) (a * 8 + i) = nI (nxU ch z t p n nu a i) := by
  have et : nxT t = t + 1 := by unfold nxT; rw [if_neg (by omega)]
  have en : nxN t n = n := by unfold nxN; rw [if_neg (by omega)]
  rw [et, en] at hi
  have eu : nxU ch z t p n nu a i = if a = t - 1 ∧ i = n then v else nu a i := by
    unfold nxU; rw [if_neg (by omega), if_neg (by omega), hv]; rfl
  rw [eu]
  by_cases e : a = t - 1 ∧ i = n
  · rw [if_pos e, e.1, e.2, pk_us]
  · rw [if_neg e, pk_un (by omega)]
    exact hf a i ha (by omega)
