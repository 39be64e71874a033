/-! numbers and bits -/
theorem nf_t {b : Bool} (h : ¬ b = false) : b = true := by cases b <;> simp_all
def oI (o : Option Nat) : Int32 := match o with
  | none => -1
  | some j => nI j
def clr (W j : Nat) : Nat := if W.testBit j then W - 2 ^ j else W
def pop (W : Nat) : Nat := (W.testBit 0).toNat + (W.testBit 1).toNat + (W.testBit 2).toNat + (W.testBit 3).toNat + (W.testBit 4).toNat + (W.testBit 5).toNat + (W.testBit 6).toNat + (W.testBit 7).toNat + (W.testBit 8).toNat
theorem fa_lit (n : Nat) : (OfNat.ofNat n : Int32) = nI n := rfl
theorem fa_and (a b : Nat) : nI a &&& nI b = nI (a &&& b) := by
  apply Int32.toBitVec_inj.1
  show BitVec.ofNat 32 a &&& BitVec.ofNat 32 b = BitVec.ofNat 32 (a &&& b)
  apply BitVec.eq_of_getLsbD_eq
  intro i hi
  simp [hi]
theorem fa_or (a b : Nat) : nI a ||| nI b = nI (a ||| b) := by
  apply Int32.toBitVec_inj.1
  show BitVec.ofNat 32 a ||| BitVec.ofNat 32 b = BitVec.ofNat 32 (a ||| b)
  apply BitVec.eq_of_getLsbD_eq
  intro i hi
  simp [hi]
theorem sl_31 : ∀ n, n < 32 → ((nI n &&& 31).toBitVec.smod 32).toNat = n := by decide +kernel
theorem shl_1 {j : Nat} (h : j < 31) : (1 : Int32) <<< (nI j &&& 31) = nI (2 ^ j) := by
  have e := pk_shlN (n := 1) (nI j &&& 31) j (sl_31 j (by omega)) (by rw [Nat.one_mul]; exact Nat.pow_lt_pow_right (by decide) (by omega))
  rw [Nat.one_mul] at e
  exact e
theorem bit_N {W i : Nat} (hW : W < 2 ^ 31) (hi : i < 31) : ((nI W >>> (nI i &&& 31)) &&& 1) = nI (W / 2 ^ i % 2) := by
  rw [pk_shrN hW (nI i &&& 31) i (sl_31 i (by omega))]
  have h : W / 2 ^ i < 2 ^ 32 := Nat.lt_of_le_of_lt (Nat.div_le_self _ _) (by omega)
  exact pk_andN h 1 rfl
theorem bit_0 {W i : Nat} (hW : W < 2 ^ 31) (hi : i < 31) : ((nI W >>> (nI i &&& 31)) &&& 1) = 0 ↔ W.testBit i = false := by
  rw [bit_N hW hi, Nat.testBit_eq_decide_div_mod_eq]
  have : W / 2 ^ i % 2 < 2 := Nat.mod_lt _ (by decide)
  rcases (show W / 2 ^ i % 2 = 0 ∨ W / 2 ^ i % 2 = 1 by omega) with h | h <;> rw [h] <;> decide
theorem bit_1 {W i : Nat} (hW : W < 2 ^ 31) (hi : i < 31) : ((nI W >>> (nI i &&& 31)) &&& 1) = 1 ↔ W.testBit i = true := by
  rw [bit_N hW hi, Nat.testBit_eq_decide_div_mod_eq]
  have : W / 2 ^ i % 2 < 2 := Nat.mod_lt _ (by decide)
  rcases (show W / 2 ^ i % 2 = 0 ∨ W / 2 ^ i % 2 = 1 by omega) with h | h <;> rw [h] <;> decide
theorem clr_d : ∀ j, j < 8 → ∀ W, W < 256 → nI W &&& (nI (2 ^ j) ^^^ (-1)) = nI (clr W j) := by decide +kernel
theorem clr_N {W j : Nat} (hW : W < 256) (hj : j < 8) : nI W &&& (nI (2 ^ j) ^^^ (-1)) = nI (clr W j) := clr_d j hj W hW
theorem clr_le (W j : Nat) : clr W j ≤ W := by unfold clr; split; exact Nat.sub_le _ _; exact Nat.le_refl _
theorem clr_tb_d : ∀ j, j < 8 → ∀ W, W < 256 → ∀ i, i < 9 → (clr W j).testBit i = (W.testBit i && !decide (i = j)) := by decide +kernel
theorem clr_tb {W j i : Nat} (hW : W < 256) (hj : j < 8) (hi : i < 9) : (clr W j).testBit i = (W.testBit i && !decide (i = j)) := clr_tb_d j hj W hW i hi
theorem set_tb_d : ∀ j, j < 8 → ∀ W, W < 256 → ∀ i, i < 9 → (W ||| 2 ^ j).testBit i = (W.testBit i || decide (i = j)) := by decide +kernel
theorem set_tb {W j i : Nat} (hW : W < 256) (hj : j < 8) (hi : i < 9) : (W ||| 2 ^ j).testBit i = (W.testBit i || decide (i = j)) := set_tb_d j hj W hW i hi
theorem or_lt {a b k : Nat} (ha : a < 2 ^ k) (hb : b < 2 ^ k) : a ||| b < 2 ^ k := Nat.or_lt_two_pow ha hb
theorem sub_lt_N {a b p : Nat} (ha : a < 2 ^ 30) (hb : b < 2 ^ 30) (hp : p < 2 ^ 30) : nI p ≤ nI a - nI b ↔ p + b ≤ a := by
  rw [Int32.le_iff_toInt_le, pk_sub_toInt ha hb, nI_toInt (by omega)]
  omega
theorem sub_gt_N {a b p : Nat} (ha : a < 2 ^ 30) (hb : b < 2 ^ 30) (hp : p < 2 ^ 30) : nI p < nI a - nI b ↔ p + b < a := by
  rw [Int32.lt_iff_toInt_lt, pk_sub_toInt ha hb, nI_toInt (by omega)]
  omega
theorem max_0 {a b : Nat} (ha : a < 2 ^ 30) (hb : b < 2 ^ 30) : imax 0 (nI a - nI b) = nI (a - b) := by
  unfold imax
  show (if nI 0 < nI a - nI b then nI a - nI b else nI 0) = nI (a - b)
  by_cases h : b < a
  · rw [if_pos ((sub_gt_N (p := 0) ha hb (by decide)).mpr (by omega)), pk_sub (by omega)]
  · rw [if_neg (fun q => h (by have := (sub_gt_N (p := 0) ha hb (by decide)).mp q; omega)), show a - b = 0 by omega]
theorem ge0_oI {o : Option Nat} (h : ∀ j, o = some j → j < 2 ^ 31) : 0 ≤ oI o ↔ o ≠ none := by
  cases o with
  | none => decide
  | some j => exact ⟨fun _ => by simp, fun _ => nI_pos' (h j rfl)⟩
def sumN (v : Nat → Nat) (b : Nat) : Nat → Nat
  | 0 => 0
  | i + 1 => if b.testBit i = true then sumN v b i + v i else sumN v b i
