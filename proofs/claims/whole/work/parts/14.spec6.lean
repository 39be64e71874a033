/-! what the calls answer -/
def okB (x : Int32) (k : Nat) : Bool := decide (0 ≤ x.toInt ∧ x.toInt < k)
theorem ok_neg {x : Int32} {k : Nat} (h : x < 0) : okB x k = false := by
  unfold okB
  refine decide_eq_false (fun q => ?_)
  have := Int32.lt_iff_toInt_lt.mp h
  have e : (0 : Int32).toInt = 0 := rfl
  omega
theorem ok_big {x : Int32} {k : Nat} (hk : k < 2 ^ 31) (h : nI k ≤ x) : okB x k = false := by
  unfold okB
  refine decide_eq_false (fun q => ?_)
  have := Int32.le_iff_toInt_le.mp h
  rw [nI_toInt hk] at this
  omega
theorem ok_nI {j k : Nat} (hj : j < k) (hk : k < 2 ^ 31) : okB (nI j) k = true := by
  unfold okB
  rw [nI_toInt (by omega)]
  exact decide_eq_true ⟨by omega, by omega⟩
theorem ok_of {x : Int32} {k : Nat} (hk : k < 2 ^ 31) (h1 : ¬ x < 0) (h2 : ¬ nI k ≤ x) : ∃ j, j < k ∧ x = nI j := by
  obtain ⟨j, hj, rfl⟩ := nI_of h1
  refine ⟨j, ?_, rfl⟩
  rcases Nat.lt_or_ge j k with h | h
  · exact h
  · exact absurd (nI_le h hj) h2
theorem ok_ex {x : Int32} {k : Nat} (hk : k < 2 ^ 31) (h : okB x k = true) : ∃ j, j < k ∧ x = nI j := by
  refine ok_of hk (fun q => ?_) (fun q => ?_)
  · rw [ok_neg q] at h; cases h
  · rw [ok_big hk q] at h; cases h
def chk1 (bad : Int32) (k : Nat) (f : Nat → Int32) (x : Int32) : Int32 := if okB x k = true then f x.toNatClampNeg else bad
theorem chk1_ok {bad : Int32} {k j : Nat} {f : Nat → Int32} (hj : j < k) (hk : k < 2 ^ 31) : chk1 bad k f (nI j) = f j := by
  unfold chk1; rw [if_pos (ok_nI hj hk), nI_clamp (by omega)]
theorem chk1_bad {bad : Int32} {k : Nat} {f : Nat → Int32} {x : Int32} (h : okB x k = false) : chk1 bad k f x = bad := by
  unfold chk1; rw [if_neg (by rw [h]; exact fun q => by cases q)]
def chk2 (bad : Int32) (k1 k2 : Nat) (f : Nat → Nat → Int32) (x y : Int32) : Int32 := chk1 bad k1 (fun i => chk1 bad k2 (f i) y) x
theorem chk2_ok {bad : Int32} {k1 k2 i j : Nat} {f : Nat → Nat → Int32} (hi : i < k1) (hj : j < k2) (h1 : k1 < 2 ^ 31) (h2 : k2 < 2 ^ 31) : chk2 bad k1 k2 f (nI i) (nI j) = f i j := by
  unfold chk2; rw [chk1_ok hi h1, chk1_ok hj h2]
theorem chk2_bad1 {bad : Int32} {k1 k2 : Nat} {f : Nat → Nat → Int32} {x y : Int32} (h : okB x k1 = false) : chk2 bad k1 k2 f x y = bad := chk1_bad h
theorem chk2_bad2 {bad : Int32} {k1 k2 : Nat} {f : Nat → Nat → Int32} {x y : Int32} (h : okB y k2 = false) : chk2 bad k1 k2 f x y = bad := by
  unfold chk2
  unfold chk1
  split
  · exact if_neg (by rw [h]; exact fun q => by cases q)
  · rfl
def chk3 (bad : Int32) (k1 k2 k3 : Nat) (f : Nat → Nat → Nat → Int32) (x y z : Int32) : Int32 := chk1 bad k1 (fun i => chk2 bad k2 k3 (f i) y z) x
theorem chk3_ok {bad : Int32} {k1 k2 k3 i j k : Nat} {f : Nat → Nat → Nat → Int32} (hi : i < k1) (hj : j < k2) (hk : k < k3) (h1 : k1 < 2 ^ 31) (h2 : k2 < 2 ^ 31) (h3 : k3 < 2 ^ 31) : chk3 bad k1 k2 k3 f (nI i) (nI j) (nI k) = f i j k := by
  unfold chk3; rw [chk1_ok hi h1, chk2_ok hj hk h2 h3]
theorem chk3_bad1 {bad : Int32} {k1 k2 k3 : Nat} {f : Nat → Nat → Nat → Int32} {x y z : Int32} (h : okB x k1 = false) : chk3 bad k1 k2 k3 f x y z = bad := chk1_bad h
theorem chk1_all {bad : Int32} {k : Nat} {f : Nat → Int32} {x : Int32} (h : ∀ j, f j = bad) : chk1 bad k f x = bad := by
  unfold chk1; split
  · exact h _
  · rfl
theorem chk3_bad2 {bad : Int32} {k1 k2 k3 : Nat} {f : Nat → Nat → Nat → Int32} {x y z : Int32} (h : okB y k2 = false) : chk3 bad k1 k2 k3 f x y z = bad := chk1_all (fun _ => chk2_bad1 h)
theorem chk3_bad3 {bad : Int32} {k1 k2 k3 : Nat} {f : Nat → Nat → Nat → Int32} {x y z : Int32} (h : okB z k3 = false) : chk3 bad k1 k2 k3 f x y z = bad := chk1_all (fun _ => chk2_bad2 h)
theorem isLoad_ok {x : Int32} (h : sX6_isLoad x = true) : ∃ p, p < 1000 ∧ x = nI p := by
  unfold sX6_isLoad at h
  split at h
  · cases h
  · rename_i h1
    split at h
    · cases h
    · rename_i h2
      refine ok_of (by decide) h1 (fun q => h2 ?_)
      have a1 := Int32.le_iff_toInt_le.mp q
      refine Int32.lt_iff_toInt_lt.mpr ?_
      have e1 : (nI 1000).toInt = 1000 := rfl
      have e2 : (999 : Int32).toInt = 999 := rfl
      omega
theorem isLoad_bad {x : Int32} (h : sX6_isLoad x = false) : okB x 1000 = false := by
  unfold sX6_isLoad at h
  split at h
  · rename_i h1; exact ok_neg h1
  · split at h
    · rename_i h2
      refine ok_big (by decide) (Int32.le_iff_toInt_le.mpr ?_)
      have a1 := Int32.lt_iff_toInt_lt.mp h2
      have e1 : (nI 1000).toInt = 1000 := rfl
      have e2 : (999 : Int32).toInt = 999 := rfl
      omega
    · cases h
theorem exists_ok {n : Nat} {x : Int32} (hn : n ≤ 8) (h : sX2_exists n x = true) : ∃ j, j < n ∧ x = nI j := by
  unfold sX2_exists at h
  split at h
  · cases h
  · rename_i h1
    split at h
    · cases h
    · rename_i h2; exact ok_of (by omega) h1 h2
theorem exists_bad {n : Nat} {x : Int32} (hn : n ≤ 8) (h : sX2_exists n x = false) : okB x n = false := by
  unfold sX2_exists at h
  split at h
  · rename_i h1; exact ok_neg h1
  · split at h
    · rename_i h2; exact ok_big (by omega) h2
    · cases h
/-- x ≤ k, not below 0 -/
theorem ok_le {x : Int32} {k : Nat} {M : Int32} (hM : M = nI k) (hk : k < 2 ^ 30) (h1 : ¬ x < 0) (h2 : x ≤ M) : ∃ j, j < k + 1 ∧ x = nI j := by
  subst hM
  obtain ⟨j, hj, rfl⟩ := nI_of2 (nI_toInt (show k < 2 ^ 31 by omega)) h1 h2
  exact ⟨j, by omega, rfl⟩
theorem ok_nle {x : Int32} {k : Nat} {M : Int32} (hM : M = nI k) (hk : k < 2 ^ 30) (h2 : ¬ x ≤ M) : okB x (k + 1) = false := by
  subst hM
  refine ok_big (by omega) (Int32.le_iff_toInt_le.mpr ?_)
  have a1 : ¬ x.toInt ≤ (nI k).toInt := fun q => h2 (Int32.le_iff_toInt_le.mpr q)
  rw [nI_toInt (by omega)] at a1 ⊢
  omega
def gcdM (a b : Nat) : Nat := max 1 (Nat.gcd a b)
theorem imax_1 {a : Nat} (ha : a < 2 ^ 31) : imax 1 (nI a) = nI (max 1 a) := by
  show (if nI 1 < nI a then nI a else nI 1) = nI (max 1 a)
  by_cases h : 1 < a
  · rw [if_pos (show nI 1 < nI a from nI_lt h ha)]; congr 1; omega
  · rw [if_neg (show ¬ nI 1 < nI a from nI_nlt (by omega) (by decide)), show max 1 a = 1 by omega]
abbrev R0 (nu : Nat → Nat → Nat) : Nat → Nat := RC (nu 2) 255
abbrev UU (nu : Nat → Nat → Nat) (n W p : Nat) : Nat := uppN (nu 1) (R0 nu) W p n
abbrev LL (nu : Nat → Nat → Nat) (n W p : Nat) : Nat := lowN (nu 1) (R0 nu) W p n
abbrev FB (nu : Nat → Nat → Nat) (n p W : Nat) : Option Nat := fb (nu 1) (R0 nu) (nu 3) n p W
abbrev WA (nu : Nat → Nat → Nat) (n p W : Nat) : Nat := wa (fb (nu 1) (R0 nu) (nu 3) n p) 8 W
def leafA (nu : Nat → Nat → Nat) (W j w : Nat) : Int32 := if w < 4 then nI (nu w j) else if w = 4 then bI (W.testBit j) else if w = 5 then nI (if j = 0 then 0 else nu 2 (j - 1) - nu 2 j) else nI (R0 nu j)
def bendA (nu : Nat → Nat → Nat) (n W p w : Nat) : Int32 := if 0 < LL nu n W p then (if w = 2 then nI (UU nu n W p / LL nu n W p) else if w = 0 then nI (UU nu n W p / gcdM (UU nu n W p) (LL nu n W p)) else nI (LL nu n W p / gcdM (UU nu n W p) (LL nu n W p))) else (-9)
abbrev BB (nu : Nat → Nat → Nat) (n W p j : Nat) : Nat := boN (nu 1) (R0 nu) W (UU nu n W p) (LL nu n W p) j
def bearsA (nu : Nat → Nat → Nat) (n W j p w : Nat) : Int32 := if 0 < LL nu n W p then (if w = 2 then bI (decide (nu 3 j * LL nu n W p < BB nu n W p j)) else if w = 0 then nI (BB nu n W p j / gcdM (BB nu n W p j) (LL nu n W p)) else nI (LL nu n W p / gcdM (BB nu n W p j) (LL nu n W p))) else (-9)
def rateA (nu : Nat → Nat → Nat) (n W p : Nat) : Int32 := if 0 < LL nu n W p then nI (pr (nu 1) (R0 nu) W p n).1 else (-9)
abbrev LST (nu : Nat → Nat → Nat) (n W : Nat) : Nat := lstN (fun p9 => fb (nu 1) (R0 nu) (nu 3) n p9 W) 999 1
def leastA (nu : Nat → Nat → Nat) (n W w : Nat) : Int32 := if LST nu n W ≤ 999 then (if w = 0 then nI (LST nu n W) else if w = 1 then oI (FB nu n (LST nu n W) W) else nI (pop W) - nI (pop (WA nu n (LST nu n W) W))) else (-9)
def ldN (nu : Nat → Nat → Nat) (n W i : Nat) : Nat := if W.testBit i = true then laN (nu 1) (R0 nu) W (R0 nu i) n else 0
def kn (ld : Nat → Nat) : Nat → Nat × Nat
  | 0 => (0, 0)
  | i + 1 => if ld i ≤ (kn ld i).2 then kn ld i else ((kn ld i).1 + 1, ld i)
def kth (ld : Nat → Nat) (k : Nat) : Nat → Option Nat
  | 0 => none
  | i + 1 => if ld i ≤ (kn ld i).2 then kth ld k i else (if (kn ld i).1 = k then some (ld i) else kth ld k i)
theorem kn_le {ld : Nat → Nat} : ∀ i, (kn ld i).1 ≤ i := by
  intro i
  induction i with
  | zero => exact Nat.le_refl _
  | succ i ih => simp only [kn]; split; omega; show (kn ld i).1 + 1 ≤ i + 1; omega
theorem kth_stay {ld : Nat → Nat} {k i : Nat} (h : k < (kn ld i).1) : ∀ m, kth ld k (i + m) = kth ld k i ∧ k < (kn ld (i + m)).1 := by
  intro m
  induction m with
  | zero => exact ⟨rfl, h⟩
  | succ m ih =>
    obtain ⟨h1, h2⟩ := ih
    show kth ld k (i + m + 1) = _ ∧ k < (kn ld (i + m + 1)).1
    simp only [kth, kn]
    split
    · exact ⟨h1, h2⟩
    · rw [if_neg (by omega)]
      exact ⟨h1, by show k < (kn ld (i + m)).1 + 1; omega⟩
def kneeS (nu : Nat → Nat → Nat) (n W : Nat) (x : Int32) : Int32 := if x < (-1) then (-1) else if x = (-1) then nI (kn (ldN nu n W) n).1 else match kth (ldN nu n W) x.toNatClampNeg n with
  | none => (-9)
  | some v => nI v
def mayB (W k : Nat) : Bool := if (nI k &&& (nI W ^^^ (-1))) = 0 then (if (nI k &&& (nI W &&& -(nI W))) = 0 then false else true) else false
def okP (nu : Nat → Nat → Nat) (n p d k : Nat) : Bool := bwN (nu 1) (RC (nu 2) k) (nu 3) n p d k
def chB (may ok : Nat → Bool) : Nat → Nat
  | 0 => 0
  | k + 1 => if may (k + 1) = true then (if chB may ok k = 0 then (if ok (k + 1) = true then k + 1 else chB may ok k) else (if pop (chB may ok k) ≤ pop (k + 1) then chB may ok k else (if ok (k + 1) = true then k + 1 else chB may ok k))) else chB may ok k
theorem chB_le {may ok : Nat → Bool} : ∀ k, chB may ok k ≤ k := by
  intro k
  induction k with
  | zero => exact Nat.le_refl _
  | succ k ih =>
    simp only [chB]
    repeat' split
    all_goals omega
def chosenA (nu : Nat → Nat → Nat) (n W p d w : Nat) : Int32 := if chB (mayB W) (okP nu n p d) 255 = 0 then (-9) else if w = 0 then nI (pop (chB (mayB W) (okP nu n p d) 255)) else nI (chB (mayB W) (okP nu n p d) 255)
def swN (W s : Nat) : Nat := if s = 0 then W else clr W (s - 1)
def cutS (nu : Nat → Nat → Nat) (n W s p : Nat) : Int32 := cutI (UU nu n (swN W s) p) (LL nu n (swN W s) p)
def agB (nu : Nat → Nat → Nat) (n W sz : Nat) (lo : Nat → Nat) (bf : Nat → Int32) (s : Nat) : Bool := decide (∀ i, i < sz → cutS nu n W s (lo i) = bf i)
def soB (nu : Nat → Nat → Nat) (n W sz : Nat) (lo : Nat → Nat) (bf : Nat → Int32) (s : Nat) : Bool := if s = 0 then agB nu n W sz lo bf s else if W.testBit (s - 1) = true then agB nu n W sz lo bf s else false
def fbits (so : Nat → Bool) : Nat → Nat
  | 0 => 0
  | k + 1 => if so k = true then fbits so k ||| 2 ^ k else fbits so k
def cnt (so : Nat → Bool) : Nat → Nat
  | 0 => 0
  | k + 1 => if so k = true then cnt so k + 1 else cnt so k
theorem fbits_lt {so : Nat → Bool} : ∀ k, fbits so k < 2 ^ k := by
  intro k
  induction k with
  | zero => exact Nat.lt_succ_self 0
  | succ k ih =>
    have h2 : 2 ^ (k + 1) = 2 * 2 ^ k := by rw [Nat.pow_succ]; omega
    simp only [fbits]
    split
    · exact Nat.or_lt_two_pow (by omega) (by omega)
    · omega
theorem fbits_tb {so : Nat → Bool} : ∀ k i, (fbits so k).testBit i = (decide (i < k) && so i) := by
  intro k
  induction k with
  | zero => intro i; simp [fbits]
  | succ k ih =>
    intro i
    simp only [fbits]
    split
    · rename_i h
      rw [Nat.testBit_or, ih i, Nat.testBit_two_pow]
      by_cases e : i = k
      · subst e; simp [h]
      · have e' : ¬ k = i := fun q => e q.symm
        rcases Nat.lt_or_ge i k with q | q
        · simp [q, Nat.lt_succ_of_lt q, e']
        · simp [Nat.not_lt.mpr q, e', show ¬ i < k + 1 by omega]
    · rename_i h
      rw [ih i]
      by_cases e : i = k
      · subst e; cases q : so i <;> simp_all
      · rcases Nat.lt_or_ge i k with q | q
        · simp [q, Nat.lt_succ_of_lt q]
        · simp [Nat.not_lt.mpr q, show ¬ i < k + 1 by omega]
theorem cnt_s {so : Nat → Bool} (k : Nat) : cnt so (k + 1) = cnt so k + (so k).toNat := by
  simp only [cnt]; cases so k <;> rfl
theorem cnt_0 {so : Nat → Bool} : cnt so 0 = 0 := rfl
theorem cnt_9 {so : Nat → Bool} : ∀ k, k ≤ 9 → cnt so k = pop (fbits so k) := by
  intro k hk
  unfold pop
  simp only [fbits_tb]
  rcases (show k = 0 ∨ k = 1 ∨ k = 2 ∨ k = 3 ∨ k = 4 ∨ k = 5 ∨ k = 6 ∨ k = 7 ∨ k = 8 ∨ k = 9 by omega) with h | h | h | h | h | h | h | h | h | h <;> subst h <;> simp [cnt_s, cnt_0]
def HB (nu : Nat → Nat → Nat) (n : Nat) : Prop := ∀ i, i < n → (1 ≤ nu 0 i ∧ nu 0 i ≤ 9) ∧ (1 ≤ nu 1 i ∧ nu 1 i ≤ 9) ∧ nu 2 i ≤ 30 ∧ (1 ≤ nu 3 i ∧ nu 3 i ≤ 99)
theorem and255 {W : Nat} (h : W < 256) : 255 &&& W = W := (show ∀ W, W < 256 → 255 &&& W = W by decide +kernel) W h
theorem and_m1 {W : Nat} (h : W < 256) : nI W &&& (0 ^^^ (-1)) = nI W := (show ∀ W, W < 256 → nI W &&& (0 ^^^ (-1)) = nI W by decide +kernel) W h
theorem wa_lt {F : Nat → Option Nat} : ∀ k b, b < 256 → wa F k b < 256 := by
  intro k
  induction k with
  | zero => intro b h; exact h
  | succ k ih =>
    intro b h
    simp only [wa]
    split
    · exact h
    · exact ih _ (Nat.lt_of_le_of_lt (clr_le _ _) h)
theorem exists_eq {n : Nat} {x : Int32} (hn : n ≤ 8) : sX2_exists n x = okB x n := by
  cases h : sX2_exists n x with
  | false => exact (exists_bad hn h).symm
  | true => obtain ⟨j, hj, rfl⟩ := exists_ok hn h; exact (ok_nI hj (by omega)).symm
theorem isLoad_eq {x : Int32} : sX6_isLoad x = okB x 1000 := by
  cases h : sX6_isLoad x with
  | false => exact (isLoad_bad h).symm
  | true => obtain ⟨j, hj, rfl⟩ := isLoad_ok h; exact (ok_nI hj (by decide)).symm
theorem imax_N {a b : Nat} (ha : a < 2 ^ 31) (hb : b < 2 ^ 31) : imax (nI a) (nI b) = nI (max a b) := by
  unfold imax
  by_cases h : a < b
  · rw [if_pos (nI_lt h hb)]; congr 1; omega
  · rw [if_neg (nI_nlt (by omega) ha)]; congr 1; omega
theorem knee_bad {nu : Nat → Nat → Nat} {n W : Nat} {x : Int32} (h : ¬ (-1) ≤ x) : kneeS nu n W x = (-1) := by
  unfold kneeS; rw [if_pos (Int32.not_le.mp h)]
theorem knee_all {nu : Nat → Nat → Nat} {n W : Nat} : kneeS nu n W (-1) = nI (kn (ldN nu n W) n).1 := by
  unfold kneeS; rw [if_neg (by decide), if_pos rfl]
theorem nI_nm {k : Nat} (h : k < 2 ^ 31) : ¬ nI k < (-1) ∧ ¬ nI k = (-1) := by
  have e : (-1 : Int32).toInt = -1 := rfl
  have h1 := nI_toInt h
  refine ⟨fun q => ?_, fun q => ?_⟩
  · have := Int32.lt_iff_toInt_lt.mp q; omega
  · rw [q] at h1; omega
theorem knee_hit {nu : Nat → Nat → Nat} {n W i k0 l0 : Nat} (hk : kn (ldN nu n W) i = (k0, l0)) (hi : i < n) (hn : n ≤ 8) (hl : ¬ ldN nu n W i ≤ l0) : kneeS nu n W (nI k0) = nI (ldN nu n W i) := by
  have hb : k0 ≤ i := by have := kn_le (ld := ldN nu n W) i; rw [hk] at this; exact this
  obtain ⟨a1, a2⟩ := nI_nm (k := k0) (by omega)
  have e1 : kth (ldN nu n W) k0 (i + 1) = some (ldN nu n W i) := by simp only [kth, hk, if_neg hl, if_true]
  have e2 : k0 < (kn (ldN nu n W) (i + 1)).1 := by simp only [kn, hk, if_neg hl]; omega
  have e3 := (kth_stay e2 (n - (i + 1))).1
  rw [show i + 1 + (n - (i + 1)) = n by omega, e1] at e3
  unfold kneeS
  rw [if_neg a1, if_neg a2, nI_clamp (by omega), e3]
theorem knee_none {nu : Nat → Nat → Nat} {n W : Nat} {x : Int32} (h1 : (-1) ≤ x) (h2 : ¬ x = (-1)) (h3 : kth (ldN nu n W) x.toNatClampNeg n = none) : kneeS nu n W x = (-9) := by
  unfold kneeS
  rw [if_neg (Int32.not_lt.mpr h1), if_neg h2, h3]
theorem nm_clamp {x : Int32} (h1 : (-1) ≤ x) (h2 : ¬ x = (-1)) : x = nI x.toNatClampNeg := by
  have a1 := Int32.le_iff_toInt_le.mp h1
  have e : (-1 : Int32).toInt = -1 := rfl
  have h0 : ¬ x < 0 := fun q => by
    have a2 := Int32.lt_iff_toInt_lt.mp q
    have e0 : (0 : Int32).toInt = 0 := rfl
    exact h2 (Int32.toInt_inj.mp (by omega))
  obtain ⟨j, hj, rfl⟩ := nI_of h0
  rw [nI_clamp hj]
def cq (so : Nat → Bool) (ct : Nat → Int32) (last : Nat) : Nat → Nat
  | 0 => 0
  | k + 1 => if so k = true then (if ct k = ct last then cq so ct last k + 1 else cq so ct last k) else cq so ct last k
theorem cq_le {so : Nat → Bool} {ct : Nat → Int32} {last : Nat} : ∀ k, cq so ct last k ≤ k := by
  intro k
  induction k with
  | zero => exact Nat.le_refl _
  | succ k ih => simp only [cq]; split; split; omega; omega; omega
theorem cq_congr {so : Nat → Bool} {f g : Nat → Int32} {last : Nat} (hl : f last = g last) : ∀ k, (∀ t, t < k → so t = true → f t = g t) → cq so f last k = cq so g last k := by
  intro k
  induction k with
  | zero => intro _; rfl
  | succ k ih =>
    intro h
    have e := ih (fun t ht => h t (by omega))
    simp only [cq, e, hl]
    by_cases q : so k = true
    · rw [if_pos q, if_pos q, h k (by omega) q]
    · rw [if_neg q, if_neg q]
def mlC (so : Nat → Bool) (ct : Nat → Int32) : Nat → Nat
  | 0 => 0
  | k + 1 => if so k = true then max (mlC so ct k) (cq so ct k (k + 1)) else mlC so ct k
theorem mlC_le {so : Nat → Bool} {ct : Nat → Int32} : ∀ k, mlC so ct k ≤ k := by
  intro k
  induction k with
  | zero => exact Nat.le_refl _
  | succ k ih =>
    have := cq_le (so := so) (ct := ct) (last := k) (k + 1)
    simp only [mlC]; split <;> omega
def mA (so : Nat → Bool) (nu : Nat → Nat → Nat) (n W p : Nat) : Nat := mlC so (fun s => cutS nu n W s p) (n + 1)
def ak (m : Nat → Nat) : Nat → Int32 × Nat
  | 0 => ((-9), 10)
  | k + 1 => if (ak m k).2 ≤ m (10 + 10 * k) then ak m k else (nI (10 + 10 * k), m (10 + 10 * k))
def askA (nu : Nat → Nat → Nat) (n W sz : Nat) (lo : Nat → Nat) (bf : Nat → Int32) : Int32 := if 2 ≤ cnt (soB nu n W sz lo bf) (n + 1) then (ak (fun p => mA (soB nu n W sz lo bf) nu n W p) 30).1 else (-9)
def fso (so : Nat → Bool) : Nat → Option Nat
  | 0 => none
  | k + 1 => match fso so k with
    | some s => some s
    | none => if so k = true then some k else none
theorem fso_stay {so : Nat → Bool} {k s : Nat} (h : fso so k = some s) : ∀ m, fso so (k + m) = some s := by
  intro m
  induction m with
  | zero => exact h
  | succ m ih => show fso so (k + m + 1) = some s; simp only [fso, ih]
def whichA (nu : Nat → Nat → Nat) (n W sz : Nat) (lo : Nat → Nat) (bf : Nat → Int32) (w : Nat) : Int32 := if w = 0 then nI (cnt (soB nu n W sz lo bf) (n + 1)) else match fso (soB nu n W sz lo bf) (n + 1) with
  | none => (-2000000)
  | some s => nI s - 1
def countA (nu : Nat → Nat → Nat) (n W sz tz z w : Nat) : Int32 := if w = 0 then nI n else if w = 1 then nI (pop W) else if w = 2 then nI (sumN (nu 1) W n) else if w = 3 then nI (sumN (nu 0) 255 n) else if w = 4 then nI (R0 nu (n - 1)) else if w = 5 then nI sz else if w = 6 then nI tz else nI z
theorem gcdM_lt {a b : Nat} (ha : a < 2 ^ 31) (hb : b ≤ 900) : gcdM a b < 2 ^ 31 := by
  unfold gcdM
  have : Nat.gcd a b < 2 ^ 31 := by
    rcases Nat.eq_zero_or_pos b with h | h
    · subst h; rw [Nat.gcd_zero_right]; exact ha
    · have := Nat.le_of_dvd h (Nat.gcd_dvd_right a b); omega
  omega
theorem sw_lt {W s : Nat} (h : W < 256) : swN W s < 256 := by
  unfold swN; split
  · exact h
  · exact Nat.lt_of_le_of_lt (clr_le _ _) h
/-- a switch's default: y is none of 0 .. k - 1 -/
theorem sw_bad {y : Int32} {k : Nat} (hk : k < 100) (h : ∀ i : Nat, i ≤ k → ¬ y = nI i) : okB y (k + 1) = false := by
  cases e : okB y (k + 1) with
  | false => rfl
  | true => obtain ⟨j, hj, rfl⟩ := ok_ex (by omega) e; exact absurd rfl (h j (by omega))
