set_option maxRecDepth 100000 in
set_option maxHeartbeats 4000000 in
theorem kX6_greatestDivisor (l : Launch) (g : GG) (a : Nat) (b : Nat) (ha : a < 2 ^ 31) (hb1 : b ≤ 900) : KI l g yX6_greatestDivisor wsX6_greatestDivisor 1 13 [.int (nI a), .int (nI b)] [] (fun (r : Int32) (w' : va_W) => r = (nI (gcdM a b)) ∧ w' = []) := by
  refine kI_of (cc := cX6_greatestDivisor) (maxL := 6) (by decide) rfl (Nat.le_of_ble_eq_true rfl) ?_
  intro pp ee ss mm bel mth cd A ls C S hr hl
  obtain ⟨hx, hb, hml, hown, hts⟩ := id C.1
  have hl : lv_has ls 6 [(0, .int (nI a)), (1, .int (nI b))] := hl
  obtain ⟨H, hH⟩ : ∃ H, H = ss.heap := ⟨_, rfl⟩
  obtain ⟨locs, hL0⟩ : ∃ L : List Loc, L = [] := ⟨_, rfl⟩
  rw [← hH, ← hL0] at S ⊢
  refine lv_iload_n hx hb dX6_greatestDivisor_0 rfl (lv_at hl 0 rfl) ?_
  refine lv_istore_n (lv' := [(2, .int (nI a)), (0, .int (nI a)), (1, .int (nI b))]) hx hb dX6_greatestDivisor_1 rfl hl (by decide) rfl (fun ls hl => ?_)
  refine lv_iload_n hx hb dX6_greatestDivisor_2 rfl (lv_at hl 2 rfl) ?_
  refine lv_istore_n (lv' := [(3, .int (nI b)), (2, .int (nI a)), (0, .int (nI a)), (1, .int (nI b))]) hx hb dX6_greatestDivisor_3 rfl hl (by decide) rfl (fun ls hl => ?_)
  refine lv_iconst (v := 0) hx hb dX6_greatestDivisor_4 (by decide) ?_
  refine lv_istore (lv' := [(4, .int 0), (3, .int (nI b)), (2, .int (nI a)), (0, .int (nI a)), (1, .int (nI b))]) hx hb dX6_greatestDivisor_5 hl (by decide) rfl (fun ls hl => ?_)
  have loop7 : ∀ (N0 : Nat) (x : Nat) (y : Nat) (k : Nat), y < N0 → (x < 2 ^ 31) → (Nat.gcd x y = Nat.gcd a b) → (y = 0 ∨ y + k ≤ 900) → ∀ (H : Heap) (locs : List Loc) (ls : Array Slot), ST g A ss H locs [] → lv_has ls 6 [(4, .int (nI k)), (3, .int (nI y)), (2, .int (nI x)), (0, .int (nI a)), (1, .int (nI b))] → W pp l ee { frames := 1, cells := 0, slots := 0, locals := 13 } ss mm ([.int (nI a), .int (nI b)] : List Value).toArray bel mth cd H locs 0 0 (QI bel ([.int (nI a), .int (nI b)] : List Value).toArray ss g A (fun (r : Int32) (w' : va_W) => r = (nI (gcdM a b)) ∧ w' = [])) (F0 mm 7 ls []) := by
    intro N0
    induction N0 with
    | zero => intro x y k hN; exact absurd hN (Nat.not_lt_zero _)
    | succ N0 ih7 =>
      intro x y k hN hx1 hg hk H locs ls S hl
      have hk9 : y ≤ 900 ∧ (0 < y → k ≤ 900) := by omega
      refine lv_iload_n hx hb dX6_greatestDivisor_7 rfl (lv_at hl 1 rfl) ?_
      refine bn_zle (tgt := 35) (a := y) hx hb rfl (by omega) dX6_greatestDivisor_8 (by decide) (fun c_1 => ?_) (fun c_1 => ?_)
      · -- 8 T
        refine lv_iconst (v := 1) hx hb dX6_greatestDivisor_35 (by decide) ?_
        refine lv_iload_n hx hb dX6_greatestDivisor_36 rfl (lv_at hl 2 rfl) ?_
        refine va_mmax hx hb (hml.trans hl.1.symm) hown (hts (.methodLink RX6 208 Lib.Math.max.name) (by decide +kernel)) (hts (.static Lib.Math.max.name) (by decide +kernel)) (hts (.initialized "java/lang/Math") (by decide +kernel)) (hts (.code Lib.Math.max.name Lib.Math.max.code 2 (some .int)) (by decide +kernel)) (Nat.le_of_ble_eq_true rfl) (Nat.le_of_ble_eq_true rfl) (Nat.le_of_ble_eq_true rfl) (Nat.le_of_ble_eq_true rfl) dX6_greatestDivisor_37 ?_
        refine top_eq (y := imax 1 (nI x)) rfl ?_
        refine top_eq (y := nI (max 1 x)) (imax_1 (by omega)) ?_
        exact ret_I C S hr dX6_greatestDivisor_40 ⟨(by unfold gcdM; rw [← hg, show y = 0 by omega, Nat.gcd_zero_right]), (rfl)⟩
      · -- 8 F
        refine lv_iload hx hb dX6_greatestDivisor_11 (lv_at hl 0 rfl) ?_
        refine lv_sipush (v := 1000) hx hb dX6_greatestDivisor_13 (by decide) ?_
        refine bn_ige (tgt := 35) (a := k) (b := 1000) hx hb rfl rfl (by omega) (by omega) dX6_greatestDivisor_16 (by decide) (fun c_2 => ?_) (fun c_2 => ?_)
        · -- 16 T
          exact absurd c_2 (by omega)
        · -- 16 F
          refine lv_iload_n hx hb dX6_greatestDivisor_19 rfl (lv_at hl 2 rfl) ?_
          refine lv_iload_n hx hb dX6_greatestDivisor_20 rfl (lv_at hl 1 rfl) ?_
          refine lv_irem hx hb dX6_greatestDivisor_21 (nI_ne0 (n := y) (by omega) (by omega)) ?_
          refine top_eq (y := nI (x % y)) (pk_rem (a := x) (d := y) (by omega) (by omega) (by omega)) ?_
          refine lv_istore (lv' := [(5, .int (nI (x % y))), (4, .int (nI k)), (3, .int (nI y)), (2, .int (nI x)), (0, .int (nI a)), (1, .int (nI b))]) hx hb dX6_greatestDivisor_22 hl (by decide) rfl (fun ls hl => ?_)
          refine lv_iload_n hx hb dX6_greatestDivisor_24 rfl (lv_at hl 2 rfl) ?_
          refine lv_istore_n (lv' := [(2, .int (nI y)), (5, .int (nI (x % y))), (4, .int (nI k)), (3, .int (nI y)), (0, .int (nI a)), (1, .int (nI b))]) hx hb dX6_greatestDivisor_25 rfl hl (by decide) rfl (fun ls hl => ?_)
          refine lv_iload hx hb dX6_greatestDivisor_26 (lv_at hl 1 rfl) ?_
          refine lv_istore_n (lv' := [(3, .int (nI (x % y))), (2, .int (nI y)), (5, .int (nI (x % y))), (4, .int (nI k)), (0, .int (nI a)), (1, .int (nI b))]) hx hb dX6_greatestDivisor_28 rfl hl (by decide) rfl (fun ls hl => ?_)
          refine lv_iinc (v := nI (k + 1)) (lv' := [(4, .int (nI (k + 1))), (3, .int (nI (x % y))), (2, .int (nI y)), (5, .int (nI (x % y))), (0, .int (nI a)), (1, .int (nI b))]) hx hb dX6_greatestDivisor_29 hl (k := 3) rfl (nI_add _ _) (by decide) rfl (fun ls hl => ?_)
          refine lv_goto (tgt := 7) hx hb dX6_greatestDivisor_32 (by decide) ?_
          exact ih7 y (x % y) (k + 1) (by have := Nat.mod_lt x (show 0 < y by omega); omega) (by first | assumption | omega) (by rw [← hg, Nat.gcd_comm x y, Nat.gcd_rec y x, Nat.gcd_comm]) (by have := Nat.mod_lt x (show 0 < y by omega); omega) H locs ls (ST.eq S (rfl)) (lv_sub hl [0, 1, 2, 4, 5] (rfl))
  exact loop7 _ a b 0 (Nat.lt_succ_self _) (by first | assumption | omega) (rfl) (by first | assumption | omega) H locs ls (ST.eq S (rfl)) (lv_sub hl [0, 1, 2, 3, 4] (rfl))

set_option maxRecDepth 100000 in
set_option maxHeartbeats 4000000 in
theorem kX6_partInLowestTerms (l : Launch) (g : GG) (a : Nat) (b : Nat) (w : Nat) (ha : a < 2 ^ 31) (hb1 : b ≤ 900) (hw1 : w < 3) : KI l g yX6_partInLowestTerms wsX6_partInLowestTerms 2 38 [.int (nI a), .int (nI b), .int (nI w)] [] (fun (r : Int32) (w' : va_W) => r = (nI ((if w = 0 then a else b) / gcdM a b)) ∧ w' = []) := by
  refine kI_of (cc := cX6_partInLowestTerms) (maxL := 4) (by decide) rfl (Nat.le_of_ble_eq_true rfl) ?_
  intro pp ee ss mm bel mth cd A ls C S hr hl
  obtain ⟨hx, hb, hml, hown, hts⟩ := id C.1
  have hl : lv_has ls 4 [(0, .int (nI a)), (1, .int (nI b)), (2, .int (nI w))] := hl
  obtain ⟨H, hH⟩ : ∃ H, H = ss.heap := ⟨_, rfl⟩
  obtain ⟨locs, hL0⟩ : ∃ L : List Loc, L = [] := ⟨_, rfl⟩
  rw [← hH, ← hL0] at S ⊢
  have hG : 0 < gcdM a b := by unfold gcdM; omega
  have hG2 : gcdM a b < 2 ^ 31 := gcdM_lt ha hb1
  refine lv_iload_n hx hb dX6_partInLowestTerms_0 rfl (lv_at hl 0 rfl) ?_
  refine lv_iload_n hx hb dX6_partInLowestTerms_1 rfl (lv_at hl 1 rfl) ?_
  refine after_I (wc := []) (y := yX6_greatestDivisor) C S (va_runS (As := [.int (nI a), .int (nI b)]) (rest := []) C.1 (kX6_greatestDivisor l g a b (by first | assumption | omega) (by first | assumption | omega) H.size) (va_cwS 2 hts gX6_partInLowestTerms_X6_greatestDivisor rfl rfl rfl (by decide +kernel) ⟨Nat.le_of_ble_eq_true rfl, Nat.le_of_ble_eq_true rfl⟩) (preS_at C S [] rfl (by decide)) rfl rfl hl.1 rfl (lv_room (Nat.le_of_ble_eq_true rfl)) dX6_partInLowestTerms_2 ⟨Nat.le_of_ble_eq_true rfl, Nat.le_of_ble_eq_true rfl⟩) [] [] rfl (wr := []) rfl (by decide) (by decide) (fun r0 w0 H locs hq S => ?_)
  obtain ⟨rfl, rfl⟩ := hq
  have S : ST g A ss H locs [] := S
  refine lv_istore_n (lv' := [(3, .int (nI (gcdM a b))), (0, .int (nI a)), (1, .int (nI b)), (2, .int (nI w))]) hx hb dX6_partInLowestTerms_5 rfl hl (by decide) rfl (fun ls hl => ?_)
  refine lv_iload_n hx hb dX6_partInLowestTerms_6 rfl (lv_at hl 3 rfl) ?_
  refine bn_zne (tgt := 14) (a := w) hx hb rfl (by omega) dX6_partInLowestTerms_7 (by decide) (fun c_1 => ?_) (fun c_1 => ?_)
  · -- 7 T
    refine lv_iload_n hx hb dX6_partInLowestTerms_14 rfl (lv_at hl 2 rfl) ?_
    refine lv_iload_n hx hb dX6_partInLowestTerms_15 rfl (lv_at hl 0 rfl) ?_
    refine lv_idiv hx hb dX6_partInLowestTerms_16 (nI_ne0 (n := gcdM a b) (by omega) (by omega)) ?_
    refine top_eq (y := nI (b / (gcdM a b))) (pk_div (a := b) (d := gcdM a b) (by omega) (by omega) (by omega)) ?_
    exact ret_I C S hr dX6_partInLowestTerms_17 ⟨(by rw [if_neg c_1]), (rfl)⟩
  · -- 7 F
    refine lv_iload_n hx hb dX6_partInLowestTerms_10 rfl (lv_at hl 1 rfl) ?_
    refine lv_goto (tgt := 15) hx hb dX6_partInLowestTerms_11 (by decide) ?_
    refine lv_iload_n hx hb dX6_partInLowestTerms_15 rfl (lv_at hl 0 rfl) ?_
    refine lv_idiv hx hb dX6_partInLowestTerms_16 (nI_ne0 (n := gcdM a b) (by omega) (by omega)) ?_
    refine top_eq (y := nI (a / (gcdM a b))) (pk_div (a := a) (d := gcdM a b) (by omega) (by omega) (by omega)) ?_
    exact ret_I C S hr dX6_partInLowestTerms_17 ⟨(by rw [if_pos c_1]), (rfl)⟩

theorem inX6_stackAll_X6 : ∀ w ∈ wsX60, w ∈ wsX6_stackAll := by decide +kernel
set_option maxRecDepth 100000 in
set_option maxHeartbeats 4000000 in
theorem kX6_stackAll (l : Launch) (g : GG) (O : Nat) (dh : Nat) (th : Nat) (HH : Nat) (IM : Nat) (SG : Nat) (ca : Nat) (h : Nat) (q : Nat) (f : Nat → Int32) (n : Nat) (ww : Nat) (nu : Nat → Nat → Nat) (P : Nat) (ra : Nat) (sa : Nat) (ta : Nat) (rf : Nat → Int32) (sf : Nat → Int32) (tf : Nat → Int32) (p1 : Int32) (p2 : Int32) (p3 : Int32) (p4 : Int32) (p5 : Int32) (Wh : Nat) (hn : n ≤ 8) (hf : ∀ a i, a < 4 → i < n → f (a * 8 + i) = nI (nu a i)) (hca : ∀ i, i < n → nu 2 i ≤ 30) (hWh : Wh < 256) : KV l g yX6_stackAll wsX6_stackAll 3 70 [.ref O, .int (nI Wh)] [(O, ob 6 [.ref h, .ref dh, .ref th, .ref HH, .ref IM, .ref SG, .ref P, .ref ca]), (h, ob 2 [.ref q, .int (nI n), .int (nI ww)]), (q, aI g 32 f), (P, ob 3 [.ref ra, .ref sa, .ref ta, .int p1, .int p2, .int p3, .int p4, .int p5]), (ra, aI g 8 rf), (sa, aI g 8 sf), (ta, aI g 8 tf)] (fun (w' : va_W) => ∃ (rf' : Nat → Int32), ∃ (sf' : Nat → Int32), ∃ (tf' : Nat → Int32), (∀ j, j < n → rf' j = nI (R0 nu j)) ∧ (∀ j, j < n → sf' j = nI (nu 1 j)) ∧ (∀ j, j < n → tf' j = nI (nu 3 j)) ∧ w' = [(O, ob 6 [.ref h, .ref dh, .ref th, .ref HH, .ref IM, .ref SG, .ref P, .ref ca]), (h, ob 2 [.ref q, .int (nI n), .int (nI ww)]), (q, aI g 32 f), (P, ob 3 [.ref ra, .ref sa, .ref ta, .int (nI n), .int (nI Wh), .int p3, .int p4, .int p5]), (ra, aI g 8 rf'), (sa, aI g 8 sf'), (ta, aI g 8 tf')]) := by
  refine kV_of (cc := cX6_stackAll) (maxL := 2) (by decide) rfl (Nat.le_of_ble_eq_true rfl) ?_
  intro pp ee ss mm bel mth cd A ls C S hr hl
  obtain ⟨hx, hb, hml, hown, hts⟩ := id C.1
  have hl : lv_has ls 2 [(0, .ref O), (1, .int (nI Wh))] := hl
  obtain ⟨H, hH⟩ : ∃ H, H = ss.heap := ⟨_, rfl⟩
  obtain ⟨locs, hL0⟩ : ∃ L : List Loc, L = [] := ⟨_, rfl⟩
  rw [← hH, ← hL0] at S ⊢
  refine lv_aload_n hx hb dX6_stackAll_0 rfl (lv_at hl 0 rfl) ?_
  refine top_get C S inX6_stackAll_X6 rfl 0 rfl 6 (by decide) (by decide +kernel) rfl rfl dX6_stackAll_1 ?_
  refine lv_aload_n hx hb dX6_stackAll_4 rfl (lv_at hl 0 rfl) ?_
  refine top_get C S inX6_stackAll_X6 rfl 0 rfl 0 (by decide) (by decide +kernel) rfl rfl dX6_stackAll_5 ?_
  refine lv_sipush (v := 255) hx hb dX6_stackAll_8 (by decide) ?_
  refine lv_iload_n hx hb dX6_stackAll_11 rfl (lv_at hl 1 rfl) ?_
  refine after_V (wc := [(P, ob 3 [.ref ra, .ref sa, .ref ta, .int p1, .int p2, .int p3, .int p4, .int p5]), (ra, aI g 8 rf), (sa, aI g 8 sf), (ta, aI g 8 tf), (h, ob 2 [.ref q, .int (nI n), .int (nI ww)]), (q, aI g 32 f)]) (y := yX3_stack) C S (va_runV (As := [.ref h, .int 255, .int (nI Wh)]) (rest := []) C.1 (kX3_stack l g P ra sa ta rf sf tf p1 p2 p3 p4 p5 h q f n ww nu 255 Wh (by first | assumption | omega) (by decide) (by omega) (by first | assumption | omega) (by first | assumption | omega) H.size) (cwV 3 hts gX6_stackAll_X3_stack rfl rfl rfl (by decide +kernel) ⟨Nat.le_of_ble_eq_true rfl, Nat.le_of_ble_eq_true rfl⟩) (preV_at C S 3 rfl rfl [3, 4, 5, 6, 1, 2] rfl (by decide)) rfl rfl hl.1 rfl (lv_room (Nat.le_of_ble_eq_true rfl)) dX6_stackAll_12 ⟨Nat.le_of_ble_eq_true rfl, Nat.le_of_ble_eq_true rfl⟩) [3, 4, 5, 6, 1, 2] [0] rfl (wr := [(O, ob 6 [.ref h, .ref dh, .ref th, .ref HH, .ref IM, .ref SG, .ref P, .ref ca])]) rfl (by decide) (by decide) (fun w0 H locs hq S => ?_)
  obtain ⟨rf'_1, sf'_2, tf'_3, hR_4, hS_5, hT_6, rfl⟩ := hq
  have S : ST g A ss H locs [(O, ob 6 [.ref h, .ref dh, .ref th, .ref HH, .ref IM, .ref SG, .ref P, .ref ca]), (h, ob 2 [.ref q, .int (nI n), .int (nI ww)]), (q, aI g 32 f), (P, ob 3 [.ref ra, .ref sa, .ref ta, .int (nI n), .int (nI (255 &&& Wh)), .int p3, .int p4, .int p5]), (ra, aI g 8 rf'_1), (sa, aI g 8 sf'_2), (ta, aI g 8 tf'_3)] := ST.sub S [0, 5, 6, 1, 2, 3, 4] (by decide) rfl
  exact ret_V C S hr dX6_stackAll_15 ⟨rf'_1, sf'_2, tf'_3, (by first | assumption | omega), (by first | assumption | omega), (by first | assumption | omega), (by rw [and255 hWh])⟩

theorem inX6_stackSuspect_X2 : ∀ w ∈ wsX20, w ∈ wsX6_stackSuspect := by decide +kernel
theorem inX6_stackSuspect_X6 : ∀ w ∈ wsX60, w ∈ wsX6_stackSuspect := by decide +kernel
set_option maxRecDepth 100000 in
set_option maxHeartbeats 4000000 in
theorem kX6_stackSuspect (l : Launch) (g : GG) (O : Nat) (dh : Nat) (th : Nat) (HH : Nat) (IM : Nat) (SG : Nat) (ca : Nat) (h : Nat) (q : Nat) (f : Nat → Int32) (n : Nat) (ww : Nat) (nu : Nat → Nat → Nat) (P : Nat) (ra : Nat) (sa : Nat) (ta : Nat) (rf : Nat → Int32) (sf : Nat → Int32) (tf : Nat → Int32) (p1 : Int32) (p2 : Int32) (p3 : Int32) (p4 : Int32) (p5 : Int32) (s : Nat) (hn : n ≤ 8) (hf : ∀ a i, a < 4 → i < n → f (a * 8 + i) = nI (nu a i)) (hca : ∀ i, i < n → nu 2 i ≤ 30) (hww : ww < 256) (hs : s ≤ 8) : KV l g yX6_stackSuspect wsX6_stackSuspect 4 91 [.ref O, .int (nI s)] [(O, ob 6 [.ref h, .ref dh, .ref th, .ref HH, .ref IM, .ref SG, .ref P, .ref ca]), (h, ob 2 [.ref q, .int (nI n), .int (nI ww)]), (q, aI g 32 f), (P, ob 3 [.ref ra, .ref sa, .ref ta, .int p1, .int p2, .int p3, .int p4, .int p5]), (ra, aI g 8 rf), (sa, aI g 8 sf), (ta, aI g 8 tf)] (fun (w' : va_W) => ∃ (rf' : Nat → Int32), ∃ (sf' : Nat → Int32), ∃ (tf' : Nat → Int32), (∀ j, j < n → rf' j = nI (R0 nu j)) ∧ (∀ j, j < n → sf' j = nI (nu 1 j)) ∧ (∀ j, j < n → tf' j = nI (nu 3 j)) ∧ w' = [(O, ob 6 [.ref h, .ref dh, .ref th, .ref HH, .ref IM, .ref SG, .ref P, .ref ca]), (h, ob 2 [.ref q, .int (nI n), .int (nI ww)]), (q, aI g 32 f), (P, ob 3 [.ref ra, .ref sa, .ref ta, .int (nI n), .int (nI (swN ww s)), .int p3, .int p4, .int p5]), (ra, aI g 8 rf'), (sa, aI g 8 sf'), (ta, aI g 8 tf')]) := by
  refine kV_of (cc := cX6_stackSuspect) (maxL := 3) (by decide) rfl (Nat.le_of_ble_eq_true rfl) ?_
  intro pp ee ss mm bel mth cd A ls C S hr hl
  obtain ⟨hx, hb, hml, hown, hts⟩ := id C.1
  have hl : lv_has ls 3 [(0, .ref O), (1, .int (nI s))] := hl
  obtain ⟨H, hH⟩ : ∃ H, H = ss.heap := ⟨_, rfl⟩
  obtain ⟨locs, hL0⟩ : ∃ L : List Loc, L = [] := ⟨_, rfl⟩
  rw [← hH, ← hL0] at S ⊢
  have hsw : swN ww s < 256 := sw_lt hww
  refine lv_iload_n hx hb dX6_stackSuspect_0 rfl (lv_at hl 1 rfl) ?_
  refine bn_zne (tgt := 8) (a := s) hx hb rfl (by omega) dX6_stackSuspect_1 (by decide) (fun c_1 => ?_) (fun c_1 => ?_)
  · -- 1 T
    refine lv_iconst (v := 1) hx hb dX6_stackSuspect_8 (by decide) ?_
    refine lv_iload_n hx hb dX6_stackSuspect_9 rfl (lv_at hl 1 rfl) ?_
    refine lv_iconst (v := 1) hx hb dX6_stackSuspect_10 (by decide) ?_
    refine lv_isub hx hb dX6_stackSuspect_11 ?_
    refine top_eq (y := nI (s - 1)) (pk_sub (a := s) (b := 1) (by omega)) ?_
    refine lv_ishl hx hb dX6_stackSuspect_12 ?_
    refine top_eq (y := nI (2 ^ (s - 1))) (shl_1 (by omega)) ?_
    refine lv_istore_n (lv' := [(2, .int (nI (2 ^ (s - 1)))), (0, .ref O), (1, .int (nI s))]) hx hb dX6_stackSuspect_13 rfl hl (by decide) rfl (fun ls hl => ?_)
    refine lv_aload_n hx hb dX6_stackSuspect_14 rfl (lv_at hl 1 rfl) ?_
    refine lv_aload_n hx hb dX6_stackSuspect_15 rfl (lv_at hl 1 rfl) ?_
    refine top_get C S inX6_stackSuspect_X6 rfl 0 rfl 0 (by decide) (by decide +kernel) rfl rfl dX6_stackSuspect_16 ?_
    refine top_getN C S inX6_stackSuspect_X2 rfl 1 rfl 2 (by decide) (by decide +kernel) rfl dX6_stackSuspect_19 ?_
    refine lv_iload_n hx hb dX6_stackSuspect_22 rfl (lv_at hl 0 rfl) ?_
    refine lv_iconst (v := (-1)) hx hb dX6_stackSuspect_23 (by decide) ?_
    refine lv_ixor hx hb dX6_stackSuspect_24 ?_
    refine lv_iand hx hb dX6_stackSuspect_25 ?_
    refine top_eq (y := nI (swN ww s)) (by rw [show swN ww s = clr ww (s - 1) by simp only [swN, if_neg c_1]]; exact clr_N hww (by omega)) ?_
    refine after_V (wc := [(O, ob 6 [.ref h, .ref dh, .ref th, .ref HH, .ref IM, .ref SG, .ref P, .ref ca]), (h, ob 2 [.ref q, .int (nI n), .int (nI ww)]), (q, aI g 32 f), (P, ob 3 [.ref ra, .ref sa, .ref ta, .int p1, .int p2, .int p3, .int p4, .int p5]), (ra, aI g 8 rf), (sa, aI g 8 sf), (ta, aI g 8 tf)]) (y := yX6_stackAll) C S (va_runV (As := [.int (nI (swN ww s))]) (rest := []) C.1 (kX6_stackAll l g O dh th HH IM SG ca h q f n ww nu P ra sa ta rf sf tf p1 p2 p3 p4 p5 (swN ww s) (by first | assumption | omega) (by first | assumption | omega) (by first | assumption | omega) hsw H.size) (cwV 1 hts gX6_stackSuspect_X6_stackAll rfl rfl rfl (by decide +kernel) ⟨Nat.le_of_ble_eq_true rfl, Nat.le_of_ble_eq_true rfl⟩) (preV_at C S 0 rfl rfl [0, 1, 2, 3, 4, 5, 6] rfl (by decide)) rfl rfl hl.1 rfl (lv_room (Nat.le_of_ble_eq_true rfl)) dX6_stackSuspect_26 ⟨Nat.le_of_ble_eq_true rfl, Nat.le_of_ble_eq_true rfl⟩) [0, 1, 2, 3, 4, 5, 6] [] rfl (wr := []) rfl (by decide) (by decide) (fun w0 H locs hq S => ?_)
    obtain ⟨rf'_2, sf'_3, tf'_4, hR_5, hS_6, hT_7, rfl⟩ := hq
    have S : ST g A ss H locs [(O, ob 6 [.ref h, .ref dh, .ref th, .ref HH, .ref IM, .ref SG, .ref P, .ref ca]), (h, ob 2 [.ref q, .int (nI n), .int (nI ww)]), (q, aI g 32 f), (P, ob 3 [.ref ra, .ref sa, .ref ta, .int (nI n), .int (nI (swN ww s)), .int p3, .int p4, .int p5]), (ra, aI g 8 rf'_2), (sa, aI g 8 sf'_3), (ta, aI g 8 tf'_4)] := S
    exact ret_V C S hr dX6_stackSuspect_29 ⟨rf'_2, sf'_3, tf'_4, (by first | assumption | omega), (by first | assumption | omega), (by first | assumption | omega), (by first | rfl | simp only [if_neg c_1])⟩
  · -- 1 F
    refine lv_iconst (v := 0) hx hb dX6_stackSuspect_4 (by decide) ?_
    refine lv_goto (tgt := 13) hx hb dX6_stackSuspect_5 (by decide) ?_
    refine lv_istore_n (lv' := [(2, .int 0), (0, .ref O), (1, .int (nI s))]) hx hb dX6_stackSuspect_13 rfl hl (by decide) rfl (fun ls hl => ?_)
    refine lv_aload_n hx hb dX6_stackSuspect_14 rfl (lv_at hl 1 rfl) ?_
    refine lv_aload_n hx hb dX6_stackSuspect_15 rfl (lv_at hl 1 rfl) ?_
    refine top_get C S inX6_stackSuspect_X6 rfl 0 rfl 0 (by decide) (by decide +kernel) rfl rfl dX6_stackSuspect_16 ?_
    refine top_getN C S inX6_stackSuspect_X2 rfl 1 rfl 2 (by decide) (by decide +kernel) rfl dX6_stackSuspect_19 ?_
    refine lv_iload_n hx hb dX6_stackSuspect_22 rfl (lv_at hl 0 rfl) ?_
    refine lv_iconst (v := (-1)) hx hb dX6_stackSuspect_23 (by decide) ?_
    refine lv_ixor hx hb dX6_stackSuspect_24 ?_
    refine lv_iand hx hb dX6_stackSuspect_25 ?_
    refine top_eq (y := nI (swN ww s)) (by rw [show swN ww s = ww by simp only [swN, if_pos c_1]]; exact and_m1 hww) ?_
    refine after_V (wc := [(O, ob 6 [.ref h, .ref dh, .ref th, .ref HH, .ref IM, .ref SG, .ref P, .ref ca]), (h, ob 2 [.ref q, .int (nI n), .int (nI ww)]), (q, aI g 32 f), (P, ob 3 [.ref ra, .ref sa, .ref ta, .int p1, .int p2, .int p3, .int p4, .int p5]), (ra, aI g 8 rf), (sa, aI g 8 sf), (ta, aI g 8 tf)]) (y := yX6_stackAll) C S (va_runV (As := [.int (nI (swN ww s))]) (rest := []) C.1 (kX6_stackAll l g O dh th HH IM SG ca h q f n ww nu P ra sa ta rf sf tf p1 p2 p3 p4 p5 (swN ww s) (by first | assumption | omega) (by first | assumption | omega) (by first | assumption | omega) hsw H.size) (cwV 1 hts gX6_stackSuspect_X6_stackAll rfl rfl rfl (by decide +kernel) ⟨Nat.le_of_ble_eq_true rfl, Nat.le_of_ble_eq_true rfl⟩) (preV_at C S 0 rfl rfl [0, 1, 2, 3, 4, 5, 6] rfl (by decide)) rfl rfl hl.1 rfl (lv_room (Nat.le_of_ble_eq_true rfl)) dX6_stackSuspect_26 ⟨Nat.le_of_ble_eq_true rfl, Nat.le_of_ble_eq_true rfl⟩) [0, 1, 2, 3, 4, 5, 6] [] rfl (wr := []) rfl (by decide) (by decide) (fun w0 H locs hq S => ?_)
    obtain ⟨rf'_8, sf'_9, tf'_10, hR_11, hS_12, hT_13, rfl⟩ := hq
    have S : ST g A ss H locs [(O, ob 6 [.ref h, .ref dh, .ref th, .ref HH, .ref IM, .ref SG, .ref P, .ref ca]), (h, ob 2 [.ref q, .int (nI n), .int (nI ww)]), (q, aI g 32 f), (P, ob 3 [.ref ra, .ref sa, .ref ta, .int (nI n), .int (nI (swN ww s)), .int p3, .int p4, .int p5]), (ra, aI g 8 rf'_8), (sa, aI g 8 sf'_9), (ta, aI g 8 tf'_10)] := S
    exact ret_V C S hr dX6_stackSuspect_29 ⟨rf'_8, sf'_9, tf'_10, (by first | assumption | omega), (by first | assumption | omega), (by first | assumption | omega), (by first | rfl | simp only [if_pos c_1])⟩

theorem inX6_leaf_X2 : ∀ w ∈ wsX20, w ∈ wsX6_leaf := by decide +kernel
theorem inX6_leaf_X3 : ∀ w ∈ wsX30, w ∈ wsX6_leaf := by decide +kernel
theorem inX6_leaf_X6 : ∀ w ∈ wsX60, w ∈ wsX6_leaf := by decide +kernel
set_option maxRecDepth 100000 in
set_option maxHeartbeats 4000000 in
theorem kX6_leaf (l : Launch) (g : GG) (O : Nat) (dh : Nat) (th : Nat) (HH : Nat) (IM : Nat) (SG : Nat) (ca : Nat) (h : Nat) (q : Nat) (f : Nat → Int32) (n : Nat) (ww : Nat) (nu : Nat → Nat → Nat) (P : Nat) (ra : Nat) (sa : Nat) (ta : Nat) (rf : Nat → Int32) (sf : Nat → Int32) (tf : Nat → Int32) (p1 : Int32) (p2 : Int32) (p3 : Int32) (p4 : Int32) (p5 : Int32) (x : Int32) (y : Int32) (hn1 : 1 ≤ n) (hn : n ≤ 8) (hww : ww < 256) (hf : ∀ a i, a < 4 → i < n → f (a * 8 + i) = nI (nu a i)) (hB : HB nu n) : KI l g yX6_leaf wsX6_leaf 4 91 [.ref O, .int x, .int y] [(O, ob 6 [.ref h, .ref dh, .ref th, .ref HH, .ref IM, .ref SG, .ref P, .ref ca]), (h, ob 2 [.ref q, .int (nI n), .int (nI ww)]), (q, aI g 32 f), (P, ob 3 [.ref ra, .ref sa, .ref ta, .int p1, .int p2, .int p3, .int p4, .int p5]), (ra, aI g 8 rf), (sa, aI g 8 sf), (ta, aI g 8 tf)] (fun (r : Int32) (w' : va_W) => r = (chk2 (-1) n 7 (leafA nu ww) x y) ∧ ∃ (z1' : Int32), ∃ (z2' : Int32), ∃ (z3' : Int32), ∃ (z4' : Int32), ∃ (z5' : Int32), ∃ (rf' : Nat → Int32), ∃ (sf' : Nat → Int32), ∃ (tf' : Nat → Int32), w' = [(O, ob 6 [.ref h, .ref dh, .ref th, .ref HH, .ref IM, .ref SG, .ref P, .ref ca]), (h, ob 2 [.ref q, .int (nI n), .int (nI ww)]), (q, aI g 32 f), (P, ob 3 [.ref ra, .ref sa, .ref ta, .int z1', .int z2', .int z3', .int z4', .int z5']), (ra, aI g 8 rf'), (sa, aI g 8 sf'), (ta, aI g 8 tf')]) := by
  refine kI_of (cc := cX6_leaf) (maxL := 3) (by decide) rfl (Nat.le_of_ble_eq_true rfl) ?_
  intro pp ee ss mm bel mth cd A ls C S hr hl
  obtain ⟨hx, hb, hml, hown, hts⟩ := id C.1
  have hl : lv_has ls 3 [(0, .ref O), (1, .int x), (2, .int y)] := hl
  obtain ⟨H, hH⟩ : ∃ H, H = ss.heap := ⟨_, rfl⟩
  obtain ⟨locs, hL0⟩ : ∃ L : List Loc, L = [] := ⟨_, rfl⟩
  rw [← hH, ← hL0] at S ⊢
  have hca : ∀ i, i < n → nu 2 i ≤ 30 := fun i9 h9 => (hB i9 h9).2.2.1
  have hSb : ∀ i, i < n → nu 1 i ≤ 9 := fun i9 h9 => (hB i9 h9).2.1.2
  have hTb : ∀ i, i < n → nu 3 i ≤ 99 := fun i9 h9 => (hB i9 h9).2.2.2.2
  have hRb : ∀ i, i < n → R0 nu i ≤ 240 := RC_le hn hca
  refine lv_aload_n hx hb dX6_leaf_0 rfl (lv_at hl 0 rfl) ?_
  refine top_get C S inX6_leaf_X6 rfl 0 rfl 0 (by decide) (by decide +kernel) rfl rfl dX6_leaf_1 ?_
  refine lv_iload_n hx hb dX6_leaf_4 rfl (lv_at hl 1 rfl) ?_
  refine after_I (wc := [(h, ob 2 [.ref q, .int (nI n), .int (nI ww)]), (q, aI g 32 f)]) (y := yX2_exists) C S (va_runV (As := [.int x]) (rest := []) C.1 (kX2_exists l g h q f n ww x H.size) (cwV 1 hts gX6_leaf_X2_exists rfl rfl rfl (by decide +kernel) ⟨Nat.le_of_ble_eq_true rfl, Nat.le_of_ble_eq_true rfl⟩) (preV_at C S 1 rfl rfl [1, 2] rfl (by decide)) rfl rfl hl.1 rfl (lv_room (Nat.le_of_ble_eq_true rfl)) dX6_leaf_5 ⟨Nat.le_of_ble_eq_true rfl, Nat.le_of_ble_eq_true rfl⟩) [1, 2] [0, 3, 4, 5, 6] rfl (wr := [(O, ob 6 [.ref h, .ref dh, .ref th, .ref HH, .ref IM, .ref SG, .ref P, .ref ca]), (P, ob 3 [.ref ra, .ref sa, .ref ta, .int p1, .int p2, .int p3, .int p4, .int p5]), (ra, aI g 8 rf), (sa, aI g 8 sf), (ta, aI g 8 tf)]) rfl (by decide) (by decide) (fun r0 w0 H locs hq S => ?_)
  obtain ⟨rfl, rfl⟩ := hq
  have S : ST g A ss H locs [(O, ob 6 [.ref h, .ref dh, .ref th, .ref HH, .ref IM, .ref SG, .ref P, .ref ca]), (h, ob 2 [.ref q, .int (nI n), .int (nI ww)]), (q, aI g 32 f), (P, ob 3 [.ref ra, .ref sa, .ref ta, .int p1, .int p2, .int p3, .int p4, .int p5]), (ra, aI g 8 rf), (sa, aI g 8 sf), (ta, aI g 8 tf)] := ST.sub S [0, 5, 6, 1, 2, 3, 4] (by decide) rfl
  refine br_neB (tgt := 13) hx hb dX6_leaf_8 (by decide) (fun c_1 => ?_) (fun c_1 => ?_)
  · -- 8 T
    obtain ⟨j, hj, rfl⟩ := exists_ok hn c_1
    refine lv_iload_n hx hb dX6_leaf_13 rfl (lv_at hl 2 rfl) ?_
    by_cases c_2 : y = 0
    · -- case 0
      refine lv_tableIn (tgt := 56) hx hb dX6_leaf_14 (by rw [c_2]; decide) (by rw [c_2]; decide) (by rw [c_2]; rfl) (by decide) ?_
      subst c_2
      refine lv_aload_n hx hb dX6_leaf_56 rfl (lv_at hl 0 rfl) ?_
      refine top_get C S inX6_leaf_X6 rfl 0 rfl 0 (by decide) (by decide +kernel) rfl rfl dX6_leaf_57 ?_
      refine lv_iload_n hx hb dX6_leaf_60 rfl (lv_at hl 2 rfl) ?_
      refine lv_iload_n hx hb dX6_leaf_61 rfl (lv_at hl 1 rfl) ?_
      refine after_I (wc := [(h, ob 2 [.ref q, .int (nI n), .int (nI ww)]), (q, aI g 32 f)]) (y := yX2_number) C S (va_runV (As := [.int 0, .int (nI j)]) (rest := []) C.1 (kX2_number l g h q f n ww 0 j (by first | assumption | omega) (by first | assumption | omega) H.size) (cwV 2 hts gX6_leaf_X2_number rfl rfl rfl (by decide +kernel) ⟨Nat.le_of_ble_eq_true rfl, Nat.le_of_ble_eq_true rfl⟩) (preV_at C S 1 rfl rfl [1, 2] rfl (by decide)) rfl rfl hl.1 rfl (lv_room (Nat.le_of_ble_eq_true rfl)) dX6_leaf_62 ⟨Nat.le_of_ble_eq_true rfl, Nat.le_of_ble_eq_true rfl⟩) [1, 2] [0, 3, 4, 5, 6] rfl (wr := [(O, ob 6 [.ref h, .ref dh, .ref th, .ref HH, .ref IM, .ref SG, .ref P, .ref ca]), (P, ob 3 [.ref ra, .ref sa, .ref ta, .int p1, .int p2, .int p3, .int p4, .int p5]), (ra, aI g 8 rf), (sa, aI g 8 sf), (ta, aI g 8 tf)]) rfl (by decide) (by decide) (fun r0 w0 H locs hq S => ?_)
      obtain ⟨rfl, rfl⟩ := hq
      have S : ST g A ss H locs [(O, ob 6 [.ref h, .ref dh, .ref th, .ref HH, .ref IM, .ref SG, .ref P, .ref ca]), (h, ob 2 [.ref q, .int (nI n), .int (nI ww)]), (q, aI g 32 f), (P, ob 3 [.ref ra, .ref sa, .ref ta, .int p1, .int p2, .int p3, .int p4, .int p5]), (ra, aI g 8 rf), (sa, aI g 8 sf), (ta, aI g 8 tf)] := ST.sub S [0, 5, 6, 1, 2, 3, 4] (by decide) rfl
      refine top_eq (y := nI (nu 0 j)) (hf _ _ (by omega) (by omega)) ?_
      exact ret_I C S hr dX6_leaf_65 ⟨(Eq.trans (show _ = leafA nu ww j 0 by rfl) (chk2_ok (i := j) (j := 0) (by omega) (by omega) (by omega) (by omega)).symm), p1, p2, p3, p4, p5, rf, sf, tf, (rfl)⟩
    by_cases c_3 : y = 1
    · -- case 1
      refine lv_tableIn (tgt := 56) hx hb dX6_leaf_14 (by rw [c_3]; decide) (by rw [c_3]; decide) (by rw [c_3]; rfl) (by decide) ?_
      subst c_3
      refine lv_aload_n hx hb dX6_leaf_56 rfl (lv_at hl 0 rfl) ?_
      refine top_get C S inX6_leaf_X6 rfl 0 rfl 0 (by decide) (by decide +kernel) rfl rfl dX6_leaf_57 ?_
      refine lv_iload_n hx hb dX6_leaf_60 rfl (lv_at hl 2 rfl) ?_
      refine lv_iload_n hx hb dX6_leaf_61 rfl (lv_at hl 1 rfl) ?_
      refine after_I (wc := [(h, ob 2 [.ref q, .int (nI n), .int (nI ww)]), (q, aI g 32 f)]) (y := yX2_number) C S (va_runV (As := [.int 1, .int (nI j)]) (rest := []) C.1 (kX2_number l g h q f n ww 1 j (by first | assumption | omega) (by first | assumption | omega) H.size) (cwV 2 hts gX6_leaf_X2_number rfl rfl rfl (by decide +kernel) ⟨Nat.le_of_ble_eq_true rfl, Nat.le_of_ble_eq_true rfl⟩) (preV_at C S 1 rfl rfl [1, 2] rfl (by decide)) rfl rfl hl.1 rfl (lv_room (Nat.le_of_ble_eq_true rfl)) dX6_leaf_62 ⟨Nat.le_of_ble_eq_true rfl, Nat.le_of_ble_eq_true rfl⟩) [1, 2] [0, 3, 4, 5, 6] rfl (wr := [(O, ob 6 [.ref h, .ref dh, .ref th, .ref HH, .ref IM, .ref SG, .ref P, .ref ca]), (P, ob 3 [.ref ra, .ref sa, .ref ta, .int p1, .int p2, .int p3, .int p4, .int p5]), (ra, aI g 8 rf), (sa, aI g 8 sf), (ta, aI g 8 tf)]) rfl (by decide) (by decide) (fun r0 w0 H locs hq S => ?_)
      obtain ⟨rfl, rfl⟩ := hq
      have S : ST g A ss H locs [(O, ob 6 [.ref h, .ref dh, .ref th, .ref HH, .ref IM, .ref SG, .ref P, .ref ca]), (h, ob 2 [.ref q, .int (nI n), .int (nI ww)]), (q, aI g 32 f), (P, ob 3 [.ref ra, .ref sa, .ref ta, .int p1, .int p2, .int p3, .int p4, .int p5]), (ra, aI g 8 rf), (sa, aI g 8 sf), (ta, aI g 8 tf)] := ST.sub S [0, 5, 6, 1, 2, 3, 4] (by decide) rfl
      refine top_eq (y := nI (nu 1 j)) (hf _ _ (by omega) (by omega)) ?_
      exact ret_I C S hr dX6_leaf_65 ⟨(Eq.trans (show _ = leafA nu ww j 1 by rfl) (chk2_ok (i := j) (j := 1) (by omega) (by omega) (by omega) (by omega)).symm), p1, p2, p3, p4, p5, rf, sf, tf, (rfl)⟩
    by_cases c_4 : y = 2
    · -- case 2
      refine lv_tableIn (tgt := 56) hx hb dX6_leaf_14 (by rw [c_4]; decide) (by rw [c_4]; decide) (by rw [c_4]; rfl) (by decide) ?_
      subst c_4
      refine lv_aload_n hx hb dX6_leaf_56 rfl (lv_at hl 0 rfl) ?_
      refine top_get C S inX6_leaf_X6 rfl 0 rfl 0 (by decide) (by decide +kernel) rfl rfl dX6_leaf_57 ?_
      refine lv_iload_n hx hb dX6_leaf_60 rfl (lv_at hl 2 rfl) ?_
      refine lv_iload_n hx hb dX6_leaf_61 rfl (lv_at hl 1 rfl) ?_
      refine after_I (wc := [(h, ob 2 [.ref q, .int (nI n), .int (nI ww)]), (q, aI g 32 f)]) (y := yX2_number) C S (va_runV (As := [.int 2, .int (nI j)]) (rest := []) C.1 (kX2_number l g h q f n ww 2 j (by first | assumption | omega) (by first | assumption | omega) H.size) (cwV 2 hts gX6_leaf_X2_number rfl rfl rfl (by decide +kernel) ⟨Nat.le_of_ble_eq_true rfl, Nat.le_of_ble_eq_true rfl⟩) (preV_at C S 1 rfl rfl [1, 2] rfl (by decide)) rfl rfl hl.1 rfl (lv_room (Nat.le_of_ble_eq_true rfl)) dX6_leaf_62 ⟨Nat.le_of_ble_eq_true rfl, Nat.le_of_ble_eq_true rfl⟩) [1, 2] [0, 3, 4, 5, 6] rfl (wr := [(O, ob 6 [.ref h, .ref dh, .ref th, .ref HH, .ref IM, .ref SG, .ref P, .ref ca]), (P, ob 3 [.ref ra, .ref sa, .ref ta, .int p1, .int p2, .int p3, .int p4, .int p5]), (ra, aI g 8 rf), (sa, aI g 8 sf), (ta, aI g 8 tf)]) rfl (by decide) (by decide) (fun r0 w0 H locs hq S => ?_)
      obtain ⟨rfl, rfl⟩ := hq
      have S : ST g A ss H locs [(O, ob 6 [.ref h, .ref dh, .ref th, .ref HH, .ref IM, .ref SG, .ref P, .ref ca]), (h, ob 2 [.ref q, .int (nI n), .int (nI ww)]), (q, aI g 32 f), (P, ob 3 [.ref ra, .ref sa, .ref ta, .int p1, .int p2, .int p3, .int p4, .int p5]), (ra, aI g 8 rf), (sa, aI g 8 sf), (ta, aI g 8 tf)] := ST.sub S [0, 5, 6, 1, 2, 3, 4] (by decide) rfl
      refine top_eq (y := nI (nu 2 j)) (hf _ _ (by omega) (by omega)) ?_
      exact ret_I C S hr dX6_leaf_65 ⟨(Eq.trans (show _ = leafA nu ww j 2 by rfl) (chk2_ok (i := j) (j := 2) (by omega) (by omega) (by omega) (by omega)).symm), p1, p2, p3, p4, p5, rf, sf, tf, (rfl)⟩
    by_cases c_5 : y = 3
    · -- case 3
      refine lv_tableIn (tgt := 56) hx hb dX6_leaf_14 (by rw [c_5]; decide) (by rw [c_5]; decide) (by rw [c_5]; rfl) (by decide) ?_
      subst c_5
      refine lv_aload_n hx hb dX6_leaf_56 rfl (lv_at hl 0 rfl) ?_
      refine top_get C S inX6_leaf_X6 rfl 0 rfl 0 (by decide) (by decide +kernel) rfl rfl dX6_leaf_57 ?_
      refine lv_iload_n hx hb dX6_leaf_60 rfl (lv_at hl 2 rfl) ?_
      refine lv_iload_n hx hb dX6_leaf_61 rfl (lv_at hl 1 rfl) ?_
      refine after_I (wc := [(h, ob 2 [.ref q, .int (nI n), .int (nI ww)]), (q, aI g 32 f)]) (y := yX2_number) C S (va_runV (As := [.int 3, .int (nI j)]) (rest := []) C.1 (kX2_number l g h q f n ww 3 j (by first | assumption | omega) (by first | assumption | omega) H.size) (cwV 2 hts gX6_leaf_X2_number rfl rfl rfl (by decide +kernel) ⟨Nat.le_of_ble_eq_true rfl, Nat.le_of_ble_eq_true rfl⟩) (preV_at C S 1 rfl rfl [1, 2] rfl (by decide)) rfl rfl hl.1 rfl (lv_room (Nat.le_of_ble_eq_true rfl)) dX6_leaf_62 ⟨Nat.le_of_ble_eq_true rfl, Nat.le_of_ble_eq_true rfl⟩) [1, 2] [0, 3, 4, 5, 6] rfl (wr := [(O, ob 6 [.ref h, .ref dh, .ref th, .ref HH, .ref IM, .ref SG, .ref P, .ref ca]), (P, ob 3 [.ref ra, .ref sa, .ref ta, .int p1, .int p2, .int p3, .int p4, .int p5]), (ra, aI g 8 rf), (sa, aI g 8 sf), (ta, aI g 8 tf)]) rfl (by decide) (by decide) (fun r0 w0 H locs hq S => ?_)
      obtain ⟨rfl, rfl⟩ := hq
      have S : ST g A ss H locs [(O, ob 6 [.ref h, .ref dh, .ref th, .ref HH, .ref IM, .ref SG, .ref P, .ref ca]), (h, ob 2 [.ref q, .int (nI n), .int (nI ww)]), (q, aI g 32 f), (P, ob 3 [.ref ra, .ref sa, .ref ta, .int p1, .int p2, .int p3, .int p4, .int p5]), (ra, aI g 8 rf), (sa, aI g 8 sf), (ta, aI g 8 tf)] := ST.sub S [0, 5, 6, 1, 2, 3, 4] (by decide) rfl
      refine top_eq (y := nI (nu 3 j)) (hf _ _ (by omega) (by omega)) ?_
      exact ret_I C S hr dX6_leaf_65 ⟨(Eq.trans (show _ = leafA nu ww j 3 by rfl) (chk2_ok (i := j) (j := 3) (by omega) (by omega) (by omega) (by omega)).symm), p1, p2, p3, p4, p5, rf, sf, tf, (rfl)⟩
    by_cases c_6 : y = 4
    · -- case 4
      refine lv_tableIn (tgt := 66) hx hb dX6_leaf_14 (by rw [c_6]; decide) (by rw [c_6]; decide) (by rw [c_6]; rfl) (by decide) ?_
      subst c_6
      refine lv_aload_n hx hb dX6_leaf_66 rfl (lv_at hl 0 rfl) ?_
      refine top_get C S inX6_leaf_X6 rfl 0 rfl 0 (by decide) (by decide +kernel) rfl rfl dX6_leaf_67 ?_
      refine lv_iload_n hx hb dX6_leaf_70 rfl (lv_at hl 1 rfl) ?_
      refine after_I (wc := [(h, ob 2 [.ref q, .int (nI n), .int (nI ww)]), (q, aI g 32 f)]) (y := yX2_isWhole) C S (va_runV (As := [.int (nI j)]) (rest := []) C.1 (kX2_isWhole l g h q f n ww j (by first | assumption | omega) (by first | assumption | omega) H.size) (cwV 1 hts gX6_leaf_X2_isWhole rfl rfl rfl (by decide +kernel) ⟨Nat.le_of_ble_eq_true rfl, Nat.le_of_ble_eq_true rfl⟩) (preV_at C S 1 rfl rfl [1, 2] rfl (by decide)) rfl rfl hl.1 rfl (lv_room (Nat.le_of_ble_eq_true rfl)) dX6_leaf_71 ⟨Nat.le_of_ble_eq_true rfl, Nat.le_of_ble_eq_true rfl⟩) [1, 2] [0, 3, 4, 5, 6] rfl (wr := [(O, ob 6 [.ref h, .ref dh, .ref th, .ref HH, .ref IM, .ref SG, .ref P, .ref ca]), (P, ob 3 [.ref ra, .ref sa, .ref ta, .int p1, .int p2, .int p3, .int p4, .int p5]), (ra, aI g 8 rf), (sa, aI g 8 sf), (ta, aI g 8 tf)]) rfl (by decide) (by decide) (fun r0 w0 H locs hq S => ?_)
      obtain ⟨rfl, rfl⟩ := hq
      have S : ST g A ss H locs [(O, ob 6 [.ref h, .ref dh, .ref th, .ref HH, .ref IM, .ref SG, .ref P, .ref ca]), (h, ob 2 [.ref q, .int (nI n), .int (nI ww)]), (q, aI g 32 f), (P, ob 3 [.ref ra, .ref sa, .ref ta, .int p1, .int p2, .int p3, .int p4, .int p5]), (ra, aI g 8 rf), (sa, aI g 8 sf), (ta, aI g 8 tf)] := ST.sub S [0, 5, 6, 1, 2, 3, 4] (by decide) rfl
      refine br_eqB (tgt := 81) hx hb dX6_leaf_74 (by decide) (fun c_7 => ?_) (fun c_7 => ?_)
      · -- 74 T
        refine lv_iconst (v := 0) hx hb dX6_leaf_81 (by decide) ?_
        exact ret_I C S hr dX6_leaf_82 ⟨(Eq.trans (show _ = leafA nu ww j 4 by rw [show leafA nu ww j 4 = bI (ww.testBit j) from rfl, c_7]; rfl) (chk2_ok (i := j) (j := 4) (by omega) (by omega) (by omega) (by omega)).symm), p1, p2, p3, p4, p5, rf, sf, tf, (rfl)⟩
      · -- 74 F
        refine lv_iconst (v := 1) hx hb dX6_leaf_77 (by decide) ?_
        refine lv_goto (tgt := 82) hx hb dX6_leaf_78 (by decide) ?_
        exact ret_I C S hr dX6_leaf_82 ⟨(Eq.trans (show _ = leafA nu ww j 4 by rw [show leafA nu ww j 4 = bI (ww.testBit j) from rfl, c_7]; rfl) (chk2_ok (i := j) (j := 4) (by omega) (by omega) (by omega) (by omega)).symm), p1, p2, p3, p4, p5, rf, sf, tf, (rfl)⟩
    by_cases c_8 : y = 5
    · -- case 5
      refine lv_tableIn (tgt := 83) hx hb dX6_leaf_14 (by rw [c_8]; decide) (by rw [c_8]; decide) (by rw [c_8]; rfl) (by decide) ?_
      subst c_8
      rcases Nat.eq_zero_or_pos j with rfl | hj0
      · -- j = 0
        refine lv_aload_n hx hb dX6_leaf_83 rfl (lv_at hl 0 rfl) ?_
        refine top_get C S inX6_leaf_X6 rfl 0 rfl 0 (by decide) (by decide +kernel) rfl rfl dX6_leaf_84 ?_
        refine lv_iload_n hx hb dX6_leaf_87 rfl (lv_at hl 1 rfl) ?_
        refine lv_iconst (v := 1) hx hb dX6_leaf_88 (by decide) ?_
        refine lv_isub hx hb dX6_leaf_89 ?_
        refine top_eq (y := (-1)) (by decide) ?_
        refine lv_iload_n hx hb dX6_leaf_90 rfl (lv_at hl 1 rfl) ?_
        refine after_I (wc := [(h, ob 2 [.ref q, .int (nI n), .int (nI ww)]), (q, aI g 32 f)]) (y := yX2_nip) C S (va_runV (As := [.int (-1), .int (nI 0)]) (rest := []) C.1 (kX2_nipn l g h q f n ww 0 H.size) (cwV 2 hts gX6_leaf_X2_nip rfl rfl rfl (by decide +kernel) ⟨Nat.le_of_ble_eq_true rfl, Nat.le_of_ble_eq_true rfl⟩) (preV_at C S 1 rfl rfl [1, 2] rfl (by decide)) rfl rfl hl.1 rfl (lv_room (Nat.le_of_ble_eq_true rfl)) dX6_leaf_91 ⟨Nat.le_of_ble_eq_true rfl, Nat.le_of_ble_eq_true rfl⟩) [1, 2] [0, 3, 4, 5, 6] rfl (wr := [(O, ob 6 [.ref h, .ref dh, .ref th, .ref HH, .ref IM, .ref SG, .ref P, .ref ca]), (P, ob 3 [.ref ra, .ref sa, .ref ta, .int p1, .int p2, .int p3, .int p4, .int p5]), (ra, aI g 8 rf), (sa, aI g 8 sf), (ta, aI g 8 tf)]) rfl (by decide) (by decide) (fun r0 w0 H locs hq S => ?_)
        obtain ⟨rfl, rfl⟩ := hq
        have S : ST g A ss H locs [(O, ob 6 [.ref h, .ref dh, .ref th, .ref HH, .ref IM, .ref SG, .ref P, .ref ca]), (h, ob 2 [.ref q, .int (nI n), .int (nI ww)]), (q, aI g 32 f), (P, ob 3 [.ref ra, .ref sa, .ref ta, .int p1, .int p2, .int p3, .int p4, .int p5]), (ra, aI g 8 rf), (sa, aI g 8 sf), (ta, aI g 8 tf)] := ST.sub S [0, 5, 6, 1, 2, 3, 4] (by decide) rfl
        exact ret_I C S hr dX6_leaf_94 ⟨(Eq.trans (show _ = leafA nu ww 0 5 from rfl) (chk2_ok (i := 0) (j := 5) (by omega) (by omega) (by omega) (by omega)).symm), p1, p2, p3, p4, p5, rf, sf, tf, (rfl)⟩
      · -- 0 < j
        refine lv_aload_n hx hb dX6_leaf_83 rfl (lv_at hl 0 rfl) ?_
        refine top_get C S inX6_leaf_X6 rfl 0 rfl 0 (by decide) (by decide +kernel) rfl rfl dX6_leaf_84 ?_
        refine lv_iload_n hx hb dX6_leaf_87 rfl (lv_at hl 1 rfl) ?_
        refine lv_iconst (v := 1) hx hb dX6_leaf_88 (by decide) ?_
        refine lv_isub hx hb dX6_leaf_89 ?_
        refine top_eq (y := nI (j - 1)) (pk_sub (a := j) (b := 1) (by omega)) ?_
        refine lv_iload_n hx hb dX6_leaf_90 rfl (lv_at hl 1 rfl) ?_
        refine after_I (wc := [(h, ob 2 [.ref q, .int (nI n), .int (nI ww)]), (q, aI g 32 f)]) (y := yX2_nip) C S (va_runV (As := [.int (nI (j - 1)), .int (nI j)]) (rest := []) C.1 (kX2_nips l g h q f n ww nu (j - 1) j (by first | assumption | omega) (by first | assumption | omega) (by first | assumption | omega) (by first | assumption | omega) (by first | assumption | omega) H.size) (cwV 2 hts gX6_leaf_X2_nip rfl rfl rfl (by decide +kernel) ⟨Nat.le_of_ble_eq_true rfl, Nat.le_of_ble_eq_true rfl⟩) (preV_at C S 1 rfl rfl [1, 2] rfl (by decide)) rfl rfl hl.1 rfl (lv_room (Nat.le_of_ble_eq_true rfl)) dX6_leaf_91 ⟨Nat.le_of_ble_eq_true rfl, Nat.le_of_ble_eq_true rfl⟩) [1, 2] [0, 3, 4, 5, 6] rfl (wr := [(O, ob 6 [.ref h, .ref dh, .ref th, .ref HH, .ref IM, .ref SG, .ref P, .ref ca]), (P, ob 3 [.ref ra, .ref sa, .ref ta, .int p1, .int p2, .int p3, .int p4, .int p5]), (ra, aI g 8 rf), (sa, aI g 8 sf), (ta, aI g 8 tf)]) rfl (by decide) (by decide) (fun r0 w0 H locs hq S => ?_)
        obtain ⟨rfl, rfl⟩ := hq
        have S : ST g A ss H locs [(O, ob 6 [.ref h, .ref dh, .ref th, .ref HH, .ref IM, .ref SG, .ref P, .ref ca]), (h, ob 2 [.ref q, .int (nI n), .int (nI ww)]), (q, aI g 32 f), (P, ob 3 [.ref ra, .ref sa, .ref ta, .int p1, .int p2, .int p3, .int p4, .int p5]), (ra, aI g 8 rf), (sa, aI g 8 sf), (ta, aI g 8 tf)] := ST.sub S [0, 5, 6, 1, 2, 3, 4] (by decide) rfl
        exact ret_I C S hr dX6_leaf_94 ⟨(Eq.trans (show _ = leafA nu ww j 5 by rw [show leafA nu ww j 5 = nI (if j = 0 then 0 else nu 2 (j - 1) - nu 2 j) from rfl, if_neg (by omega)]) (chk2_ok (i := j) (j := 5) (by omega) (by omega) (by omega) (by omega)).symm), p1, p2, p3, p4, p5, rf, sf, tf, (rfl)⟩
    by_cases c_9 : y = 6
    · -- case 6
      refine lv_tableIn (tgt := 95) hx hb dX6_leaf_14 (by rw [c_9]; decide) (by rw [c_9]; decide) (by rw [c_9]; rfl) (by decide) ?_
      subst c_9
      refine lv_aload_n hx hb dX6_leaf_95 rfl (lv_at hl 0 rfl) ?_
      refine lv_aload_n hx hb dX6_leaf_96 rfl (lv_at hl 0 rfl) ?_
      refine top_get C S inX6_leaf_X6 rfl 0 rfl 0 (by decide) (by decide +kernel) rfl rfl dX6_leaf_97 ?_
      refine top_getN C S inX6_leaf_X2 rfl 1 rfl 2 (by decide) (by decide +kernel) rfl dX6_leaf_100 ?_
      refine after_V (wc := [(O, ob 6 [.ref h, .ref dh, .ref th, .ref HH, .ref IM, .ref SG, .ref P, .ref ca]), (h, ob 2 [.ref q, .int (nI n), .int (nI ww)]), (q, aI g 32 f), (P, ob 3 [.ref ra, .ref sa, .ref ta, .int p1, .int p2, .int p3, .int p4, .int p5]), (ra, aI g 8 rf), (sa, aI g 8 sf), (ta, aI g 8 tf)]) (y := yX6_stackAll) C S (va_runV (As := [.int (nI ww)]) (rest := []) C.1 (kX6_stackAll l g O dh th HH IM SG ca h q f n ww nu P ra sa ta rf sf tf p1 p2 p3 p4 p5 ww (by first | assumption | omega) (by first | assumption | omega) (by first | assumption | omega) (by first | assumption | omega) H.size) (cwV 1 hts gX6_leaf_X6_stackAll rfl rfl rfl (by decide +kernel) ⟨Nat.le_of_ble_eq_true rfl, Nat.le_of_ble_eq_true rfl⟩) (preV_at C S 0 rfl rfl [0, 1, 2, 3, 4, 5, 6] rfl (by decide)) rfl rfl hl.1 rfl (lv_room (Nat.le_of_ble_eq_true rfl)) dX6_leaf_103 ⟨Nat.le_of_ble_eq_true rfl, Nat.le_of_ble_eq_true rfl⟩) [0, 1, 2, 3, 4, 5, 6] [] rfl (wr := []) rfl (by decide) (by decide) (fun w0 H locs hq S => ?_)
      obtain ⟨rf1, sf1, tf1, hR1, hS1, hT1, rfl⟩ := hq
      have S : ST g A ss H locs [(O, ob 6 [.ref h, .ref dh, .ref th, .ref HH, .ref IM, .ref SG, .ref P, .ref ca]), (h, ob 2 [.ref q, .int (nI n), .int (nI ww)]), (q, aI g 32 f), (P, ob 3 [.ref ra, .ref sa, .ref ta, .int (nI n), .int (nI ww), .int p3, .int p4, .int p5]), (ra, aI g 8 rf1), (sa, aI g 8 sf1), (ta, aI g 8 tf1)] := S
      refine lv_aload_n hx hb dX6_leaf_106 rfl (lv_at hl 0 rfl) ?_
      refine top_get C S inX6_leaf_X6 rfl 0 rfl 6 (by decide) (by decide +kernel) rfl rfl dX6_leaf_107 ?_
      refine top_getN C S inX6_leaf_X3 rfl 3 rfl 0 (by decide) (by decide +kernel) rfl dX6_leaf_110 ?_
      refine lv_iload_n hx hb dX6_leaf_113 rfl (lv_at hl 1 rfl) ?_
      refine top_ild C S 4 rfl (j := j) rfl (by omega) (by decide) dX6_leaf_114 ?_
      refine top_eq (y := nI (R0 nu j)) (hR1 _ (by omega)) ?_
      exact ret_I C S hr dX6_leaf_115 ⟨(Eq.trans (show _ = leafA nu ww j 6 by rfl) (chk2_ok (i := j) (j := 6) (by omega) (by omega) (by omega) (by omega)).symm), (nI n), (nI ww), p3, p4, p5, rf1, sf1, tf1, (rfl)⟩
    · -- default
      refine lv_tableOut (tgt := 116) hx hb dX6_leaf_14 (sw_out y (hi := 6) (by decide) (fun k hk => by rcases (show k = 0 ∨ k = 1 ∨ k = 2 ∨ k = 3 ∨ k = 4 ∨ k = 5 ∨ k = 6 by omega) with rfl | rfl | rfl | rfl | rfl | rfl | rfl <;> first | exact c_2 | exact c_3 | exact c_4 | exact c_5 | exact c_6 | exact c_8 | exact c_9)) (by decide) ?_
      refine lv_iconst (v := (-1)) hx hb dX6_leaf_116 (by decide) ?_
      exact ret_I C S hr dX6_leaf_117 ⟨((chk2_bad2 (sw_bad (k := 6) (by decide) (fun k9 hk9 => by rcases (show k9 = 0 ∨ k9 = 1 ∨ k9 = 2 ∨ k9 = 3 ∨ k9 = 4 ∨ k9 = 5 ∨ k9 = 6 by omega) with rfl | rfl | rfl | rfl | rfl | rfl | rfl <;> first | exact c_2 | exact c_3 | exact c_4 | exact c_5 | exact c_6 | exact c_8 | exact c_9))).symm), p1, p2, p3, p4, p5, rf, sf, tf, (rfl)⟩
  · -- 8 F
    refine lv_iconst (v := (-1)) hx hb dX6_leaf_11 (by decide) ?_
    exact ret_I C S hr dX6_leaf_12 ⟨((chk2_bad1 (exists_bad hn c_1)).symm), p1, p2, p3, p4, p5, rf, sf, tf, (rfl)⟩
