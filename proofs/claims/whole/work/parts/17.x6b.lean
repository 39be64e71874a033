theorem inX6_bend_X2 : ∀ w ∈ wsX20, w ∈ wsX6_bend := by decide +kernel
theorem inX6_bend_X3 : ∀ w ∈ wsX30, w ∈ wsX6_bend := by decide +kernel
theorem inX6_bend_X6 : ∀ w ∈ wsX60, w ∈ wsX6_bend := by decide +kernel
set_option maxRecDepth 100000 in
set_option maxHeartbeats 4000000 in
theorem kX6_bend (l : Launch) (g : GG) (O : Nat) (dh : Nat) (th : Nat) (HH : Nat) (IM : Nat) (SG : Nat) (ca : Nat) (h : Nat) (q : Nat) (f : Nat → Int32) (n : Nat) (ww : Nat) (nu : Nat → Nat → Nat) (P : Nat) (ra : Nat) (sa : Nat) (ta : Nat) (rf : Nat → Int32) (sf : Nat → Int32) (tf : Nat → Int32) (p1 : Int32) (p2 : Int32) (p3 : Int32) (p4 : Int32) (p5 : Int32) (x : Int32) (y : Int32) (hn1 : 1 ≤ n) (hn : n ≤ 8) (hww : ww < 256) (hf : ∀ a i, a < 4 → i < n → f (a * 8 + i) = nI (nu a i)) (hB : HB nu n) : KI l g yX6_bend wsX6_bend 4 91 [.ref O, .int x, .int y] [(O, ob 6 [.ref h, .ref dh, .ref th, .ref HH, .ref IM, .ref SG, .ref P, .ref ca]), (h, ob 2 [.ref q, .int (nI n), .int (nI ww)]), (q, aI g 32 f), (P, ob 3 [.ref ra, .ref sa, .ref ta, .int p1, .int p2, .int p3, .int p4, .int p5]), (ra, aI g 8 rf), (sa, aI g 8 sf), (ta, aI g 8 tf)] (fun (r : Int32) (w' : va_W) => r = (chk2 (-1) 1000 3 (bendA nu n ww) x y) ∧ ∃ (z1' : Int32), ∃ (z2' : Int32), ∃ (z3' : Int32), ∃ (z4' : Int32), ∃ (z5' : Int32), ∃ (rf' : Nat → Int32), ∃ (sf' : Nat → Int32), ∃ (tf' : Nat → Int32), w' = [(O, ob 6 [.ref h, .ref dh, .ref th, .ref HH, .ref IM, .ref SG, .ref P, .ref ca]), (h, ob 2 [.ref q, .int (nI n), .int (nI ww)]), (q, aI g 32 f), (P, ob 3 [.ref ra, .ref sa, .ref ta, .int z1', .int z2', .int z3', .int z4', .int z5']), (ra, aI g 8 rf'), (sa, aI g 8 sf'), (ta, aI g 8 tf')]) := by
  refine kI_of (cc := cX6_bend) (maxL := 3) (by decide) rfl (Nat.le_of_ble_eq_true rfl) ?_
  intro pp ee ss mm bel mth cd A ls C S hr hl
  obtain ⟨hx, hb, hml, hown, hts⟩ := id C.1
  have hl : lv_has ls 3 [(0, .ref O), (1, .int x), (2, .int y)] := hl
  obtain ⟨H, hH⟩ : ∃ H, H = ss.heap := ⟨_, rfl⟩
  obtain ⟨locs, hL0⟩ : ∃ L : List Loc, L = [] := ⟨_, rfl⟩
  rw [← hH, ← hL0] at S ⊢
  have hca : ∀ i, i < n → nu 2 i ≤ 30 := fun i9 h9 => (hB i9 h9).2.2.1
  have hSb : ∀ i, i < n → nu 1 i ≤ 9 := fun i9 h9 => (hB i9 h9).2.1.2
  have hTb : ∀ i, i < n → nu 3 i ≤ 99 := fun i9 h9 => (hB i9 h9).2.2.2.2
  have hRb : ∀ i, i < n → R0 nu i ≤ 240 := RC_le hn hca
  refine lv_iload_n hx hb dX6_bend_0 rfl (lv_at hl 1 rfl) ?_
  refine after_I (wc := []) (y := yX6_isLoad) C S (va_runS (As := [.int x]) (rest := []) C.1 (kX6_isLoad l g x H.size) (va_cwS 1 hts gX6_bend_X6_isLoad rfl rfl rfl (by decide +kernel) ⟨Nat.le_of_ble_eq_true rfl, Nat.le_of_ble_eq_true rfl⟩) (preS_at C S [] rfl (by decide)) rfl rfl hl.1 rfl (lv_room (Nat.le_of_ble_eq_true rfl)) dX6_bend_1 ⟨Nat.le_of_ble_eq_true rfl, Nat.le_of_ble_eq_true rfl⟩) [] [0, 1, 2, 3, 4, 5, 6] rfl (wr := [(O, ob 6 [.ref h, .ref dh, .ref th, .ref HH, .ref IM, .ref SG, .ref P, .ref ca]), (h, ob 2 [.ref q, .int (nI n), .int (nI ww)]), (q, aI g 32 f), (P, ob 3 [.ref ra, .ref sa, .ref ta, .int p1, .int p2, .int p3, .int p4, .int p5]), (ra, aI g 8 rf), (sa, aI g 8 sf), (ta, aI g 8 tf)]) rfl (by decide) (by decide) (fun r0 w0 H locs hq S => ?_)
  obtain ⟨rfl, rfl⟩ := hq
  have S : ST g A ss H locs [(O, ob 6 [.ref h, .ref dh, .ref th, .ref HH, .ref IM, .ref SG, .ref P, .ref ca]), (h, ob 2 [.ref q, .int (nI n), .int (nI ww)]), (q, aI g 32 f), (P, ob 3 [.ref ra, .ref sa, .ref ta, .int p1, .int p2, .int p3, .int p4, .int p5]), (ra, aI g 8 rf), (sa, aI g 8 sf), (ta, aI g 8 tf)] := S
  refine br_eqB (tgt := 16) hx hb dX6_bend_4 (by decide) (fun c_1 => ?_) (fun c_1 => ?_)
  · -- 4 T
    refine lv_iconst (v := (-1)) hx hb dX6_bend_16 (by decide) ?_
    exact ret_I C S hr dX6_bend_17 ⟨((chk2_bad1 (isLoad_bad c_1)).symm), p1, p2, p3, p4, p5, rf, sf, tf, (rfl)⟩
  · -- 4 F
    obtain ⟨p, hp, rfl⟩ := isLoad_ok c_1
    refine lv_iload_n hx hb dX6_bend_7 rfl (lv_at hl 2 rfl) ?_
    refine lv_if_lt (tgt := 16) hx hb dX6_bend_8 (by decide) (fun c_2 => ?_) (fun c_2 => ?_)
    · -- 8 T
      refine lv_iconst (v := (-1)) hx hb dX6_bend_16 (by decide) ?_
      exact ret_I C S hr dX6_bend_17 ⟨((chk2_bad2 (ok_neg c_2)).symm), p1, p2, p3, p4, p5, rf, sf, tf, (rfl)⟩
    · -- 8 F
      refine lv_iload_n hx hb dX6_bend_11 rfl (lv_at hl 2 rfl) ?_
      refine lv_iconst (v := 2) hx hb dX6_bend_12 (by decide) ?_
      refine lv_icmp_le (tgt := 18) hx hb dX6_bend_13 (by decide) (fun c_3 => ?_) (fun c_3 => ?_)
      · -- 13 T
        obtain ⟨w, hw, rfl⟩ := ok_le (k := 2) rfl (by decide) c_2 c_3
        refine lv_aload_n hx hb dX6_bend_18 rfl (lv_at hl 0 rfl) ?_
        refine lv_aload_n hx hb dX6_bend_19 rfl (lv_at hl 0 rfl) ?_
        refine top_get C S inX6_bend_X6 rfl 0 rfl 0 (by decide) (by decide +kernel) rfl rfl dX6_bend_20 ?_
        refine top_getN C S inX6_bend_X2 rfl 1 rfl 2 (by decide) (by decide +kernel) rfl dX6_bend_23 ?_
        refine after_V (wc := [(O, ob 6 [.ref h, .ref dh, .ref th, .ref HH, .ref IM, .ref SG, .ref P, .ref ca]), (h, ob 2 [.ref q, .int (nI n), .int (nI ww)]), (q, aI g 32 f), (P, ob 3 [.ref ra, .ref sa, .ref ta, .int p1, .int p2, .int p3, .int p4, .int p5]), (ra, aI g 8 rf), (sa, aI g 8 sf), (ta, aI g 8 tf)]) (y := yX6_stackAll) C S (va_runV (As := [.int (nI ww)]) (rest := []) C.1 (kX6_stackAll l g O dh th HH IM SG ca h q f n ww nu P ra sa ta rf sf tf p1 p2 p3 p4 p5 ww (by first | assumption | omega) (by first | assumption | omega) (by first | assumption | omega) hww H.size) (cwV 1 hts gX6_bend_X6_stackAll rfl rfl rfl (by decide +kernel) ⟨Nat.le_of_ble_eq_true rfl, Nat.le_of_ble_eq_true rfl⟩) (preV_at C S 0 rfl rfl [0, 1, 2, 3, 4, 5, 6] rfl (by decide)) rfl rfl hl.1 rfl (lv_room (Nat.le_of_ble_eq_true rfl)) dX6_bend_26 ⟨Nat.le_of_ble_eq_true rfl, Nat.le_of_ble_eq_true rfl⟩) [0, 1, 2, 3, 4, 5, 6] [] rfl (wr := []) rfl (by decide) (by decide) (fun w0 H locs hq S => ?_)
        obtain ⟨rf1, sf1, tf1, hR1, hS1, hT1, rfl⟩ := hq
        have S : ST g A ss H locs [(O, ob 6 [.ref h, .ref dh, .ref th, .ref HH, .ref IM, .ref SG, .ref P, .ref ca]), (h, ob 2 [.ref q, .int (nI n), .int (nI ww)]), (q, aI g 32 f), (P, ob 3 [.ref ra, .ref sa, .ref ta, .int (nI n), .int (nI ww), .int p3, .int p4, .int p5]), (ra, aI g 8 rf1), (sa, aI g 8 sf1), (ta, aI g 8 tf1)] := S
        refine lv_aload_n hx hb dX6_bend_29 rfl (lv_at hl 0 rfl) ?_
        refine top_get C S inX6_bend_X6 rfl 0 rfl 6 (by decide) (by decide +kernel) rfl rfl dX6_bend_30 ?_
        refine lv_iload_n hx hb dX6_bend_33 rfl (lv_at hl 1 rfl) ?_
        refine after_I (wc := [(P, ob 3 [.ref ra, .ref sa, .ref ta, .int (nI n), .int (nI ww), .int p3, .int p4, .int p5]), (ra, aI g 8 rf1), (sa, aI g 8 sf1), (ta, aI g 8 tf1)]) (y := yX3_press) C S (va_runV (As := [.int (nI p)]) (rest := []) C.1 (kX3_press l g P ra sa ta rf1 sf1 tf1 n ww p3 p4 p5 (R0 nu) (nu 1) (nu 3) p (by first | assumption | omega) (by first | assumption | omega) (by first | assumption | omega) (by first | assumption | omega) (by first | assumption | omega) (by first | assumption | omega) (by first | assumption | omega) (by first | assumption | omega) (by first | assumption | omega) H.size) (cwV 1 hts gX6_bend_X3_press rfl rfl rfl (by decide +kernel) ⟨Nat.le_of_ble_eq_true rfl, Nat.le_of_ble_eq_true rfl⟩) (preV_at C S 3 rfl rfl [3, 4, 5, 6] rfl (by decide)) rfl rfl hl.1 rfl (lv_room (Nat.le_of_ble_eq_true rfl)) dX6_bend_34 ⟨Nat.le_of_ble_eq_true rfl, Nat.le_of_ble_eq_true rfl⟩) [3, 4, 5, 6] [0, 1, 2] rfl (wr := [(O, ob 6 [.ref h, .ref dh, .ref th, .ref HH, .ref IM, .ref SG, .ref P, .ref ca]), (h, ob 2 [.ref q, .int (nI n), .int (nI ww)]), (q, aI g 32 f)]) rfl (by decide) (by decide) (fun r0 w0 H locs hq S => ?_)
        obtain ⟨rfl, rfl⟩ := hq
        have S : ST g A ss H locs [(O, ob 6 [.ref h, .ref dh, .ref th, .ref HH, .ref IM, .ref SG, .ref P, .ref ca]), (h, ob 2 [.ref q, .int (nI n), .int (nI ww)]), (q, aI g 32 f), (P, ob 3 [.ref ra, .ref sa, .ref ta, .int (nI n), .int (nI ww), .int (nI (uppN (nu 1) (R0 nu) ww p n)), .int (nI (lowN (nu 1) (R0 nu) ww p n)), .int (nI ((pr (nu 1) (R0 nu) ww p n).1))]), (ra, aI g 8 rf1), (sa, aI g 8 sf1), (ta, aI g 8 tf1)] := S
        refine br_neB (tgt := 43) hx hb dX6_bend_37 (by decide) (fun c_4 => ?_) (fun c_4 => ?_)
        · -- 37 T
          have hpos := of_decide_eq_true c_4
          have eU : uppN (nu 1) (R0 nu) ww p n ≤ 20000 := upp_le hn (by omega) hSb hRb
          have eL : lowN (nu 1) (R0 nu) ww p n ≤ 72 := low_le hn hSb hRb
          refine lv_iload_n hx hb dX6_bend_43 rfl (lv_at hl 2 rfl) ?_
          refine lv_iconst (v := 2) hx hb dX6_bend_44 (by decide) ?_
          refine bn_ine (tgt := 58) (a := w) (b := 2) hx hb rfl rfl (by omega) (by omega) dX6_bend_45 (by decide) (fun c_5 => ?_) (fun c_5 => ?_)
          · -- 45 T
            refine lv_aload_n hx hb dX6_bend_58 rfl (lv_at hl 0 rfl) ?_
            refine top_get C S inX6_bend_X6 rfl 0 rfl 6 (by decide) (by decide +kernel) rfl rfl dX6_bend_59 ?_
            refine top_getN C S inX6_bend_X3 rfl 3 rfl 5 (by decide) (by decide +kernel) rfl dX6_bend_62 ?_
            refine lv_aload_n hx hb dX6_bend_65 rfl (lv_at hl 0 rfl) ?_
            refine top_get C S inX6_bend_X6 rfl 0 rfl 6 (by decide) (by decide +kernel) rfl rfl dX6_bend_66 ?_
            refine top_getN C S inX6_bend_X3 rfl 3 rfl 6 (by decide) (by decide +kernel) rfl dX6_bend_69 ?_
            refine lv_iload_n hx hb dX6_bend_72 rfl (lv_at hl 2 rfl) ?_
            refine after_I (wc := []) (y := yX6_partInLowestTerms) C S (va_runS (As := [.int (nI (uppN (nu 1) (R0 nu) ww p n)), .int (nI (lowN (nu 1) (R0 nu) ww p n)), .int (nI w)]) (rest := []) C.1 (kX6_partInLowestTerms l g (uppN (nu 1) (R0 nu) ww p n) (lowN (nu 1) (R0 nu) ww p n) w (by omega) (by omega) hw H.size) (va_cwS 3 hts gX6_bend_X6_partInLowestTerms rfl rfl rfl (by decide +kernel) ⟨Nat.le_of_ble_eq_true rfl, Nat.le_of_ble_eq_true rfl⟩) (preS_at C S [] rfl (by decide)) rfl rfl hl.1 rfl (lv_room (Nat.le_of_ble_eq_true rfl)) dX6_bend_73 ⟨Nat.le_of_ble_eq_true rfl, Nat.le_of_ble_eq_true rfl⟩) [] [0, 1, 2, 3, 4, 5, 6] rfl (wr := [(O, ob 6 [.ref h, .ref dh, .ref th, .ref HH, .ref IM, .ref SG, .ref P, .ref ca]), (h, ob 2 [.ref q, .int (nI n), .int (nI ww)]), (q, aI g 32 f), (P, ob 3 [.ref ra, .ref sa, .ref ta, .int (nI n), .int (nI ww), .int (nI (uppN (nu 1) (R0 nu) ww p n)), .int (nI (lowN (nu 1) (R0 nu) ww p n)), .int (nI ((pr (nu 1) (R0 nu) ww p n).1))]), (ra, aI g 8 rf1), (sa, aI g 8 sf1), (ta, aI g 8 tf1)]) rfl (by decide) (by decide) (fun r0 w0 H locs hq S => ?_)
            obtain ⟨rfl, rfl⟩ := hq
            have S : ST g A ss H locs [(O, ob 6 [.ref h, .ref dh, .ref th, .ref HH, .ref IM, .ref SG, .ref P, .ref ca]), (h, ob 2 [.ref q, .int (nI n), .int (nI ww)]), (q, aI g 32 f), (P, ob 3 [.ref ra, .ref sa, .ref ta, .int (nI n), .int (nI ww), .int (nI (uppN (nu 1) (R0 nu) ww p n)), .int (nI (lowN (nu 1) (R0 nu) ww p n)), .int (nI ((pr (nu 1) (R0 nu) ww p n).1))]), (ra, aI g 8 rf1), (sa, aI g 8 sf1), (ta, aI g 8 tf1)] := S
            exact ret_I C S hr dX6_bend_76 ⟨(Eq.trans (show _ = bendA nu n ww p w by unfold bendA; rw [if_pos hpos]; rw [if_neg c_5]; split <;> rfl) (chk2_ok (i := p) (j := w) (by omega) (by omega) (by decide) (by decide)).symm), (nI n), (nI ww), (nI (uppN (nu 1) (R0 nu) ww p n)), (nI (lowN (nu 1) (R0 nu) ww p n)), (nI ((pr (nu 1) (R0 nu) ww p n).1)), rf1, sf1, tf1, (rfl)⟩
          · -- 45 F
            refine lv_aload_n hx hb dX6_bend_48 rfl (lv_at hl 0 rfl) ?_
            refine top_get C S inX6_bend_X6 rfl 0 rfl 6 (by decide) (by decide +kernel) rfl rfl dX6_bend_49 ?_
            refine after_I (wc := [(P, ob 3 [.ref ra, .ref sa, .ref ta, .int (nI n), .int (nI ww), .int (nI (uppN (nu 1) (R0 nu) ww p n)), .int (nI (lowN (nu 1) (R0 nu) ww p n)), .int (nI ((pr (nu 1) (R0 nu) ww p n).1))]), (ra, aI g 8 rf1), (sa, aI g 8 sf1), (ta, aI g 8 tf1)]) (y := yX3_cut) C S (va_runV (As := []) (rest := []) C.1 (kX3_cut l g P ra sa ta rf1 sf1 tf1 n ww (uppN (nu 1) (R0 nu) ww p n) (lowN (nu 1) (R0 nu) ww p n) (nI ((pr (nu 1) (R0 nu) ww p n).1)) (upp_le hn (by omega) hSb hRb) (low_le hn hSb hRb) H.size) (cwV 0 hts gX6_bend_X3_cut rfl rfl rfl (by decide +kernel) ⟨Nat.le_of_ble_eq_true rfl, Nat.le_of_ble_eq_true rfl⟩) (preV_at C S 3 rfl rfl [3, 4, 5, 6] rfl (by decide)) rfl rfl hl.1 rfl (lv_room (Nat.le_of_ble_eq_true rfl)) dX6_bend_52 ⟨Nat.le_of_ble_eq_true rfl, Nat.le_of_ble_eq_true rfl⟩) [3, 4, 5, 6] [0, 1, 2] rfl (wr := [(O, ob 6 [.ref h, .ref dh, .ref th, .ref HH, .ref IM, .ref SG, .ref P, .ref ca]), (h, ob 2 [.ref q, .int (nI n), .int (nI ww)]), (q, aI g 32 f)]) rfl (by decide) (by decide) (fun r0 w0 H locs hq S => ?_)
            obtain ⟨rfl, rfl⟩ := hq
            have S : ST g A ss H locs [(O, ob 6 [.ref h, .ref dh, .ref th, .ref HH, .ref IM, .ref SG, .ref P, .ref ca]), (h, ob 2 [.ref q, .int (nI n), .int (nI ww)]), (q, aI g 32 f), (P, ob 3 [.ref ra, .ref sa, .ref ta, .int (nI n), .int (nI ww), .int (nI (uppN (nu 1) (R0 nu) ww p n)), .int (nI (lowN (nu 1) (R0 nu) ww p n)), .int (nI ((pr (nu 1) (R0 nu) ww p n).1))]), (ra, aI g 8 rf1), (sa, aI g 8 sf1), (ta, aI g 8 tf1)] := S
            refine lv_goto (tgt := 76) hx hb dX6_bend_55 (by decide) ?_
            exact ret_I C S hr dX6_bend_76 ⟨(Eq.trans (show _ = bendA nu n ww p w by unfold bendA; rw [if_pos hpos]; rw [if_pos c_5]; unfold cutI; rw [if_neg (by omega)]) (chk2_ok (i := p) (j := w) (by omega) (by omega) (by decide) (by decide)).symm), (nI n), (nI ww), (nI (uppN (nu 1) (R0 nu) ww p n)), (nI (lowN (nu 1) (R0 nu) ww p n)), (nI ((pr (nu 1) (R0 nu) ww p n).1)), rf1, sf1, tf1, (rfl)⟩
        · -- 37 F
          refine lv_bipush (v := (-9)) hx hb dX6_bend_40 (by decide) ?_
          exact ret_I C S hr dX6_bend_42 ⟨(Eq.trans (show _ = bendA nu n ww p w by unfold bendA; rw [if_neg (of_decide_eq_false c_4)]) (chk2_ok (i := p) (j := w) (by omega) (by omega) (by decide) (by decide)).symm), (nI n), (nI ww), (nI (uppN (nu 1) (R0 nu) ww p n)), (nI (lowN (nu 1) (R0 nu) ww p n)), (nI ((pr (nu 1) (R0 nu) ww p n).1)), rf1, sf1, tf1, (rfl)⟩
      · -- 13 F
        refine lv_iconst (v := (-1)) hx hb dX6_bend_16 (by decide) ?_
        exact ret_I C S hr dX6_bend_17 ⟨((chk2_bad2 (ok_nle (k := 2) rfl (by decide) c_3)).symm), p1, p2, p3, p4, p5, rf, sf, tf, (rfl)⟩

theorem inX6_bears_X2 : ∀ w ∈ wsX20, w ∈ wsX6_bears := by decide +kernel
theorem inX6_bears_X3 : ∀ w ∈ wsX30, w ∈ wsX6_bears := by decide +kernel
theorem inX6_bears_X6 : ∀ w ∈ wsX60, w ∈ wsX6_bears := by decide +kernel
set_option maxRecDepth 100000 in
set_option maxHeartbeats 4000000 in
theorem kX6_bears (l : Launch) (g : GG) (O : Nat) (dh : Nat) (th : Nat) (HH : Nat) (IM : Nat) (SG : Nat) (ca : Nat) (h : Nat) (q : Nat) (f : Nat → Int32) (n : Nat) (ww : Nat) (nu : Nat → Nat → Nat) (P : Nat) (ra : Nat) (sa : Nat) (ta : Nat) (rf : Nat → Int32) (sf : Nat → Int32) (tf : Nat → Int32) (p1 : Int32) (p2 : Int32) (p3 : Int32) (p4 : Int32) (p5 : Int32) (x : Int32) (y : Int32) (z : Int32) (hn1 : 1 ≤ n) (hn : n ≤ 8) (hww : ww < 256) (hf : ∀ a i, a < 4 → i < n → f (a * 8 + i) = nI (nu a i)) (hB : HB nu n) : KI l g yX6_bears wsX6_bears 4 91 [.ref O, .int x, .int y, .int z] [(O, ob 6 [.ref h, .ref dh, .ref th, .ref HH, .ref IM, .ref SG, .ref P, .ref ca]), (h, ob 2 [.ref q, .int (nI n), .int (nI ww)]), (q, aI g 32 f), (P, ob 3 [.ref ra, .ref sa, .ref ta, .int p1, .int p2, .int p3, .int p4, .int p5]), (ra, aI g 8 rf), (sa, aI g 8 sf), (ta, aI g 8 tf)] (fun (r : Int32) (w' : va_W) => r = (chk3 (-1) n 1000 3 (bearsA nu n ww) x y z) ∧ ∃ (z1' : Int32), ∃ (z2' : Int32), ∃ (z3' : Int32), ∃ (z4' : Int32), ∃ (z5' : Int32), ∃ (rf' : Nat → Int32), ∃ (sf' : Nat → Int32), ∃ (tf' : Nat → Int32), w' = [(O, ob 6 [.ref h, .ref dh, .ref th, .ref HH, .ref IM, .ref SG, .ref P, .ref ca]), (h, ob 2 [.ref q, .int (nI n), .int (nI ww)]), (q, aI g 32 f), (P, ob 3 [.ref ra, .ref sa, .ref ta, .int z1', .int z2', .int z3', .int z4', .int z5']), (ra, aI g 8 rf'), (sa, aI g 8 sf'), (ta, aI g 8 tf')]) := by
  refine kI_of (cc := cX6_bears) (maxL := 4) (by decide) rfl (Nat.le_of_ble_eq_true rfl) ?_
  intro pp ee ss mm bel mth cd A ls C S hr hl
  obtain ⟨hx, hb, hml, hown, hts⟩ := id C.1
  have hl : lv_has ls 4 [(0, .ref O), (1, .int x), (2, .int y), (3, .int z)] := hl
  obtain ⟨H, hH⟩ : ∃ H, H = ss.heap := ⟨_, rfl⟩
  obtain ⟨locs, hL0⟩ : ∃ L : List Loc, L = [] := ⟨_, rfl⟩
  rw [← hH, ← hL0] at S ⊢
  have hca : ∀ i, i < n → nu 2 i ≤ 30 := fun i9 h9 => (hB i9 h9).2.2.1
  have hSb : ∀ i, i < n → nu 1 i ≤ 9 := fun i9 h9 => (hB i9 h9).2.1.2
  have hTb : ∀ i, i < n → nu 3 i ≤ 99 := fun i9 h9 => (hB i9 h9).2.2.2.2
  have hRb : ∀ i, i < n → R0 nu i ≤ 240 := RC_le hn hca
  refine lv_aload_n hx hb dX6_bears_0 rfl (lv_at hl 0 rfl) ?_
  refine top_get C S inX6_bears_X6 rfl 0 rfl 0 (by decide) (by decide +kernel) rfl rfl dX6_bears_1 ?_
  refine lv_iload_n hx hb dX6_bears_4 rfl (lv_at hl 1 rfl) ?_
  refine after_I (wc := [(h, ob 2 [.ref q, .int (nI n), .int (nI ww)]), (q, aI g 32 f)]) (y := yX2_exists) C S (va_runV (As := [.int x]) (rest := []) C.1 (kX2_exists l g h q f n ww x H.size) (cwV 1 hts gX6_bears_X2_exists rfl rfl rfl (by decide +kernel) ⟨Nat.le_of_ble_eq_true rfl, Nat.le_of_ble_eq_true rfl⟩) (preV_at C S 1 rfl rfl [1, 2] rfl (by decide)) rfl rfl hl.1 rfl (lv_room (Nat.le_of_ble_eq_true rfl)) dX6_bears_5 ⟨Nat.le_of_ble_eq_true rfl, Nat.le_of_ble_eq_true rfl⟩) [1, 2] [0, 3, 4, 5, 6] rfl (wr := [(O, ob 6 [.ref h, .ref dh, .ref th, .ref HH, .ref IM, .ref SG, .ref P, .ref ca]), (P, ob 3 [.ref ra, .ref sa, .ref ta, .int p1, .int p2, .int p3, .int p4, .int p5]), (ra, aI g 8 rf), (sa, aI g 8 sf), (ta, aI g 8 tf)]) rfl (by decide) (by decide) (fun r0 w0 H locs hq S => ?_)
  obtain ⟨rfl, rfl⟩ := hq
  have S : ST g A ss H locs [(O, ob 6 [.ref h, .ref dh, .ref th, .ref HH, .ref IM, .ref SG, .ref P, .ref ca]), (h, ob 2 [.ref q, .int (nI n), .int (nI ww)]), (q, aI g 32 f), (P, ob 3 [.ref ra, .ref sa, .ref ta, .int p1, .int p2, .int p3, .int p4, .int p5]), (ra, aI g 8 rf), (sa, aI g 8 sf), (ta, aI g 8 tf)] := ST.sub S [0, 5, 6, 1, 2, 3, 4] (by decide) rfl
  refine br_eqB (tgt := 27) hx hb dX6_bears_8 (by decide) (fun c_1 => ?_) (fun c_1 => ?_)
  · -- 8 T
    refine lv_iconst (v := (-1)) hx hb dX6_bears_27 (by decide) ?_
    exact ret_I C S hr dX6_bears_28 ⟨((chk3_bad1 (exists_bad hn c_1)).symm), p1, p2, p3, p4, p5, rf, sf, tf, (rfl)⟩
  · -- 8 F
    obtain ⟨j, hj, rfl⟩ := exists_ok hn c_1
    refine lv_iload_n hx hb dX6_bears_11 rfl (lv_at hl 2 rfl) ?_
    refine after_I (wc := []) (y := yX6_isLoad) C S (va_runS (As := [.int y]) (rest := []) C.1 (kX6_isLoad l g y H.size) (va_cwS 1 hts gX6_bears_X6_isLoad rfl rfl rfl (by decide +kernel) ⟨Nat.le_of_ble_eq_true rfl, Nat.le_of_ble_eq_true rfl⟩) (preS_at C S [] rfl (by decide)) rfl rfl hl.1 rfl (lv_room (Nat.le_of_ble_eq_true rfl)) dX6_bears_12 ⟨Nat.le_of_ble_eq_true rfl, Nat.le_of_ble_eq_true rfl⟩) [] [0, 1, 2, 3, 4, 5, 6] rfl (wr := [(O, ob 6 [.ref h, .ref dh, .ref th, .ref HH, .ref IM, .ref SG, .ref P, .ref ca]), (h, ob 2 [.ref q, .int (nI n), .int (nI ww)]), (q, aI g 32 f), (P, ob 3 [.ref ra, .ref sa, .ref ta, .int p1, .int p2, .int p3, .int p4, .int p5]), (ra, aI g 8 rf), (sa, aI g 8 sf), (ta, aI g 8 tf)]) rfl (by decide) (by decide) (fun r0 w0 H locs hq S => ?_)
    obtain ⟨rfl, rfl⟩ := hq
    have S : ST g A ss H locs [(O, ob 6 [.ref h, .ref dh, .ref th, .ref HH, .ref IM, .ref SG, .ref P, .ref ca]), (h, ob 2 [.ref q, .int (nI n), .int (nI ww)]), (q, aI g 32 f), (P, ob 3 [.ref ra, .ref sa, .ref ta, .int p1, .int p2, .int p3, .int p4, .int p5]), (ra, aI g 8 rf), (sa, aI g 8 sf), (ta, aI g 8 tf)] := S
    refine br_eqB (tgt := 27) hx hb dX6_bears_15 (by decide) (fun c_2 => ?_) (fun c_2 => ?_)
    · -- 15 T
      refine lv_iconst (v := (-1)) hx hb dX6_bears_27 (by decide) ?_
      exact ret_I C S hr dX6_bears_28 ⟨((chk3_bad2 (isLoad_bad c_2)).symm), p1, p2, p3, p4, p5, rf, sf, tf, (rfl)⟩
    · -- 15 F
      obtain ⟨p, hp, rfl⟩ := isLoad_ok c_2
      refine lv_iload_n hx hb dX6_bears_18 rfl (lv_at hl 3 rfl) ?_
      refine lv_if_lt (tgt := 27) hx hb dX6_bears_19 (by decide) (fun c_3 => ?_) (fun c_3 => ?_)
      · -- 19 T
        refine lv_iconst (v := (-1)) hx hb dX6_bears_27 (by decide) ?_
        exact ret_I C S hr dX6_bears_28 ⟨((chk3_bad3 (ok_neg c_3)).symm), p1, p2, p3, p4, p5, rf, sf, tf, (rfl)⟩
      · -- 19 F
        refine lv_iload_n hx hb dX6_bears_22 rfl (lv_at hl 3 rfl) ?_
        refine lv_iconst (v := 2) hx hb dX6_bears_23 (by decide) ?_
        refine lv_icmp_le (tgt := 29) hx hb dX6_bears_24 (by decide) (fun c_4 => ?_) (fun c_4 => ?_)
        · -- 24 T
          obtain ⟨w, hw, rfl⟩ := ok_le (k := 2) rfl (by decide) c_3 c_4
          refine lv_aload_n hx hb dX6_bears_29 rfl (lv_at hl 0 rfl) ?_
          refine lv_aload_n hx hb dX6_bears_30 rfl (lv_at hl 0 rfl) ?_
          refine top_get C S inX6_bears_X6 rfl 0 rfl 0 (by decide) (by decide +kernel) rfl rfl dX6_bears_31 ?_
          refine top_getN C S inX6_bears_X2 rfl 1 rfl 2 (by decide) (by decide +kernel) rfl dX6_bears_34 ?_
          refine after_V (wc := [(O, ob 6 [.ref h, .ref dh, .ref th, .ref HH, .ref IM, .ref SG, .ref P, .ref ca]), (h, ob 2 [.ref q, .int (nI n), .int (nI ww)]), (q, aI g 32 f), (P, ob 3 [.ref ra, .ref sa, .ref ta, .int p1, .int p2, .int p3, .int p4, .int p5]), (ra, aI g 8 rf), (sa, aI g 8 sf), (ta, aI g 8 tf)]) (y := yX6_stackAll) C S (va_runV (As := [.int (nI ww)]) (rest := []) C.1 (kX6_stackAll l g O dh th HH IM SG ca h q f n ww nu P ra sa ta rf sf tf p1 p2 p3 p4 p5 ww (by first | assumption | omega) (by first | assumption | omega) (by first | assumption | omega) hww H.size) (cwV 1 hts gX6_bears_X6_stackAll rfl rfl rfl (by decide +kernel) ⟨Nat.le_of_ble_eq_true rfl, Nat.le_of_ble_eq_true rfl⟩) (preV_at C S 0 rfl rfl [0, 1, 2, 3, 4, 5, 6] rfl (by decide)) rfl rfl hl.1 rfl (lv_room (Nat.le_of_ble_eq_true rfl)) dX6_bears_37 ⟨Nat.le_of_ble_eq_true rfl, Nat.le_of_ble_eq_true rfl⟩) [0, 1, 2, 3, 4, 5, 6] [] rfl (wr := []) rfl (by decide) (by decide) (fun w0 H locs hq S => ?_)
          obtain ⟨rf1, sf1, tf1, hR1, hS1, hT1, rfl⟩ := hq
          have S : ST g A ss H locs [(O, ob 6 [.ref h, .ref dh, .ref th, .ref HH, .ref IM, .ref SG, .ref P, .ref ca]), (h, ob 2 [.ref q, .int (nI n), .int (nI ww)]), (q, aI g 32 f), (P, ob 3 [.ref ra, .ref sa, .ref ta, .int (nI n), .int (nI ww), .int p3, .int p4, .int p5]), (ra, aI g 8 rf1), (sa, aI g 8 sf1), (ta, aI g 8 tf1)] := S
          refine lv_aload_n hx hb dX6_bears_40 rfl (lv_at hl 0 rfl) ?_
          refine top_get C S inX6_bears_X6 rfl 0 rfl 6 (by decide) (by decide +kernel) rfl rfl dX6_bears_41 ?_
          refine lv_iload_n hx hb dX6_bears_44 rfl (lv_at hl 2 rfl) ?_
          refine after_I (wc := [(P, ob 3 [.ref ra, .ref sa, .ref ta, .int (nI n), .int (nI ww), .int p3, .int p4, .int p5]), (ra, aI g 8 rf1), (sa, aI g 8 sf1), (ta, aI g 8 tf1)]) (y := yX3_press) C S (va_runV (As := [.int (nI p)]) (rest := []) C.1 (kX3_press l g P ra sa ta rf1 sf1 tf1 n ww p3 p4 p5 (R0 nu) (nu 1) (nu 3) p (by first | assumption | omega) (by first | assumption | omega) (by first | assumption | omega) (by first | assumption | omega) (by first | assumption | omega) (by first | assumption | omega) (by first | assumption | omega) (by first | assumption | omega) (by first | assumption | omega) H.size) (cwV 1 hts gX6_bears_X3_press rfl rfl rfl (by decide +kernel) ⟨Nat.le_of_ble_eq_true rfl, Nat.le_of_ble_eq_true rfl⟩) (preV_at C S 3 rfl rfl [3, 4, 5, 6] rfl (by decide)) rfl rfl hl.1 rfl (lv_room (Nat.le_of_ble_eq_true rfl)) dX6_bears_45 ⟨Nat.le_of_ble_eq_true rfl, Nat.le_of_ble_eq_true rfl⟩) [3, 4, 5, 6] [0, 1, 2] rfl (wr := [(O, ob 6 [.ref h, .ref dh, .ref th, .ref HH, .ref IM, .ref SG, .ref P, .ref ca]), (h, ob 2 [.ref q, .int (nI n), .int (nI ww)]), (q, aI g 32 f)]) rfl (by decide) (by decide) (fun r0 w0 H locs hq S => ?_)
          obtain ⟨rfl, rfl⟩ := hq
          have S : ST g A ss H locs [(O, ob 6 [.ref h, .ref dh, .ref th, .ref HH, .ref IM, .ref SG, .ref P, .ref ca]), (h, ob 2 [.ref q, .int (nI n), .int (nI ww)]), (q, aI g 32 f), (P, ob 3 [.ref ra, .ref sa, .ref ta, .int (nI n), .int (nI ww), .int (nI (uppN (nu 1) (R0 nu) ww p n)), .int (nI (lowN (nu 1) (R0 nu) ww p n)), .int (nI ((pr (nu 1) (R0 nu) ww p n).1))]), (ra, aI g 8 rf1), (sa, aI g 8 sf1), (ta, aI g 8 tf1)] := S
          refine br_neB (tgt := 54) hx hb dX6_bears_48 (by decide) (fun c_5 => ?_) (fun c_5 => ?_)
          · -- 48 T
            have hpos := of_decide_eq_true c_5
            have eU : uppN (nu 1) (R0 nu) ww p n ≤ 20000 := upp_le hn (by omega) hSb hRb
            have eL : lowN (nu 1) (R0 nu) ww p n ≤ 72 := low_le hn hSb hRb
            have eB : boN (nu 1) (R0 nu) ww (uppN (nu 1) (R0 nu) ww p n) (lowN (nu 1) (R0 nu) ww p n) j ≤ 180000 := bo_le eU (hSb j hj)
            have eT : nu 3 j * lowN (nu 1) (R0 nu) ww p n ≤ 99 * 72 := Nat.mul_le_mul (hTb j hj) eL
            refine lv_iload_n hx hb dX6_bears_54 rfl (lv_at hl 3 rfl) ?_
            refine lv_iconst (v := 2) hx hb dX6_bears_55 (by decide) ?_
            refine bn_ine (tgt := 76) (a := w) (b := 2) hx hb rfl rfl (by omega) (by omega) dX6_bears_56 (by decide) (fun c_6 => ?_) (fun c_6 => ?_)
            · -- 56 T
              refine lv_aload_n hx hb dX6_bears_76 rfl (lv_at hl 0 rfl) ?_
              refine top_get C S inX6_bears_X6 rfl 0 rfl 6 (by decide) (by decide +kernel) rfl rfl dX6_bears_77 ?_
              refine lv_iload_n hx hb dX6_bears_80 rfl (lv_at hl 1 rfl) ?_
              refine after_I (wc := [(P, ob 3 [.ref ra, .ref sa, .ref ta, .int (nI n), .int (nI ww), .int (nI (uppN (nu 1) (R0 nu) ww p n)), .int (nI (lowN (nu 1) (R0 nu) ww p n)), .int (nI ((pr (nu 1) (R0 nu) ww p n).1))]), (ra, aI g 8 rf1), (sa, aI g 8 sf1), (ta, aI g 8 tf1)]) (y := yX3_borne) C S (va_runV (As := [.int (nI j)]) (rest := []) C.1 (kX3_borne l g P ra sa ta rf1 sf1 tf1 n ww (uppN (nu 1) (R0 nu) ww p n) (lowN (nu 1) (R0 nu) ww p n) (nI ((pr (nu 1) (R0 nu) ww p n).1)) (R0 nu) (nu 1) (nu 3) j (by first | assumption | omega) (by first | assumption | omega) (by first | assumption | omega) (by first | assumption | omega) (by first | assumption | omega) (by first | assumption | omega) (by first | assumption | omega) (by first | assumption | omega) (upp_le hn (by omega) hSb hRb) (low_le hn hSb hRb) (by first | assumption | omega) H.size) (cwV 1 hts gX6_bears_X3_borne rfl rfl rfl (by decide +kernel) ⟨Nat.le_of_ble_eq_true rfl, Nat.le_of_ble_eq_true rfl⟩) (preV_at C S 3 rfl rfl [3, 4, 5, 6] rfl (by decide)) rfl rfl hl.1 rfl (lv_room (Nat.le_of_ble_eq_true rfl)) dX6_bears_81 ⟨Nat.le_of_ble_eq_true rfl, Nat.le_of_ble_eq_true rfl⟩) [3, 4, 5, 6] [0, 1, 2] rfl (wr := [(O, ob 6 [.ref h, .ref dh, .ref th, .ref HH, .ref IM, .ref SG, .ref P, .ref ca]), (h, ob 2 [.ref q, .int (nI n), .int (nI ww)]), (q, aI g 32 f)]) rfl (by decide) (by decide) (fun r0 w0 H locs hq S => ?_)
              obtain ⟨rfl, rfl⟩ := hq
              have S : ST g A ss H locs [(O, ob 6 [.ref h, .ref dh, .ref th, .ref HH, .ref IM, .ref SG, .ref P, .ref ca]), (h, ob 2 [.ref q, .int (nI n), .int (nI ww)]), (q, aI g 32 f), (P, ob 3 [.ref ra, .ref sa, .ref ta, .int (nI n), .int (nI ww), .int (nI (uppN (nu 1) (R0 nu) ww p n)), .int (nI (lowN (nu 1) (R0 nu) ww p n)), .int (nI ((pr (nu 1) (R0 nu) ww p n).1))]), (ra, aI g 8 rf1), (sa, aI g 8 sf1), (ta, aI g 8 tf1)] := S
              refine lv_aload_n hx hb dX6_bears_84 rfl (lv_at hl 0 rfl) ?_
              refine top_get C S inX6_bears_X6 rfl 0 rfl 6 (by decide) (by decide +kernel) rfl rfl dX6_bears_85 ?_
              refine top_getN C S inX6_bears_X3 rfl 3 rfl 6 (by decide) (by decide +kernel) rfl dX6_bears_88 ?_
              refine lv_iload_n hx hb dX6_bears_91 rfl (lv_at hl 3 rfl) ?_
              refine after_I (wc := []) (y := yX6_partInLowestTerms) C S (va_runS (As := [.int (nI (boN (nu 1) (R0 nu) ww (uppN (nu 1) (R0 nu) ww p n) (lowN (nu 1) (R0 nu) ww p n) j)), .int (nI (lowN (nu 1) (R0 nu) ww p n)), .int (nI w)]) (rest := []) C.1 (kX6_partInLowestTerms l g (boN (nu 1) (R0 nu) ww (uppN (nu 1) (R0 nu) ww p n) (lowN (nu 1) (R0 nu) ww p n) j) (lowN (nu 1) (R0 nu) ww p n) w (by omega) (by omega) hw H.size) (va_cwS 3 hts gX6_bears_X6_partInLowestTerms rfl rfl rfl (by decide +kernel) ⟨Nat.le_of_ble_eq_true rfl, Nat.le_of_ble_eq_true rfl⟩) (preS_at C S [] rfl (by decide)) rfl rfl hl.1 rfl (lv_room (Nat.le_of_ble_eq_true rfl)) dX6_bears_92 ⟨Nat.le_of_ble_eq_true rfl, Nat.le_of_ble_eq_true rfl⟩) [] [0, 1, 2, 3, 4, 5, 6] rfl (wr := [(O, ob 6 [.ref h, .ref dh, .ref th, .ref HH, .ref IM, .ref SG, .ref P, .ref ca]), (h, ob 2 [.ref q, .int (nI n), .int (nI ww)]), (q, aI g 32 f), (P, ob 3 [.ref ra, .ref sa, .ref ta, .int (nI n), .int (nI ww), .int (nI (uppN (nu 1) (R0 nu) ww p n)), .int (nI (lowN (nu 1) (R0 nu) ww p n)), .int (nI ((pr (nu 1) (R0 nu) ww p n).1))]), (ra, aI g 8 rf1), (sa, aI g 8 sf1), (ta, aI g 8 tf1)]) rfl (by decide) (by decide) (fun r0 w0 H locs hq S => ?_)
              obtain ⟨rfl, rfl⟩ := hq
              have S : ST g A ss H locs [(O, ob 6 [.ref h, .ref dh, .ref th, .ref HH, .ref IM, .ref SG, .ref P, .ref ca]), (h, ob 2 [.ref q, .int (nI n), .int (nI ww)]), (q, aI g 32 f), (P, ob 3 [.ref ra, .ref sa, .ref ta, .int (nI n), .int (nI ww), .int (nI (uppN (nu 1) (R0 nu) ww p n)), .int (nI (lowN (nu 1) (R0 nu) ww p n)), .int (nI ((pr (nu 1) (R0 nu) ww p n).1))]), (ra, aI g 8 rf1), (sa, aI g 8 sf1), (ta, aI g 8 tf1)] := S
              exact ret_I C S hr dX6_bears_95 ⟨(Eq.trans (show _ = bearsA nu n ww j p w by unfold bearsA; rw [if_pos hpos, if_neg c_6]; split <;> rfl) (chk3_ok (i := j) (j := p) (k := w) (by omega) (by omega) (by omega) (by omega) (by decide) (by decide)).symm), (nI n), (nI ww), (nI (uppN (nu 1) (R0 nu) ww p n)), (nI (lowN (nu 1) (R0 nu) ww p n)), (nI ((pr (nu 1) (R0 nu) ww p n).1)), rf1, sf1, tf1, (rfl)⟩
            · -- 56 F
              refine lv_aload_n hx hb dX6_bears_59 rfl (lv_at hl 0 rfl) ?_
              refine top_get C S inX6_bears_X6 rfl 0 rfl 6 (by decide) (by decide +kernel) rfl rfl dX6_bears_60 ?_
              refine lv_iload_n hx hb dX6_bears_63 rfl (lv_at hl 1 rfl) ?_
              refine after_I (wc := [(P, ob 3 [.ref ra, .ref sa, .ref ta, .int (nI n), .int (nI ww), .int (nI (uppN (nu 1) (R0 nu) ww p n)), .int (nI (lowN (nu 1) (R0 nu) ww p n)), .int (nI ((pr (nu 1) (R0 nu) ww p n).1))]), (ra, aI g 8 rf1), (sa, aI g 8 sf1), (ta, aI g 8 tf1)]) (y := yX3_excess) C S (va_runV (As := [.int (nI j)]) (rest := []) C.1 (kX3_excess l g P ra sa ta rf1 sf1 tf1 n ww (uppN (nu 1) (R0 nu) ww p n) (lowN (nu 1) (R0 nu) ww p n) (nI ((pr (nu 1) (R0 nu) ww p n).1)) (R0 nu) (nu 1) (nu 3) j (by first | assumption | omega) (by first | assumption | omega) (by first | assumption | omega) (by first | assumption | omega) (by first | assumption | omega) (by first | assumption | omega) (by first | assumption | omega) (by first | assumption | omega) (upp_le hn (by omega) hSb hRb) (low_le hn hSb hRb) (by first | assumption | omega) H.size) (cwV 1 hts gX6_bears_X3_excess rfl rfl rfl (by decide +kernel) ⟨Nat.le_of_ble_eq_true rfl, Nat.le_of_ble_eq_true rfl⟩) (preV_at C S 3 rfl rfl [3, 4, 5, 6] rfl (by decide)) rfl rfl hl.1 rfl (lv_room (Nat.le_of_ble_eq_true rfl)) dX6_bears_64 ⟨Nat.le_of_ble_eq_true rfl, Nat.le_of_ble_eq_true rfl⟩) [3, 4, 5, 6] [0, 1, 2] rfl (wr := [(O, ob 6 [.ref h, .ref dh, .ref th, .ref HH, .ref IM, .ref SG, .ref P, .ref ca]), (h, ob 2 [.ref q, .int (nI n), .int (nI ww)]), (q, aI g 32 f)]) rfl (by decide) (by decide) (fun r0 w0 H locs hq S => ?_)
              obtain ⟨rfl, rfl⟩ := hq
              have S : ST g A ss H locs [(O, ob 6 [.ref h, .ref dh, .ref th, .ref HH, .ref IM, .ref SG, .ref P, .ref ca]), (h, ob 2 [.ref q, .int (nI n), .int (nI ww)]), (q, aI g 32 f), (P, ob 3 [.ref ra, .ref sa, .ref ta, .int (nI n), .int (nI ww), .int (nI (uppN (nu 1) (R0 nu) ww p n)), .int (nI (lowN (nu 1) (R0 nu) ww p n)), .int (nI ((pr (nu 1) (R0 nu) ww p n).1))]), (ra, aI g 8 rf1), (sa, aI g 8 sf1), (ta, aI g 8 tf1)] := S
              refine lv_if_le (tgt := 74) hx hb dX6_bears_67 (by decide) (fun c_7 => ?_) (fun c_7 => ?_)
              · -- 67 T
                have hd : decide (nu 3 j * lowN (nu 1) (R0 nu) ww p n < boN (nu 1) (R0 nu) ww (uppN (nu 1) (R0 nu) ww p n) (lowN (nu 1) (R0 nu) ww p n) j) = false := decide_eq_false (fun q9 => absurd ((sub_gt_N (p := 0) (by omega) (by omega) (by decide)).mpr (by omega)) (Int32.not_lt.mpr c_7))
                refine lv_iconst (v := 0) hx hb dX6_bears_74 (by decide) ?_
                exact ret_I C S hr dX6_bears_75 ⟨(Eq.trans (show _ = bearsA nu n ww j p w by unfold bearsA; rw [if_pos hpos, if_pos c_6, hd]; rfl) (chk3_ok (i := j) (j := p) (k := w) (by omega) (by omega) (by omega) (by omega) (by decide) (by decide)).symm), (nI n), (nI ww), (nI (uppN (nu 1) (R0 nu) ww p n)), (nI (lowN (nu 1) (R0 nu) ww p n)), (nI ((pr (nu 1) (R0 nu) ww p n).1)), rf1, sf1, tf1, (rfl)⟩
              · -- 67 F
                have hd : decide (nu 3 j * lowN (nu 1) (R0 nu) ww p n < boN (nu 1) (R0 nu) ww (uppN (nu 1) (R0 nu) ww p n) (lowN (nu 1) (R0 nu) ww p n) j) = true := decide_eq_true (by have := (sub_gt_N (p := 0) (by omega) (by omega) (by decide)).mp (Int32.not_le.mp c_7); omega)
                refine lv_iconst (v := 1) hx hb dX6_bears_70 (by decide) ?_
                refine lv_goto (tgt := 75) hx hb dX6_bears_71 (by decide) ?_
                exact ret_I C S hr dX6_bears_75 ⟨(Eq.trans (show _ = bearsA nu n ww j p w by unfold bearsA; rw [if_pos hpos, if_pos c_6, hd]; rfl) (chk3_ok (i := j) (j := p) (k := w) (by omega) (by omega) (by omega) (by omega) (by decide) (by decide)).symm), (nI n), (nI ww), (nI (uppN (nu 1) (R0 nu) ww p n)), (nI (lowN (nu 1) (R0 nu) ww p n)), (nI ((pr (nu 1) (R0 nu) ww p n).1)), rf1, sf1, tf1, (rfl)⟩
          · -- 48 F
            refine lv_bipush (v := (-9)) hx hb dX6_bears_51 (by decide) ?_
            exact ret_I C S hr dX6_bears_53 ⟨(Eq.trans (show _ = bearsA nu n ww j p w by unfold bearsA; rw [if_neg (of_decide_eq_false c_5)]) (chk3_ok (i := j) (j := p) (k := w) (by omega) (by omega) (by omega) (by omega) (by decide) (by decide)).symm), (nI n), (nI ww), (nI (uppN (nu 1) (R0 nu) ww p n)), (nI (lowN (nu 1) (R0 nu) ww p n)), (nI ((pr (nu 1) (R0 nu) ww p n).1)), rf1, sf1, tf1, (rfl)⟩
        · -- 24 F
          refine lv_iconst (v := (-1)) hx hb dX6_bears_27 (by decide) ?_
          exact ret_I C S hr dX6_bears_28 ⟨((chk3_bad3 (ok_nle (k := 2) rfl (by decide) c_4)).symm), p1, p2, p3, p4, p5, rf, sf, tf, (rfl)⟩

theorem inX6_rate_X2 : ∀ w ∈ wsX20, w ∈ wsX6_rate := by decide +kernel
theorem inX6_rate_X3 : ∀ w ∈ wsX30, w ∈ wsX6_rate := by decide +kernel
theorem inX6_rate_X6 : ∀ w ∈ wsX60, w ∈ wsX6_rate := by decide +kernel
set_option maxRecDepth 100000 in
set_option maxHeartbeats 4000000 in
theorem kX6_rate (l : Launch) (g : GG) (O : Nat) (dh : Nat) (th : Nat) (HH : Nat) (IM : Nat) (SG : Nat) (ca : Nat) (h : Nat) (q : Nat) (f : Nat → Int32) (n : Nat) (ww : Nat) (nu : Nat → Nat → Nat) (P : Nat) (ra : Nat) (sa : Nat) (ta : Nat) (rf : Nat → Int32) (sf : Nat → Int32) (tf : Nat → Int32) (p1 : Int32) (p2 : Int32) (p3 : Int32) (p4 : Int32) (p5 : Int32) (x : Int32) (hn1 : 1 ≤ n) (hn : n ≤ 8) (hww : ww < 256) (hf : ∀ a i, a < 4 → i < n → f (a * 8 + i) = nI (nu a i)) (hB : HB nu n) : KI l g yX6_rate wsX6_rate 4 91 [.ref O, .int x] [(O, ob 6 [.ref h, .ref dh, .ref th, .ref HH, .ref IM, .ref SG, .ref P, .ref ca]), (h, ob 2 [.ref q, .int (nI n), .int (nI ww)]), (q, aI g 32 f), (P, ob 3 [.ref ra, .ref sa, .ref ta, .int p1, .int p2, .int p3, .int p4, .int p5]), (ra, aI g 8 rf), (sa, aI g 8 sf), (ta, aI g 8 tf)] (fun (r : Int32) (w' : va_W) => r = (chk1 (-1) 1000 (rateA nu n ww) x) ∧ ∃ (z1' : Int32), ∃ (z2' : Int32), ∃ (z3' : Int32), ∃ (z4' : Int32), ∃ (z5' : Int32), ∃ (rf' : Nat → Int32), ∃ (sf' : Nat → Int32), ∃ (tf' : Nat → Int32), w' = [(O, ob 6 [.ref h, .ref dh, .ref th, .ref HH, .ref IM, .ref SG, .ref P, .ref ca]), (h, ob 2 [.ref q, .int (nI n), .int (nI ww)]), (q, aI g 32 f), (P, ob 3 [.ref ra, .ref sa, .ref ta, .int z1', .int z2', .int z3', .int z4', .int z5']), (ra, aI g 8 rf'), (sa, aI g 8 sf'), (ta, aI g 8 tf')]) := by
  refine kI_of (cc := cX6_rate) (maxL := 2) (by decide) rfl (Nat.le_of_ble_eq_true rfl) ?_
  intro pp ee ss mm bel mth cd A ls C S hr hl
  obtain ⟨hx, hb, hml, hown, hts⟩ := id C.1
  have hl : lv_has ls 2 [(0, .ref O), (1, .int x)] := hl
  obtain ⟨H, hH⟩ : ∃ H, H = ss.heap := ⟨_, rfl⟩
  obtain ⟨locs, hL0⟩ : ∃ L : List Loc, L = [] := ⟨_, rfl⟩
  rw [← hH, ← hL0] at S ⊢
  have hca : ∀ i, i < n → nu 2 i ≤ 30 := fun i9 h9 => (hB i9 h9).2.2.1
  have hSb : ∀ i, i < n → nu 1 i ≤ 9 := fun i9 h9 => (hB i9 h9).2.1.2
  have hTb : ∀ i, i < n → nu 3 i ≤ 99 := fun i9 h9 => (hB i9 h9).2.2.2.2
  have hRb : ∀ i, i < n → R0 nu i ≤ 240 := RC_le hn hca
  refine lv_iload_n hx hb dX6_rate_0 rfl (lv_at hl 1 rfl) ?_
  refine after_I (wc := []) (y := yX6_isLoad) C S (va_runS (As := [.int x]) (rest := []) C.1 (kX6_isLoad l g x H.size) (va_cwS 1 hts gX6_rate_X6_isLoad rfl rfl rfl (by decide +kernel) ⟨Nat.le_of_ble_eq_true rfl, Nat.le_of_ble_eq_true rfl⟩) (preS_at C S [] rfl (by decide)) rfl rfl hl.1 rfl (lv_room (Nat.le_of_ble_eq_true rfl)) dX6_rate_1 ⟨Nat.le_of_ble_eq_true rfl, Nat.le_of_ble_eq_true rfl⟩) [] [0, 1, 2, 3, 4, 5, 6] rfl (wr := [(O, ob 6 [.ref h, .ref dh, .ref th, .ref HH, .ref IM, .ref SG, .ref P, .ref ca]), (h, ob 2 [.ref q, .int (nI n), .int (nI ww)]), (q, aI g 32 f), (P, ob 3 [.ref ra, .ref sa, .ref ta, .int p1, .int p2, .int p3, .int p4, .int p5]), (ra, aI g 8 rf), (sa, aI g 8 sf), (ta, aI g 8 tf)]) rfl (by decide) (by decide) (fun r0 w0 H locs hq S => ?_)
  obtain ⟨rfl, rfl⟩ := hq
  have S : ST g A ss H locs [(O, ob 6 [.ref h, .ref dh, .ref th, .ref HH, .ref IM, .ref SG, .ref P, .ref ca]), (h, ob 2 [.ref q, .int (nI n), .int (nI ww)]), (q, aI g 32 f), (P, ob 3 [.ref ra, .ref sa, .ref ta, .int p1, .int p2, .int p3, .int p4, .int p5]), (ra, aI g 8 rf), (sa, aI g 8 sf), (ta, aI g 8 tf)] := S
  refine br_neB (tgt := 9) hx hb dX6_rate_4 (by decide) (fun c_1 => ?_) (fun c_1 => ?_)
  · -- 4 T
    obtain ⟨p, hp, rfl⟩ := isLoad_ok c_1
    refine lv_aload_n hx hb dX6_rate_9 rfl (lv_at hl 0 rfl) ?_
    refine lv_aload_n hx hb dX6_rate_10 rfl (lv_at hl 0 rfl) ?_
    refine top_get C S inX6_rate_X6 rfl 0 rfl 0 (by decide) (by decide +kernel) rfl rfl dX6_rate_11 ?_
    refine top_getN C S inX6_rate_X2 rfl 1 rfl 2 (by decide) (by decide +kernel) rfl dX6_rate_14 ?_
    refine after_V (wc := [(O, ob 6 [.ref h, .ref dh, .ref th, .ref HH, .ref IM, .ref SG, .ref P, .ref ca]), (h, ob 2 [.ref q, .int (nI n), .int (nI ww)]), (q, aI g 32 f), (P, ob 3 [.ref ra, .ref sa, .ref ta, .int p1, .int p2, .int p3, .int p4, .int p5]), (ra, aI g 8 rf), (sa, aI g 8 sf), (ta, aI g 8 tf)]) (y := yX6_stackAll) C S (va_runV (As := [.int (nI ww)]) (rest := []) C.1 (kX6_stackAll l g O dh th HH IM SG ca h q f n ww nu P ra sa ta rf sf tf p1 p2 p3 p4 p5 ww (by first | assumption | omega) (by first | assumption | omega) (by first | assumption | omega) hww H.size) (cwV 1 hts gX6_rate_X6_stackAll rfl rfl rfl (by decide +kernel) ⟨Nat.le_of_ble_eq_true rfl, Nat.le_of_ble_eq_true rfl⟩) (preV_at C S 0 rfl rfl [0, 1, 2, 3, 4, 5, 6] rfl (by decide)) rfl rfl hl.1 rfl (lv_room (Nat.le_of_ble_eq_true rfl)) dX6_rate_17 ⟨Nat.le_of_ble_eq_true rfl, Nat.le_of_ble_eq_true rfl⟩) [0, 1, 2, 3, 4, 5, 6] [] rfl (wr := []) rfl (by decide) (by decide) (fun w0 H locs hq S => ?_)
    obtain ⟨rf1, sf1, tf1, hR1, hS1, hT1, rfl⟩ := hq
    have S : ST g A ss H locs [(O, ob 6 [.ref h, .ref dh, .ref th, .ref HH, .ref IM, .ref SG, .ref P, .ref ca]), (h, ob 2 [.ref q, .int (nI n), .int (nI ww)]), (q, aI g 32 f), (P, ob 3 [.ref ra, .ref sa, .ref ta, .int (nI n), .int (nI ww), .int p3, .int p4, .int p5]), (ra, aI g 8 rf1), (sa, aI g 8 sf1), (ta, aI g 8 tf1)] := S
    refine lv_aload_n hx hb dX6_rate_20 rfl (lv_at hl 0 rfl) ?_
    refine top_get C S inX6_rate_X6 rfl 0 rfl 6 (by decide) (by decide +kernel) rfl rfl dX6_rate_21 ?_
    refine lv_iload_n hx hb dX6_rate_24 rfl (lv_at hl 1 rfl) ?_
    refine after_I (wc := [(P, ob 3 [.ref ra, .ref sa, .ref ta, .int (nI n), .int (nI ww), .int p3, .int p4, .int p5]), (ra, aI g 8 rf1), (sa, aI g 8 sf1), (ta, aI g 8 tf1)]) (y := yX3_press) C S (va_runV (As := [.int (nI p)]) (rest := []) C.1 (kX3_press l g P ra sa ta rf1 sf1 tf1 n ww p3 p4 p5 (R0 nu) (nu 1) (nu 3) p (by first | assumption | omega) (by first | assumption | omega) (by first | assumption | omega) (by first | assumption | omega) (by first | assumption | omega) (by first | assumption | omega) (by first | assumption | omega) (by first | assumption | omega) (by first | assumption | omega) H.size) (cwV 1 hts gX6_rate_X3_press rfl rfl rfl (by decide +kernel) ⟨Nat.le_of_ble_eq_true rfl, Nat.le_of_ble_eq_true rfl⟩) (preV_at C S 3 rfl rfl [3, 4, 5, 6] rfl (by decide)) rfl rfl hl.1 rfl (lv_room (Nat.le_of_ble_eq_true rfl)) dX6_rate_25 ⟨Nat.le_of_ble_eq_true rfl, Nat.le_of_ble_eq_true rfl⟩) [3, 4, 5, 6] [0, 1, 2] rfl (wr := [(O, ob 6 [.ref h, .ref dh, .ref th, .ref HH, .ref IM, .ref SG, .ref P, .ref ca]), (h, ob 2 [.ref q, .int (nI n), .int (nI ww)]), (q, aI g 32 f)]) rfl (by decide) (by decide) (fun r0 w0 H locs hq S => ?_)
    obtain ⟨rfl, rfl⟩ := hq
    have S : ST g A ss H locs [(O, ob 6 [.ref h, .ref dh, .ref th, .ref HH, .ref IM, .ref SG, .ref P, .ref ca]), (h, ob 2 [.ref q, .int (nI n), .int (nI ww)]), (q, aI g 32 f), (P, ob 3 [.ref ra, .ref sa, .ref ta, .int (nI n), .int (nI ww), .int (nI (uppN (nu 1) (R0 nu) ww p n)), .int (nI (lowN (nu 1) (R0 nu) ww p n)), .int (nI ((pr (nu 1) (R0 nu) ww p n).1))]), (ra, aI g 8 rf1), (sa, aI g 8 sf1), (ta, aI g 8 tf1)] := S
    refine br_eqB (tgt := 41) hx hb dX6_rate_28 (by decide) (fun c_2 => ?_) (fun c_2 => ?_)
    · -- 28 T
      refine lv_bipush (v := (-9)) hx hb dX6_rate_41 (by decide) ?_
      exact ret_I C S hr dX6_rate_43 ⟨(Eq.trans (show _ = rateA nu n ww p by unfold rateA; rw [if_neg (of_decide_eq_false c_2)]) (chk1_ok (by omega) (by decide)).symm), (nI n), (nI ww), (nI (uppN (nu 1) (R0 nu) ww p n)), (nI (lowN (nu 1) (R0 nu) ww p n)), (nI ((pr (nu 1) (R0 nu) ww p n).1)), rf1, sf1, tf1, (rfl)⟩
    · -- 28 F
      refine lv_aload_n hx hb dX6_rate_31 rfl (lv_at hl 0 rfl) ?_
      refine top_get C S inX6_rate_X6 rfl 0 rfl 6 (by decide) (by decide +kernel) rfl rfl dX6_rate_32 ?_
      refine top_getN C S inX6_rate_X3 rfl 3 rfl 7 (by decide) (by decide +kernel) rfl dX6_rate_35 ?_
      refine lv_goto (tgt := 43) hx hb dX6_rate_38 (by decide) ?_
      exact ret_I C S hr dX6_rate_43 ⟨(Eq.trans (show _ = rateA nu n ww p by unfold rateA; rw [if_pos (of_decide_eq_true c_2)]) (chk1_ok (by omega) (by decide)).symm), (nI n), (nI ww), (nI (uppN (nu 1) (R0 nu) ww p n)), (nI (lowN (nu 1) (R0 nu) ww p n)), (nI ((pr (nu 1) (R0 nu) ww p n).1)), rf1, sf1, tf1, (rfl)⟩
  · -- 4 F
    refine lv_iconst (v := (-1)) hx hb dX6_rate_7 (by decide) ?_
    exact ret_I C S hr dX6_rate_8 ⟨((chk1_bad (isLoad_bad c_1)).symm), p1, p2, p3, p4, p5, rf, sf, tf, (rfl)⟩

theorem inX6_least_X2 : ∀ w ∈ wsX20, w ∈ wsX6_least := by decide +kernel
theorem inX6_least_X6 : ∀ w ∈ wsX60, w ∈ wsX6_least := by decide +kernel
set_option maxRecDepth 100000 in
set_option maxHeartbeats 4000000 in
theorem kX6_least (l : Launch) (g : GG) (O : Nat) (dh : Nat) (th : Nat) (HH : Nat) (IM : Nat) (SG : Nat) (ca : Nat) (h : Nat) (q : Nat) (f : Nat → Int32) (n : Nat) (ww : Nat) (nu : Nat → Nat → Nat) (P : Nat) (ra : Nat) (sa : Nat) (ta : Nat) (rf : Nat → Int32) (sf : Nat → Int32) (tf : Nat → Int32) (p1 : Int32) (p2 : Int32) (p3 : Int32) (p4 : Int32) (p5 : Int32) (x : Int32) (hn1 : 1 ≤ n) (hn : n ≤ 8) (hww : ww < 256) (hf : ∀ a i, a < 4 → i < n → f (a * 8 + i) = nI (nu a i)) (hB : HB nu n) : KI l g yX6_least wsX6_least 5 111 [.ref O, .int x] [(O, ob 6 [.ref h, .ref dh, .ref th, .ref HH, .ref IM, .ref SG, .ref P, .ref ca]), (h, ob 2 [.ref q, .int (nI n), .int (nI ww)]), (q, aI g 32 f), (P, ob 3 [.ref ra, .ref sa, .ref ta, .int p1, .int p2, .int p3, .int p4, .int p5]), (ra, aI g 8 rf), (sa, aI g 8 sf), (ta, aI g 8 tf)] (fun (r : Int32) (w' : va_W) => r = (chk1 (-1) 3 (leastA nu n ww) x) ∧ ∃ (z1' : Int32), ∃ (z2' : Int32), ∃ (z3' : Int32), ∃ (z4' : Int32), ∃ (z5' : Int32), ∃ (rf' : Nat → Int32), ∃ (sf' : Nat → Int32), ∃ (tf' : Nat → Int32), w' = [(O, ob 6 [.ref h, .ref dh, .ref th, .ref HH, .ref IM, .ref SG, .ref P, .ref ca]), (h, ob 2 [.ref q, .int (nI n), .int (nI ww)]), (q, aI g 32 f), (P, ob 3 [.ref ra, .ref sa, .ref ta, .int z1', .int z2', .int z3', .int z4', .int z5']), (ra, aI g 8 rf'), (sa, aI g 8 sf'), (ta, aI g 8 tf')]) := by
  refine kI_of (cc := cX6_least) (maxL := 3) (by decide) rfl (Nat.le_of_ble_eq_true rfl) ?_
  intro pp ee ss mm bel mth cd A ls C S hr hl
  obtain ⟨hx, hb, hml, hown, hts⟩ := id C.1
  have hl : lv_has ls 3 [(0, .ref O), (1, .int x)] := hl
  obtain ⟨H, hH⟩ : ∃ H, H = ss.heap := ⟨_, rfl⟩
  obtain ⟨locs, hL0⟩ : ∃ L : List Loc, L = [] := ⟨_, rfl⟩
  rw [← hH, ← hL0] at S ⊢
  have hca : ∀ i, i < n → nu 2 i ≤ 30 := fun i9 h9 => (hB i9 h9).2.2.1
  have hSb : ∀ i, i < n → nu 1 i ≤ 9 := fun i9 h9 => (hB i9 h9).2.1.2
  have hTb : ∀ i, i < n → nu 3 i ≤ 99 := fun i9 h9 => (hB i9 h9).2.2.2.2
  have hRb : ∀ i, i < n → R0 nu i ≤ 240 := RC_le hn hca
  refine lv_iload_n hx hb dX6_least_0 rfl (lv_at hl 1 rfl) ?_
  refine lv_if_lt (tgt := 9) hx hb dX6_least_1 (by decide) (fun c_1 => ?_) (fun c_1 => ?_)
  · -- 1 T
    refine lv_iconst (v := (-1)) hx hb dX6_least_9 (by decide) ?_
    exact ret_I C S hr dX6_least_10 ⟨((chk1_bad (ok_neg c_1)).symm), p1, p2, p3, p4, p5, rf, sf, tf, (rfl)⟩
  · -- 1 F
    refine lv_iload_n hx hb dX6_least_4 rfl (lv_at hl 1 rfl) ?_
    refine lv_iconst (v := 2) hx hb dX6_least_5 (by decide) ?_
    refine lv_icmp_le (tgt := 11) hx hb dX6_least_6 (by decide) (fun c_2 => ?_) (fun c_2 => ?_)
    · -- 6 T
      obtain ⟨w, hw, rfl⟩ := ok_le (k := 2) rfl (by decide) c_1 c_2
      refine lv_aload_n hx hb dX6_least_11 rfl (lv_at hl 0 rfl) ?_
      refine lv_aload_n hx hb dX6_least_12 rfl (lv_at hl 0 rfl) ?_
      refine top_get C S inX6_least_X6 rfl 0 rfl 0 (by decide) (by decide +kernel) rfl rfl dX6_least_13 ?_
      refine top_getN C S inX6_least_X2 rfl 1 rfl 2 (by decide) (by decide +kernel) rfl dX6_least_16 ?_
      refine after_V (wc := [(O, ob 6 [.ref h, .ref dh, .ref th, .ref HH, .ref IM, .ref SG, .ref P, .ref ca]), (h, ob 2 [.ref q, .int (nI n), .int (nI ww)]), (q, aI g 32 f), (P, ob 3 [.ref ra, .ref sa, .ref ta, .int p1, .int p2, .int p3, .int p4, .int p5]), (ra, aI g 8 rf), (sa, aI g 8 sf), (ta, aI g 8 tf)]) (y := yX6_stackAll) C S (va_runV (As := [.int (nI ww)]) (rest := []) C.1 (kX6_stackAll l g O dh th HH IM SG ca h q f n ww nu P ra sa ta rf sf tf p1 p2 p3 p4 p5 ww (by first | assumption | omega) (by first | assumption | omega) (by first | assumption | omega) hww H.size) (cwV 1 hts gX6_least_X6_stackAll rfl rfl rfl (by decide +kernel) ⟨Nat.le_of_ble_eq_true rfl, Nat.le_of_ble_eq_true rfl⟩) (preV_at C S 0 rfl rfl [0, 1, 2, 3, 4, 5, 6] rfl (by decide)) rfl rfl hl.1 rfl (lv_room (Nat.le_of_ble_eq_true rfl)) dX6_least_19 ⟨Nat.le_of_ble_eq_true rfl, Nat.le_of_ble_eq_true rfl⟩) [0, 1, 2, 3, 4, 5, 6] [] rfl (wr := []) rfl (by decide) (by decide) (fun w0 H locs hq S => ?_)
      obtain ⟨rf1, sf1, tf1, hR1, hS1, hT1, rfl⟩ := hq
      have S : ST g A ss H locs [(O, ob 6 [.ref h, .ref dh, .ref th, .ref HH, .ref IM, .ref SG, .ref P, .ref ca]), (h, ob 2 [.ref q, .int (nI n), .int (nI ww)]), (q, aI g 32 f), (P, ob 3 [.ref ra, .ref sa, .ref ta, .int (nI n), .int (nI ww), .int p3, .int p4, .int p5]), (ra, aI g 8 rf1), (sa, aI g 8 sf1), (ta, aI g 8 tf1)] := S
      refine lv_aload_n hx hb dX6_least_22 rfl (lv_at hl 0 rfl) ?_
      refine top_get C S inX6_least_X6 rfl 0 rfl 6 (by decide) (by decide +kernel) rfl rfl dX6_least_23 ?_
      refine after_I (wc := [(P, ob 3 [.ref ra, .ref sa, .ref ta, .int (nI n), .int (nI ww), .int p3, .int p4, .int p5]), (ra, aI g 8 rf1), (sa, aI g 8 sf1), (ta, aI g 8 tf1)]) (y := yX3_leastTooMuch) C S (va_runV (As := []) (rest := []) C.1 (kX3_leastTooMuch l g P ra sa ta rf1 sf1 tf1 n ww p3 p4 p5 (R0 nu) (nu 1) (nu 3) (by first | assumption | omega) (by first | assumption | omega) (by first | assumption | omega) (by first | assumption | omega) (by first | assumption | omega) (by first | assumption | omega) (by first | assumption | omega) (by first | assumption | omega) (fun p9 q9 a9 b9 c9 d9 => fb_mono RC_mono a9 b9 d9) H.size) (cwV 0 hts gX6_least_X3_leastTooMuch rfl rfl rfl (by decide +kernel) ⟨Nat.le_of_ble_eq_true rfl, Nat.le_of_ble_eq_true rfl⟩) (preV_at C S 3 rfl rfl [3, 4, 5, 6] rfl (by decide)) rfl rfl hl.1 rfl (lv_room (Nat.le_of_ble_eq_true rfl)) dX6_least_26 ⟨Nat.le_of_ble_eq_true rfl, Nat.le_of_ble_eq_true rfl⟩) [3, 4, 5, 6] [0, 1, 2] rfl (wr := [(O, ob 6 [.ref h, .ref dh, .ref th, .ref HH, .ref IM, .ref SG, .ref P, .ref ca]), (h, ob 2 [.ref q, .int (nI n), .int (nI ww)]), (q, aI g 32 f)]) rfl (by decide) (by decide) (fun r0 w0 H locs hq S => ?_)
      obtain ⟨rfl, u'_3, l'_4, v'_5, rfl⟩ := hq
      have S : ST g A ss H locs [(O, ob 6 [.ref h, .ref dh, .ref th, .ref HH, .ref IM, .ref SG, .ref P, .ref ca]), (h, ob 2 [.ref q, .int (nI n), .int (nI ww)]), (q, aI g 32 f), (P, ob 3 [.ref ra, .ref sa, .ref ta, .int (nI n), .int (nI ww), .int u'_3, .int l'_4, .int v'_5]), (ra, aI g 8 rf1), (sa, aI g 8 sf1), (ta, aI g 8 tf1)] := S
      refine lv_istore_n (lv' := [(2, .int (nI (lstN (fun p9 => fb (nu 1) (R0 nu) (nu 3) n p9 ww) 999 1))), (0, .ref O), (1, .int (nI w))]) hx hb dX6_least_29 rfl hl (by decide) rfl (fun ls hl => ?_)
      have hLS : lstN (fun p9 => fb (nu 1) (R0 nu) (nu 3) n p9 ww) 999 1 ≤ 1000 := lst_le 999 1
      refine lv_iload_n hx hb dX6_least_30 rfl (lv_at hl 0 rfl) ?_
      refine lv_sipush (v := 999) hx hb dX6_least_31 (by decide) ?_
      refine bn_ile (tgt := 40) (a := lstN (fun p9 => fb (nu 1) (R0 nu) (nu 3) n p9 ww) 999 1) (b := 999) hx hb rfl rfl (by omega) (by omega) dX6_least_34 (by decide) (fun c_6 => ?_) (fun c_6 => ?_)
      · -- 34 T
        refine lv_iload_n hx hb dX6_least_40 rfl (lv_at hl 2 rfl) ?_
        refine bn_zne (tgt := 46) (a := w) hx hb rfl (by omega) dX6_least_41 (by decide) (fun c_7 => ?_) (fun c_7 => ?_)
        · -- 41 T
          refine lv_iload_n hx hb dX6_least_46 rfl (lv_at hl 2 rfl) ?_
          refine lv_iconst (v := 1) hx hb dX6_least_47 (by decide) ?_
          refine bn_ine (tgt := 60) (a := w) (b := 1) hx hb rfl rfl (by omega) (by omega) dX6_least_48 (by decide) (fun c_8 => ?_) (fun c_8 => ?_)
          · -- 48 T
            refine lv_aload_n hx hb dX6_least_60 rfl (lv_at hl 1 rfl) ?_
            refine top_get C S inX6_least_X6 rfl 0 rfl 0 (by decide) (by decide +kernel) rfl rfl dX6_least_61 ?_
            refine top_getN C S inX6_least_X2 rfl 1 rfl 2 (by decide) (by decide +kernel) rfl dX6_least_64 ?_
            refine after_I (wc := []) (y := yJ6_bitCount_0f7a4) C S (va_runS (As := [.int (nI ww)]) (rest := []) C.1 (kJ6_bitCount_0f7a4 l g ww (by first | assumption | omega) H.size) (va_cwS 1 hts gX6_least_J6_bitCount_0f7a4 rfl rfl rfl (by decide +kernel) ⟨Nat.le_of_ble_eq_true rfl, Nat.le_of_ble_eq_true rfl⟩) (preS_at C S [] rfl (by decide)) rfl rfl hl.1 rfl (lv_room (Nat.le_of_ble_eq_true rfl)) dX6_least_67 ⟨Nat.le_of_ble_eq_true rfl, Nat.le_of_ble_eq_true rfl⟩) [] [0, 1, 2, 3, 4, 5, 6] rfl (wr := [(O, ob 6 [.ref h, .ref dh, .ref th, .ref HH, .ref IM, .ref SG, .ref P, .ref ca]), (h, ob 2 [.ref q, .int (nI n), .int (nI ww)]), (q, aI g 32 f), (P, ob 3 [.ref ra, .ref sa, .ref ta, .int (nI n), .int (nI ww), .int u'_3, .int l'_4, .int v'_5]), (ra, aI g 8 rf1), (sa, aI g 8 sf1), (ta, aI g 8 tf1)]) rfl (by decide) (by decide) (fun r0 w0 H locs hq S => ?_)
            obtain ⟨rfl, rfl⟩ := hq
            have S : ST g A ss H locs [(O, ob 6 [.ref h, .ref dh, .ref th, .ref HH, .ref IM, .ref SG, .ref P, .ref ca]), (h, ob 2 [.ref q, .int (nI n), .int (nI ww)]), (q, aI g 32 f), (P, ob 3 [.ref ra, .ref sa, .ref ta, .int (nI n), .int (nI ww), .int u'_3, .int l'_4, .int v'_5]), (ra, aI g 8 rf1), (sa, aI g 8 sf1), (ta, aI g 8 tf1)] := S
            refine lv_aload_n hx hb dX6_least_70 rfl (lv_at hl 1 rfl) ?_
            refine top_get C S inX6_least_X6 rfl 0 rfl 6 (by decide) (by decide +kernel) rfl rfl dX6_least_71 ?_
            refine lv_iload_n hx hb dX6_least_74 rfl (lv_at hl 0 rfl) ?_
            refine after_I (wc := [(P, ob 3 [.ref ra, .ref sa, .ref ta, .int (nI n), .int (nI ww), .int u'_3, .int l'_4, .int v'_5]), (ra, aI g 8 rf1), (sa, aI g 8 sf1), (ta, aI g 8 tf1)]) (y := yX3_wholeAfter) C S (va_runV (As := [.int (nI (lstN (fun p9 => fb (nu 1) (R0 nu) (nu 3) n p9 ww) 999 1))]) (rest := [.int (nI (pop ww))]) C.1 (kX3_wholeAfter l g P ra sa ta rf1 sf1 tf1 n ww u'_3 l'_4 v'_5 (R0 nu) (nu 1) (nu 3) (lstN (fun p9 => fb (nu 1) (R0 nu) (nu 3) n p9 ww) 999 1) (by first | assumption | omega) (by first | assumption | omega) (by first | assumption | omega) (by first | assumption | omega) (by first | assumption | omega) (by first | assumption | omega) (by first | assumption | omega) (by first | assumption | omega) (by first | assumption | omega) H.size) (cwV 1 hts gX6_least_X3_wholeAfter rfl rfl rfl (by decide +kernel) ⟨Nat.le_of_ble_eq_true rfl, Nat.le_of_ble_eq_true rfl⟩) (preV_at C S 3 rfl rfl [3, 4, 5, 6] rfl (by decide)) rfl rfl hl.1 rfl (lv_room (Nat.le_of_ble_eq_true rfl)) dX6_least_75 ⟨Nat.le_of_ble_eq_true rfl, Nat.le_of_ble_eq_true rfl⟩) [3, 4, 5, 6] [0, 1, 2] rfl (wr := [(O, ob 6 [.ref h, .ref dh, .ref th, .ref HH, .ref IM, .ref SG, .ref P, .ref ca]), (h, ob 2 [.ref q, .int (nI n), .int (nI ww)]), (q, aI g 32 f)]) rfl (by decide) (by decide) (fun r0 w0 H locs hq S => ?_)
            obtain ⟨rfl, u'_9, l'_10, v'_11, rfl⟩ := hq
            have S : ST g A ss H locs [(O, ob 6 [.ref h, .ref dh, .ref th, .ref HH, .ref IM, .ref SG, .ref P, .ref ca]), (h, ob 2 [.ref q, .int (nI n), .int (nI ww)]), (q, aI g 32 f), (P, ob 3 [.ref ra, .ref sa, .ref ta, .int (nI n), .int (nI (wa (fb (nu 1) (R0 nu) (nu 3) n (lstN (fun p9 => fb (nu 1) (R0 nu) (nu 3) n p9 ww) 999 1)) 8 ww)), .int u'_9, .int l'_10, .int v'_11]), (ra, aI g 8 rf1), (sa, aI g 8 sf1), (ta, aI g 8 tf1)] := S
            refine after_I (wc := []) (y := yJ6_bitCount_0f7a4) C S (va_runS (As := [.int (nI (wa (fb (nu 1) (R0 nu) (nu 3) n (lstN (fun p9 => fb (nu 1) (R0 nu) (nu 3) n p9 ww) 999 1)) 8 ww))]) (rest := [.int (nI (pop ww))]) C.1 (kJ6_bitCount_0f7a4 l g (wa (fb (nu 1) (R0 nu) (nu 3) n (lstN (fun p9 => fb (nu 1) (R0 nu) (nu 3) n p9 ww) 999 1)) 8 ww) (Nat.lt_of_lt_of_le (wa_lt 8 ww hww) (by decide)) H.size) (va_cwS 1 hts gX6_least_J6_bitCount_0f7a4 rfl rfl rfl (by decide +kernel) ⟨Nat.le_of_ble_eq_true rfl, Nat.le_of_ble_eq_true rfl⟩) (preS_at C S [] rfl (by decide)) rfl rfl hl.1 rfl (lv_room (Nat.le_of_ble_eq_true rfl)) dX6_least_78 ⟨Nat.le_of_ble_eq_true rfl, Nat.le_of_ble_eq_true rfl⟩) [] [0, 1, 2, 3, 4, 5, 6] rfl (wr := [(O, ob 6 [.ref h, .ref dh, .ref th, .ref HH, .ref IM, .ref SG, .ref P, .ref ca]), (h, ob 2 [.ref q, .int (nI n), .int (nI ww)]), (q, aI g 32 f), (P, ob 3 [.ref ra, .ref sa, .ref ta, .int (nI n), .int (nI (wa (fb (nu 1) (R0 nu) (nu 3) n (lstN (fun p9 => fb (nu 1) (R0 nu) (nu 3) n p9 ww) 999 1)) 8 ww)), .int u'_9, .int l'_10, .int v'_11]), (ra, aI g 8 rf1), (sa, aI g 8 sf1), (ta, aI g 8 tf1)]) rfl (by decide) (by decide) (fun r0 w0 H locs hq S => ?_)
            obtain ⟨rfl, rfl⟩ := hq
            have S : ST g A ss H locs [(O, ob 6 [.ref h, .ref dh, .ref th, .ref HH, .ref IM, .ref SG, .ref P, .ref ca]), (h, ob 2 [.ref q, .int (nI n), .int (nI ww)]), (q, aI g 32 f), (P, ob 3 [.ref ra, .ref sa, .ref ta, .int (nI n), .int (nI (wa (fb (nu 1) (R0 nu) (nu 3) n (lstN (fun p9 => fb (nu 1) (R0 nu) (nu 3) n p9 ww) 999 1)) 8 ww)), .int u'_9, .int l'_10, .int v'_11]), (ra, aI g 8 rf1), (sa, aI g 8 sf1), (ta, aI g 8 tf1)] := S
            refine lv_isub hx hb dX6_least_81 ?_
            exact ret_I C S hr dX6_least_82 ⟨(Eq.trans (show _ = leastA nu n ww w by unfold leastA; rw [if_pos c_6, if_neg c_7, if_neg c_8]) (chk1_ok (by omega) (by decide)).symm), (nI n), (nI (wa (fb (nu 1) (R0 nu) (nu 3) n (lstN (fun p9 => fb (nu 1) (R0 nu) (nu 3) n p9 ww) 999 1)) 8 ww)), u'_9, l'_10, v'_11, rf1, sf1, tf1, (rfl)⟩
          · -- 48 F
            refine lv_aload_n hx hb dX6_least_51 rfl (lv_at hl 1 rfl) ?_
            refine top_get C S inX6_least_X6 rfl 0 rfl 6 (by decide) (by decide +kernel) rfl rfl dX6_least_52 ?_
            refine lv_iload_n hx hb dX6_least_55 rfl (lv_at hl 0 rfl) ?_
            refine after_I (wc := [(P, ob 3 [.ref ra, .ref sa, .ref ta, .int (nI n), .int (nI ww), .int u'_3, .int l'_4, .int v'_5]), (ra, aI g 8 rf1), (sa, aI g 8 sf1), (ta, aI g 8 tf1)]) (y := yX3_firstToBreak) C S (va_runV (As := [.int (nI (lstN (fun p9 => fb (nu 1) (R0 nu) (nu 3) n p9 ww) 999 1))]) (rest := []) C.1 (kX3_firstToBreak l g P ra sa ta rf1 sf1 tf1 n ww u'_3 l'_4 v'_5 (R0 nu) (nu 1) (nu 3) (lstN (fun p9 => fb (nu 1) (R0 nu) (nu 3) n p9 ww) 999 1) (by first | assumption | omega) (by first | assumption | omega) (by first | assumption | omega) (by first | assumption | omega) (by first | assumption | omega) (by first | assumption | omega) (by first | assumption | omega) (by first | assumption | omega) (by first | assumption | omega) H.size) (cwV 1 hts gX6_least_X3_firstToBreak rfl rfl rfl (by decide +kernel) ⟨Nat.le_of_ble_eq_true rfl, Nat.le_of_ble_eq_true rfl⟩) (preV_at C S 3 rfl rfl [3, 4, 5, 6] rfl (by decide)) rfl rfl hl.1 rfl (lv_room (Nat.le_of_ble_eq_true rfl)) dX6_least_56 ⟨Nat.le_of_ble_eq_true rfl, Nat.le_of_ble_eq_true rfl⟩) [3, 4, 5, 6] [0, 1, 2] rfl (wr := [(O, ob 6 [.ref h, .ref dh, .ref th, .ref HH, .ref IM, .ref SG, .ref P, .ref ca]), (h, ob 2 [.ref q, .int (nI n), .int (nI ww)]), (q, aI g 32 f)]) rfl (by decide) (by decide) (fun r0 w0 H locs hq S => ?_)
            obtain ⟨rfl, rfl⟩ := hq
            have S : ST g A ss H locs [(O, ob 6 [.ref h, .ref dh, .ref th, .ref HH, .ref IM, .ref SG, .ref P, .ref ca]), (h, ob 2 [.ref q, .int (nI n), .int (nI ww)]), (q, aI g 32 f), (P, ob 3 [.ref ra, .ref sa, .ref ta, .int (nI n), .int (nI ww), .int (nI (uppN (nu 1) (R0 nu) ww (lstN (fun p9 => fb (nu 1) (R0 nu) (nu 3) n p9 ww) 999 1) n)), .int (nI (lowN (nu 1) (R0 nu) ww (lstN (fun p9 => fb (nu 1) (R0 nu) (nu 3) n p9 ww) 999 1) n)), .int (nI ((pr (nu 1) (R0 nu) ww (lstN (fun p9 => fb (nu 1) (R0 nu) (nu 3) n p9 ww) 999 1) n).1))]), (ra, aI g 8 rf1), (sa, aI g 8 sf1), (ta, aI g 8 tf1)] := S
            exact ret_I C S hr dX6_least_59 ⟨(Eq.trans (show _ = leastA nu n ww w by unfold leastA; rw [if_pos c_6, if_neg c_7, if_pos c_8]) (chk1_ok (by omega) (by decide)).symm), (nI n), (nI ww), (nI (uppN (nu 1) (R0 nu) ww (lstN (fun p9 => fb (nu 1) (R0 nu) (nu 3) n p9 ww) 999 1) n)), (nI (lowN (nu 1) (R0 nu) ww (lstN (fun p9 => fb (nu 1) (R0 nu) (nu 3) n p9 ww) 999 1) n)), (nI ((pr (nu 1) (R0 nu) ww (lstN (fun p9 => fb (nu 1) (R0 nu) (nu 3) n p9 ww) 999 1) n).1)), rf1, sf1, tf1, (rfl)⟩
        · -- 41 F
          refine lv_iload_n hx hb dX6_least_44 rfl (lv_at hl 0 rfl) ?_
          exact ret_I C S hr dX6_least_45 ⟨(Eq.trans (show _ = leastA nu n ww w by unfold leastA; rw [if_pos c_6, if_pos c_7]) (chk1_ok (by omega) (by decide)).symm), (nI n), (nI ww), u'_3, l'_4, v'_5, rf1, sf1, tf1, (rfl)⟩
      · -- 34 F
        refine lv_bipush (v := (-9)) hx hb dX6_least_37 (by decide) ?_
        exact ret_I C S hr dX6_least_39 ⟨(Eq.trans (show _ = leastA nu n ww w by unfold leastA; rw [if_neg c_6]) (chk1_ok (by omega) (by decide)).symm), (nI n), (nI ww), u'_3, l'_4, v'_5, rf1, sf1, tf1, (rfl)⟩
    · -- 6 F
      refine lv_iconst (v := (-1)) hx hb dX6_least_9 (by decide) ?_
      exact ret_I C S hr dX6_least_10 ⟨((chk1_bad (ok_nle (k := 2) rfl (by decide) c_2)).symm), p1, p2, p3, p4, p5, rf, sf, tf, (rfl)⟩
