theorem inX0_push_X0 : ∀ w ∈ wsX00, w ∈ wsX0_push := by decide +kernel
set_option maxRecDepth 100000 in
set_option maxHeartbeats 4000000 in
theorem kX0_push (l : Launch) (g : GG) (HH : Nat) (rg : Nat) (ro : Nat → Option Nat) (a0 : Nat) (b0 : Nat) (a1 : Nat) (b1 : Nat) (a2 : Nat) (b2 : Nat) (a3 : Nat) (b3 : Nat) (a4 : Nat) (b4 : Nat) (a5 : Nat) (b5 : Nat) (fs : Nat → Nat → Int32) (ns : Nat → Nat) (wbs : Nat → Nat) (k : Nat) (z : Nat) (h : Nat) (q : Nat) (f : Nat → Int32) (n : Nat) (ww : Nat) (hro : ro 0 = some a0 ∧ ro 1 = some a1 ∧ ro 2 = some a2 ∧ ro 3 = some a3 ∧ ro 4 = some a4 ∧ ro 5 = some a5) (hk : k < 6) (hz : z ≤ 6) : KV l g yX0_push wsX0_push 2 85 [.ref HH, .ref h] [(HH, ob 0 [.ref rg, .int (nI k), .int (nI z)]), (rg, aO g 6 ro), (a0, ob 2 [.ref b0, .int (nI (ns 0)), .int (nI (wbs 0))]), (b0, aI g 32 (fs 0)), (a1, ob 2 [.ref b1, .int (nI (ns 1)), .int (nI (wbs 1))]), (b1, aI g 32 (fs 1)), (a2, ob 2 [.ref b2, .int (nI (ns 2)), .int (nI (wbs 2))]), (b2, aI g 32 (fs 2)), (a3, ob 2 [.ref b3, .int (nI (ns 3)), .int (nI (wbs 3))]), (b3, aI g 32 (fs 3)), (a4, ob 2 [.ref b4, .int (nI (ns 4)), .int (nI (wbs 4))]), (b4, aI g 32 (fs 4)), (a5, ob 2 [.ref b5, .int (nI (ns 5)), .int (nI (wbs 5))]), (b5, aI g 32 (fs 5)), (h, ob 2 [.ref q, .int (nI n), .int (nI ww)]), (q, aI g 32 f)] (fun (w' : va_W) => ∃ (f' : Nat → Int32), (∀ j, j < 32 → f' j = f j) ∧ w' = [(HH, ob 0 [.ref rg, .int (nI (nxt k)), .int (nI (min (z + 1) 6))]), (rg, aO g 6 ro), (a0, ob 2 [.ref b0, .int (nI (updA ns k n 0)), .int (nI (updA wbs k ww 0))]), (b0, aI g 32 (updA fs k f' 0)), (a1, ob 2 [.ref b1, .int (nI (updA ns k n 1)), .int (nI (updA wbs k ww 1))]), (b1, aI g 32 (updA fs k f' 1)), (a2, ob 2 [.ref b2, .int (nI (updA ns k n 2)), .int (nI (updA wbs k ww 2))]), (b2, aI g 32 (updA fs k f' 2)), (a3, ob 2 [.ref b3, .int (nI (updA ns k n 3)), .int (nI (updA wbs k ww 3))]), (b3, aI g 32 (updA fs k f' 3)), (a4, ob 2 [.ref b4, .int (nI (updA ns k n 4)), .int (nI (updA wbs k ww 4))]), (b4, aI g 32 (updA fs k f' 4)), (a5, ob 2 [.ref b5, .int (nI (updA ns k n 5)), .int (nI (updA wbs k ww 5))]), (b5, aI g 32 (updA fs k f' 5)), (h, ob 2 [.ref q, .int (nI n), .int (nI ww)]), (q, aI g 32 f)]) := by
  refine kV_of (cc := cX0_push) (maxL := 2) (by decide) rfl (Nat.le_of_ble_eq_true rfl) ?_
  intro pp ee ss mm bel mth cd A ls C S hr hl
  obtain ⟨hx, hb, hml, hown, hts⟩ := id C.1
  have hl : lv_has ls 2 [(0, .ref HH), (1, .ref h)] := hl
  obtain ⟨H, hH⟩ : ∃ H, H = ss.heap := ⟨_, rfl⟩
  obtain ⟨locs, hL0⟩ : ∃ L : List Loc, L = [] := ⟨_, rfl⟩
  rw [← hH, ← hL0] at S ⊢
  rcases (show k = 0 ∨ k = 1 ∨ k = 2 ∨ k = 3 ∨ k = 4 ∨ k = 5 by omega) with rfl | rfl | rfl | rfl | rfl | rfl
  · -- k = 0
    refine lv_aload_n hx hb dX0_push_0 rfl (lv_at hl 0 rfl) ?_
    refine top_get C S inX0_push_X0 rfl 0 rfl 0 (by decide) (by decide +kernel) rfl rfl dX0_push_1 ?_
    refine lv_aload_n hx hb dX0_push_4 rfl (lv_at hl 0 rfl) ?_
    refine top_get C S inX0_push_X0 rfl 0 rfl 1 (by decide) (by decide +kernel) rfl rfl dX0_push_5 ?_
    refine top_old C S 1 rfl (j := 0) rfl (by omega) (by decide) (by exact hro.1) dX0_push_8 ?_
    refine lv_aload_n hx hb dX0_push_9 rfl (lv_at hl 1 rfl) ?_
    refine after_V (wc := [(a0, ob 2 [.ref b0, .int (nI (ns 0)), .int (nI (wbs 0))]), (b0, aI g 32 (fs 0)), (h, ob 2 [.ref q, .int (nI n), .int (nI ww)]), (q, aI g 32 f)]) (y := yX2_become) C S (va_runV (As := [.ref h]) (rest := []) C.1 (kX2_become l g a0 b0 (fs 0) (ns 0) (wbs 0) h q f n ww H.size) (cwV 1 hts gX0_push_X2_become rfl rfl rfl (by decide +kernel) ⟨Nat.le_of_ble_eq_true rfl, Nat.le_of_ble_eq_true rfl⟩) (preV_at C S 2 rfl rfl [2, 3, 14, 15] rfl (by decide)) rfl rfl hl.1 rfl (lv_room (Nat.le_of_ble_eq_true rfl)) dX0_push_10 ⟨Nat.le_of_ble_eq_true rfl, Nat.le_of_ble_eq_true rfl⟩) [2, 3, 14, 15] [0, 1, 4, 5, 6, 7, 8, 9, 10, 11, 12, 13] rfl (wr := [(HH, ob 0 [.ref rg, .int (nI 0), .int (nI z)]), (rg, aO g 6 ro), (a1, ob 2 [.ref b1, .int (nI (ns 1)), .int (nI (wbs 1))]), (b1, aI g 32 (fs 1)), (a2, ob 2 [.ref b2, .int (nI (ns 2)), .int (nI (wbs 2))]), (b2, aI g 32 (fs 2)), (a3, ob 2 [.ref b3, .int (nI (ns 3)), .int (nI (wbs 3))]), (b3, aI g 32 (fs 3)), (a4, ob 2 [.ref b4, .int (nI (ns 4)), .int (nI (wbs 4))]), (b4, aI g 32 (fs 4)), (a5, ob 2 [.ref b5, .int (nI (ns 5)), .int (nI (wbs 5))]), (b5, aI g 32 (fs 5))]) rfl (by decide) (by decide) (fun w0 H locs hq S => ?_)
    obtain ⟨f9, hf9, rfl⟩ := hq
    have S : ST g A ss H locs [(HH, ob 0 [.ref rg, .int (nI 0), .int (nI z)]), (rg, aO g 6 ro), (a0, ob 2 [.ref b0, .int (nI n), .int (nI ww)]), (b0, aI g 32 f9), (a1, ob 2 [.ref b1, .int (nI (ns 1)), .int (nI (wbs 1))]), (b1, aI g 32 (fs 1)), (a2, ob 2 [.ref b2, .int (nI (ns 2)), .int (nI (wbs 2))]), (b2, aI g 32 (fs 2)), (a3, ob 2 [.ref b3, .int (nI (ns 3)), .int (nI (wbs 3))]), (b3, aI g 32 (fs 3)), (a4, ob 2 [.ref b4, .int (nI (ns 4)), .int (nI (wbs 4))]), (b4, aI g 32 (fs 4)), (a5, ob 2 [.ref b5, .int (nI (ns 5)), .int (nI (wbs 5))]), (b5, aI g 32 (fs 5)), (h, ob 2 [.ref q, .int (nI n), .int (nI ww)]), (q, aI g 32 f)] := ST.sub S [0, 1, 12, 13, 2, 3, 4, 5, 6, 7, 8, 9, 10, 11, 14, 15] (by decide) rfl
    refine lv_aload_n hx hb dX0_push_13 rfl (lv_at hl 0 rfl) ?_
    refine lv_aload_n hx hb dX0_push_14 rfl (lv_at hl 0 rfl) ?_
    refine top_get C S inX0_push_X0 rfl 0 rfl 1 (by decide) (by decide +kernel) rfl rfl dX0_push_15 ?_
    refine lv_iconst (v := 5) hx hb dX0_push_18 (by decide) ?_
    refine bn_ine (tgt := 26) (a := 0) (b := 5) hx hb rfl rfl (by omega) (by omega) dX0_push_19 (by decide) (fun c_1 => ?_) (fun c_1 => ?_)
    · -- 19 T
      refine lv_aload_n hx hb dX0_push_26 rfl (lv_at hl 0 rfl) ?_
      refine top_get C S inX0_push_X0 rfl 0 rfl 1 (by decide) (by decide +kernel) rfl rfl dX0_push_27 ?_
      refine lv_iconst (v := 1) hx hb dX0_push_30 (by decide) ?_
      refine lv_iadd hx hb dX0_push_31 ?_
      refine top_eq (y := nI (0 + 1)) (nI_add _ _) ?_
      refine top_put (ty := .int) C S inX0_push_X0 tyX0 tyX0_ok nmX0 rfl 0 rfl 1 (by decide) (by decide +kernel) rfl rfl (tyX0_ok 1 (by decide)) rfl rfl (Nat.le_of_ble_eq_true rfl) dX0_push_32 (fun H locs S => ?_)
      have S : ST g A ss H locs [(HH, ob 0 [.ref rg, .int (nI (0 + 1)), .int (nI z)]), (rg, aO g 6 ro), (a0, ob 2 [.ref b0, .int (nI n), .int (nI ww)]), (b0, aI g 32 f9), (a1, ob 2 [.ref b1, .int (nI (ns 1)), .int (nI (wbs 1))]), (b1, aI g 32 (fs 1)), (a2, ob 2 [.ref b2, .int (nI (ns 2)), .int (nI (wbs 2))]), (b2, aI g 32 (fs 2)), (a3, ob 2 [.ref b3, .int (nI (ns 3)), .int (nI (wbs 3))]), (b3, aI g 32 (fs 3)), (a4, ob 2 [.ref b4, .int (nI (ns 4)), .int (nI (wbs 4))]), (b4, aI g 32 (fs 4)), (a5, ob 2 [.ref b5, .int (nI (ns 5)), .int (nI (wbs 5))]), (b5, aI g 32 (fs 5)), (h, ob 2 [.ref q, .int (nI n), .int (nI ww)]), (q, aI g 32 f)] := S
      refine lv_aload_n hx hb dX0_push_35 rfl (lv_at hl 0 rfl) ?_
      refine lv_aload_n hx hb dX0_push_36 rfl (lv_at hl 0 rfl) ?_
      refine top_get C S inX0_push_X0 rfl 0 rfl 2 (by decide) (by decide +kernel) rfl rfl dX0_push_37 ?_
      refine lv_iconst (v := 1) hx hb dX0_push_40 (by decide) ?_
      refine lv_iadd hx hb dX0_push_41 ?_
      refine top_eq (y := nI (z + 1)) (nI_add _ _) ?_
      refine lv_bipush (v := 6) hx hb dX0_push_42 (by decide) ?_
      refine va_mmin hx hb (hml.trans hl.1.symm) hown (hts (.methodLink RX0 29 Lib.Math.min.name) (by decide +kernel)) (hts (.static Lib.Math.min.name) (by decide +kernel)) (hts (.initialized "java/lang/Math") (by decide +kernel)) (hts (.code Lib.Math.min.name Lib.Math.min.code 2 (some .int)) (by decide +kernel)) (Nat.le_of_ble_eq_true rfl) (Nat.le_of_ble_eq_true rfl) (Nat.le_of_ble_eq_true rfl) (Nat.le_of_ble_eq_true rfl) dX0_push_44 ?_
      refine top_eq (y := imin (nI (z + 1)) 6) rfl ?_
      refine top_eq (y := nI (min (z + 1) 6)) (imin_N (a := z + 1) (b := 6) (by omega) (by omega)) ?_
      refine top_put (ty := .int) C S inX0_push_X0 tyX0 tyX0_ok nmX0 rfl 0 rfl 2 (by decide) (by decide +kernel) rfl rfl (tyX0_ok 2 (by decide)) rfl rfl (Nat.le_of_ble_eq_true rfl) dX0_push_47 (fun H locs S => ?_)
      have S : ST g A ss H locs [(HH, ob 0 [.ref rg, .int (nI (0 + 1)), .int (nI (min (z + 1) 6))]), (rg, aO g 6 ro), (a0, ob 2 [.ref b0, .int (nI n), .int (nI ww)]), (b0, aI g 32 f9), (a1, ob 2 [.ref b1, .int (nI (ns 1)), .int (nI (wbs 1))]), (b1, aI g 32 (fs 1)), (a2, ob 2 [.ref b2, .int (nI (ns 2)), .int (nI (wbs 2))]), (b2, aI g 32 (fs 2)), (a3, ob 2 [.ref b3, .int (nI (ns 3)), .int (nI (wbs 3))]), (b3, aI g 32 (fs 3)), (a4, ob 2 [.ref b4, .int (nI (ns 4)), .int (nI (wbs 4))]), (b4, aI g 32 (fs 4)), (a5, ob 2 [.ref b5, .int (nI (ns 5)), .int (nI (wbs 5))]), (b5, aI g 32 (fs 5)), (h, ob 2 [.ref q, .int (nI n), .int (nI ww)]), (q, aI g 32 f)] := S
      exact ret_V C S hr dX0_push_50 ⟨f9, (hf9), (by first | rfl | simp only [if_neg c_1])⟩
    · -- 19 F
      exact absurd c_1 (by decide)
  · -- k = 1
    refine lv_aload_n hx hb dX0_push_0 rfl (lv_at hl 0 rfl) ?_
    refine top_get C S inX0_push_X0 rfl 0 rfl 0 (by decide) (by decide +kernel) rfl rfl dX0_push_1 ?_
    refine lv_aload_n hx hb dX0_push_4 rfl (lv_at hl 0 rfl) ?_
    refine top_get C S inX0_push_X0 rfl 0 rfl 1 (by decide) (by decide +kernel) rfl rfl dX0_push_5 ?_
    refine top_old C S 1 rfl (j := 1) rfl (by omega) (by decide) (by exact hro.2.1) dX0_push_8 ?_
    refine lv_aload_n hx hb dX0_push_9 rfl (lv_at hl 1 rfl) ?_
    refine after_V (wc := [(a1, ob 2 [.ref b1, .int (nI (ns 1)), .int (nI (wbs 1))]), (b1, aI g 32 (fs 1)), (h, ob 2 [.ref q, .int (nI n), .int (nI ww)]), (q, aI g 32 f)]) (y := yX2_become) C S (va_runV (As := [.ref h]) (rest := []) C.1 (kX2_become l g a1 b1 (fs 1) (ns 1) (wbs 1) h q f n ww H.size) (cwV 1 hts gX0_push_X2_become rfl rfl rfl (by decide +kernel) ⟨Nat.le_of_ble_eq_true rfl, Nat.le_of_ble_eq_true rfl⟩) (preV_at C S 4 rfl rfl [4, 5, 14, 15] rfl (by decide)) rfl rfl hl.1 rfl (lv_room (Nat.le_of_ble_eq_true rfl)) dX0_push_10 ⟨Nat.le_of_ble_eq_true rfl, Nat.le_of_ble_eq_true rfl⟩) [4, 5, 14, 15] [0, 1, 2, 3, 6, 7, 8, 9, 10, 11, 12, 13] rfl (wr := [(HH, ob 0 [.ref rg, .int (nI 1), .int (nI z)]), (rg, aO g 6 ro), (a0, ob 2 [.ref b0, .int (nI (ns 0)), .int (nI (wbs 0))]), (b0, aI g 32 (fs 0)), (a2, ob 2 [.ref b2, .int (nI (ns 2)), .int (nI (wbs 2))]), (b2, aI g 32 (fs 2)), (a3, ob 2 [.ref b3, .int (nI (ns 3)), .int (nI (wbs 3))]), (b3, aI g 32 (fs 3)), (a4, ob 2 [.ref b4, .int (nI (ns 4)), .int (nI (wbs 4))]), (b4, aI g 32 (fs 4)), (a5, ob 2 [.ref b5, .int (nI (ns 5)), .int (nI (wbs 5))]), (b5, aI g 32 (fs 5))]) rfl (by decide) (by decide) (fun w0 H locs hq S => ?_)
    obtain ⟨f9, hf9, rfl⟩ := hq
    have S : ST g A ss H locs [(HH, ob 0 [.ref rg, .int (nI 1), .int (nI z)]), (rg, aO g 6 ro), (a0, ob 2 [.ref b0, .int (nI (ns 0)), .int (nI (wbs 0))]), (b0, aI g 32 (fs 0)), (a1, ob 2 [.ref b1, .int (nI n), .int (nI ww)]), (b1, aI g 32 f9), (a2, ob 2 [.ref b2, .int (nI (ns 2)), .int (nI (wbs 2))]), (b2, aI g 32 (fs 2)), (a3, ob 2 [.ref b3, .int (nI (ns 3)), .int (nI (wbs 3))]), (b3, aI g 32 (fs 3)), (a4, ob 2 [.ref b4, .int (nI (ns 4)), .int (nI (wbs 4))]), (b4, aI g 32 (fs 4)), (a5, ob 2 [.ref b5, .int (nI (ns 5)), .int (nI (wbs 5))]), (b5, aI g 32 (fs 5)), (h, ob 2 [.ref q, .int (nI n), .int (nI ww)]), (q, aI g 32 f)] := ST.sub S [0, 1, 2, 3, 12, 13, 4, 5, 6, 7, 8, 9, 10, 11, 14, 15] (by decide) rfl
    refine lv_aload_n hx hb dX0_push_13 rfl (lv_at hl 0 rfl) ?_
    refine lv_aload_n hx hb dX0_push_14 rfl (lv_at hl 0 rfl) ?_
    refine top_get C S inX0_push_X0 rfl 0 rfl 1 (by decide) (by decide +kernel) rfl rfl dX0_push_15 ?_
    refine lv_iconst (v := 5) hx hb dX0_push_18 (by decide) ?_
    refine bn_ine (tgt := 26) (a := 1) (b := 5) hx hb rfl rfl (by omega) (by omega) dX0_push_19 (by decide) (fun c_2 => ?_) (fun c_2 => ?_)
    · -- 19 T
      refine lv_aload_n hx hb dX0_push_26 rfl (lv_at hl 0 rfl) ?_
      refine top_get C S inX0_push_X0 rfl 0 rfl 1 (by decide) (by decide +kernel) rfl rfl dX0_push_27 ?_
      refine lv_iconst (v := 1) hx hb dX0_push_30 (by decide) ?_
      refine lv_iadd hx hb dX0_push_31 ?_
      refine top_eq (y := nI (1 + 1)) (nI_add _ _) ?_
      refine top_put (ty := .int) C S inX0_push_X0 tyX0 tyX0_ok nmX0 rfl 0 rfl 1 (by decide) (by decide +kernel) rfl rfl (tyX0_ok 1 (by decide)) rfl rfl (Nat.le_of_ble_eq_true rfl) dX0_push_32 (fun H locs S => ?_)
      have S : ST g A ss H locs [(HH, ob 0 [.ref rg, .int (nI (1 + 1)), .int (nI z)]), (rg, aO g 6 ro), (a0, ob 2 [.ref b0, .int (nI (ns 0)), .int (nI (wbs 0))]), (b0, aI g 32 (fs 0)), (a1, ob 2 [.ref b1, .int (nI n), .int (nI ww)]), (b1, aI g 32 f9), (a2, ob 2 [.ref b2, .int (nI (ns 2)), .int (nI (wbs 2))]), (b2, aI g 32 (fs 2)), (a3, ob 2 [.ref b3, .int (nI (ns 3)), .int (nI (wbs 3))]), (b3, aI g 32 (fs 3)), (a4, ob 2 [.ref b4, .int (nI (ns 4)), .int (nI (wbs 4))]), (b4, aI g 32 (fs 4)), (a5, ob 2 [.ref b5, .int (nI (ns 5)), .int (nI (wbs 5))]), (b5, aI g 32 (fs 5)), (h, ob 2 [.ref q, .int (nI n), .int (nI ww)]), (q, aI g 32 f)] := S
      refine lv_aload_n hx hb dX0_push_35 rfl (lv_at hl 0 rfl) ?_
      refine lv_aload_n hx hb dX0_push_36 rfl (lv_at hl 0 rfl) ?_
      refine top_get C S inX0_push_X0 rfl 0 rfl 2 (by decide) (by decide +kernel) rfl rfl dX0_push_37 ?_
      refine lv_iconst (v := 1) hx hb dX0_push_40 (by decide) ?_
      refine lv_iadd hx hb dX0_push_41 ?_
      refine top_eq (y := nI (z + 1)) (nI_add _ _) ?_
      refine lv_bipush (v := 6) hx hb dX0_push_42 (by decide) ?_
      refine va_mmin hx hb (hml.trans hl.1.symm) hown (hts (.methodLink RX0 29 Lib.Math.min.name) (by decide +kernel)) (hts (.static Lib.Math.min.name) (by decide +kernel)) (hts (.initialized "java/lang/Math") (by decide +kernel)) (hts (.code Lib.Math.min.name Lib.Math.min.code 2 (some .int)) (by decide +kernel)) (Nat.le_of_ble_eq_true rfl) (Nat.le_of_ble_eq_true rfl) (Nat.le_of_ble_eq_true rfl) (Nat.le_of_ble_eq_true rfl) dX0_push_44 ?_
      refine top_eq (y := imin (nI (z + 1)) 6) rfl ?_
      refine top_eq (y := nI (min (z + 1) 6)) (imin_N (a := z + 1) (b := 6) (by omega) (by omega)) ?_
      refine top_put (ty := .int) C S inX0_push_X0 tyX0 tyX0_ok nmX0 rfl 0 rfl 2 (by decide) (by decide +kernel) rfl rfl (tyX0_ok 2 (by decide)) rfl rfl (Nat.le_of_ble_eq_true rfl) dX0_push_47 (fun H locs S => ?_)
      have S : ST g A ss H locs [(HH, ob 0 [.ref rg, .int (nI (1 + 1)), .int (nI (min (z + 1) 6))]), (rg, aO g 6 ro), (a0, ob 2 [.ref b0, .int (nI (ns 0)), .int (nI (wbs 0))]), (b0, aI g 32 (fs 0)), (a1, ob 2 [.ref b1, .int (nI n), .int (nI ww)]), (b1, aI g 32 f9), (a2, ob 2 [.ref b2, .int (nI (ns 2)), .int (nI (wbs 2))]), (b2, aI g 32 (fs 2)), (a3, ob 2 [.ref b3, .int (nI (ns 3)), .int (nI (wbs 3))]), (b3, aI g 32 (fs 3)), (a4, ob 2 [.ref b4, .int (nI (ns 4)), .int (nI (wbs 4))]), (b4, aI g 32 (fs 4)), (a5, ob 2 [.ref b5, .int (nI (ns 5)), .int (nI (wbs 5))]), (b5, aI g 32 (fs 5)), (h, ob 2 [.ref q, .int (nI n), .int (nI ww)]), (q, aI g 32 f)] := S
      exact ret_V C S hr dX0_push_50 ⟨f9, (hf9), (by first | rfl | simp only [if_neg c_2])⟩
    · -- 19 F
      exact absurd c_2 (by decide)
  · -- k = 2
    refine lv_aload_n hx hb dX0_push_0 rfl (lv_at hl 0 rfl) ?_
    refine top_get C S inX0_push_X0 rfl 0 rfl 0 (by decide) (by decide +kernel) rfl rfl dX0_push_1 ?_
    refine lv_aload_n hx hb dX0_push_4 rfl (lv_at hl 0 rfl) ?_
    refine top_get C S inX0_push_X0 rfl 0 rfl 1 (by decide) (by decide +kernel) rfl rfl dX0_push_5 ?_
    refine top_old C S 1 rfl (j := 2) rfl (by omega) (by decide) (by exact hro.2.2.1) dX0_push_8 ?_
    refine lv_aload_n hx hb dX0_push_9 rfl (lv_at hl 1 rfl) ?_
    refine after_V (wc := [(a2, ob 2 [.ref b2, .int (nI (ns 2)), .int (nI (wbs 2))]), (b2, aI g 32 (fs 2)), (h, ob 2 [.ref q, .int (nI n), .int (nI ww)]), (q, aI g 32 f)]) (y := yX2_become) C S (va_runV (As := [.ref h]) (rest := []) C.1 (kX2_become l g a2 b2 (fs 2) (ns 2) (wbs 2) h q f n ww H.size) (cwV 1 hts gX0_push_X2_become rfl rfl rfl (by decide +kernel) ⟨Nat.le_of_ble_eq_true rfl, Nat.le_of_ble_eq_true rfl⟩) (preV_at C S 6 rfl rfl [6, 7, 14, 15] rfl (by decide)) rfl rfl hl.1 rfl (lv_room (Nat.le_of_ble_eq_true rfl)) dX0_push_10 ⟨Nat.le_of_ble_eq_true rfl, Nat.le_of_ble_eq_true rfl⟩) [6, 7, 14, 15] [0, 1, 2, 3, 4, 5, 8, 9, 10, 11, 12, 13] rfl (wr := [(HH, ob 0 [.ref rg, .int (nI 2), .int (nI z)]), (rg, aO g 6 ro), (a0, ob 2 [.ref b0, .int (nI (ns 0)), .int (nI (wbs 0))]), (b0, aI g 32 (fs 0)), (a1, ob 2 [.ref b1, .int (nI (ns 1)), .int (nI (wbs 1))]), (b1, aI g 32 (fs 1)), (a3, ob 2 [.ref b3, .int (nI (ns 3)), .int (nI (wbs 3))]), (b3, aI g 32 (fs 3)), (a4, ob 2 [.ref b4, .int (nI (ns 4)), .int (nI (wbs 4))]), (b4, aI g 32 (fs 4)), (a5, ob 2 [.ref b5, .int (nI (ns 5)), .int (nI (wbs 5))]), (b5, aI g 32 (fs 5))]) rfl (by decide) (by decide) (fun w0 H locs hq S => ?_)
    obtain ⟨f9, hf9, rfl⟩ := hq
    have S : ST g A ss H locs [(HH, ob 0 [.ref rg, .int (nI 2), .int (nI z)]), (rg, aO g 6 ro), (a0, ob 2 [.ref b0, .int (nI (ns 0)), .int (nI (wbs 0))]), (b0, aI g 32 (fs 0)), (a1, ob 2 [.ref b1, .int (nI (ns 1)), .int (nI (wbs 1))]), (b1, aI g 32 (fs 1)), (a2, ob 2 [.ref b2, .int (nI n), .int (nI ww)]), (b2, aI g 32 f9), (a3, ob 2 [.ref b3, .int (nI (ns 3)), .int (nI (wbs 3))]), (b3, aI g 32 (fs 3)), (a4, ob 2 [.ref b4, .int (nI (ns 4)), .int (nI (wbs 4))]), (b4, aI g 32 (fs 4)), (a5, ob 2 [.ref b5, .int (nI (ns 5)), .int (nI (wbs 5))]), (b5, aI g 32 (fs 5)), (h, ob 2 [.ref q, .int (nI n), .int (nI ww)]), (q, aI g 32 f)] := ST.sub S [0, 1, 2, 3, 4, 5, 12, 13, 6, 7, 8, 9, 10, 11, 14, 15] (by decide) rfl
    refine lv_aload_n hx hb dX0_push_13 rfl (lv_at hl 0 rfl) ?_
    refine lv_aload_n hx hb dX0_push_14 rfl (lv_at hl 0 rfl) ?_
    refine top_get C S inX0_push_X0 rfl 0 rfl 1 (by decide) (by decide +kernel) rfl rfl dX0_push_15 ?_
    refine lv_iconst (v := 5) hx hb dX0_push_18 (by decide) ?_
    refine bn_ine (tgt := 26) (a := 2) (b := 5) hx hb rfl rfl (by omega) (by omega) dX0_push_19 (by decide) (fun c_3 => ?_) (fun c_3 => ?_)
    · -- 19 T
      refine lv_aload_n hx hb dX0_push_26 rfl (lv_at hl 0 rfl) ?_
      refine top_get C S inX0_push_X0 rfl 0 rfl 1 (by decide) (by decide +kernel) rfl rfl dX0_push_27 ?_
      refine lv_iconst (v := 1) hx hb dX0_push_30 (by decide) ?_
      refine lv_iadd hx hb dX0_push_31 ?_
      refine top_eq (y := nI (2 + 1)) (nI_add _ _) ?_
      refine top_put (ty := .int) C S inX0_push_X0 tyX0 tyX0_ok nmX0 rfl 0 rfl 1 (by decide) (by decide +kernel) rfl rfl (tyX0_ok 1 (by decide)) rfl rfl (Nat.le_of_ble_eq_true rfl) dX0_push_32 (fun H locs S => ?_)
      have S : ST g A ss H locs [(HH, ob 0 [.ref rg, .int (nI (2 + 1)), .int (nI z)]), (rg, aO g 6 ro), (a0, ob 2 [.ref b0, .int (nI (ns 0)), .int (nI (wbs 0))]), (b0, aI g 32 (fs 0)), (a1, ob 2 [.ref b1, .int (nI (ns 1)), .int (nI (wbs 1))]), (b1, aI g 32 (fs 1)), (a2, ob 2 [.ref b2, .int (nI n), .int (nI ww)]), (b2, aI g 32 f9), (a3, ob 2 [.ref b3, .int (nI (ns 3)), .int (nI (wbs 3))]), (b3, aI g 32 (fs 3)), (a4, ob 2 [.ref b4, .int (nI (ns 4)), .int (nI (wbs 4))]), (b4, aI g 32 (fs 4)), (a5, ob 2 [.ref b5, .int (nI (ns 5)), .int (nI (wbs 5))]), (b5, aI g 32 (fs 5)), (h, ob 2 [.ref q, .int (nI n), .int (nI ww)]), (q, aI g 32 f)] := S
      refine lv_aload_n hx hb dX0_push_35 rfl (lv_at hl 0 rfl) ?_
      refine lv_aload_n hx hb dX0_push_36 rfl (lv_at hl 0 rfl) ?_
      refine top_get C S inX0_push_X0 rfl 0 rfl 2 (by decide) (by decide +kernel) rfl rfl dX0_push_37 ?_
      refine lv_iconst (v := 1) hx hb dX0_push_40 (by decide) ?_
      refine lv_iadd hx hb dX0_push_41 ?_
      refine top_eq (y := nI (z + 1)) (nI_add _ _) ?_
      refine lv_bipush (v := 6) hx hb dX0_push_42 (by decide) ?_
      refine va_mmin hx hb (hml.trans hl.1.symm) hown (hts (.methodLink RX0 29 Lib.Math.min.name) (by decide +kernel)) (hts (.static Lib.Math.min.name) (by decide +kernel)) (hts (.initialized "java/lang/Math") (by decide +kernel)) (hts (.code Lib.Math.min.name Lib.Math.min.code 2 (some .int)) (by decide +kernel)) (Nat.le_of_ble_eq_true rfl) (Nat.le_of_ble_eq_true rfl) (Nat.le_of_ble_eq_true rfl) (Nat.le_of_ble_eq_true rfl) dX0_push_44 ?_
      refine top_eq (y := imin (nI (z + 1)) 6) rfl ?_
      refine top_eq (y := nI (min (z + 1) 6)) (imin_N (a := z + 1) (b := 6) (by omega) (by omega)) ?_
      refine top_put (ty := .int) C S inX0_push_X0 tyX0 tyX0_ok nmX0 rfl 0 rfl 2 (by decide) (by decide +kernel) rfl rfl (tyX0_ok 2 (by decide)) rfl rfl (Nat.le_of_ble_eq_true rfl) dX0_push_47 (fun H locs S => ?_)
      have S : ST g A ss H locs [(HH, ob 0 [.ref rg, .int (nI (2 + 1)), .int (nI (min (z + 1) 6))]), (rg, aO g 6 ro), (a0, ob 2 [.ref b0, .int (nI (ns 0)), .int (nI (wbs 0))]), (b0, aI g 32 (fs 0)), (a1, ob 2 [.ref b1, .int (nI (ns 1)), .int (nI (wbs 1))]), (b1, aI g 32 (fs 1)), (a2, ob 2 [.ref b2, .int (nI n), .int (nI ww)]), (b2, aI g 32 f9), (a3, ob 2 [.ref b3, .int (nI (ns 3)), .int (nI (wbs 3))]), (b3, aI g 32 (fs 3)), (a4, ob 2 [.ref b4, .int (nI (ns 4)), .int (nI (wbs 4))]), (b4, aI g 32 (fs 4)), (a5, ob 2 [.ref b5, .int (nI (ns 5)), .int (nI (wbs 5))]), (b5, aI g 32 (fs 5)), (h, ob 2 [.ref q, .int (nI n), .int (nI ww)]), (q, aI g 32 f)] := S
      exact ret_V C S hr dX0_push_50 ⟨f9, (hf9), (by first | rfl | simp only [if_neg c_3])⟩
    · -- 19 F
      exact absurd c_3 (by decide)
  · -- k = 3
    refine lv_aload_n hx hb dX0_push_0 rfl (lv_at hl 0 rfl) ?_
    refine top_get C S inX0_push_X0 rfl 0 rfl 0 (by decide) (by decide +kernel) rfl rfl dX0_push_1 ?_
    refine lv_aload_n hx hb dX0_push_4 rfl (lv_at hl 0 rfl) ?_
    refine top_get C S inX0_push_X0 rfl 0 rfl 1 (by decide) (by decide +kernel) rfl rfl dX0_push_5 ?_
    refine top_old C S 1 rfl (j := 3) rfl (by omega) (by decide) (by exact hro.2.2.2.1) dX0_push_8 ?_
    refine lv_aload_n hx hb dX0_push_9 rfl (lv_at hl 1 rfl) ?_
    refine after_V (wc := [(a3, ob 2 [.ref b3, .int (nI (ns 3)), .int (nI (wbs 3))]), (b3, aI g 32 (fs 3)), (h, ob 2 [.ref q, .int (nI n), .int (nI ww)]), (q, aI g 32 f)]) (y := yX2_become) C S (va_runV (As := [.ref h]) (rest := []) C.1 (kX2_become l g a3 b3 (fs 3) (ns 3) (wbs 3) h q f n ww H.size) (cwV 1 hts gX0_push_X2_become rfl rfl rfl (by decide +kernel) ⟨Nat.le_of_ble_eq_true rfl, Nat.le_of_ble_eq_true rfl⟩) (preV_at C S 8 rfl rfl [8, 9, 14, 15] rfl (by decide)) rfl rfl hl.1 rfl (lv_room (Nat.le_of_ble_eq_true rfl)) dX0_push_10 ⟨Nat.le_of_ble_eq_true rfl, Nat.le_of_ble_eq_true rfl⟩) [8, 9, 14, 15] [0, 1, 2, 3, 4, 5, 6, 7, 10, 11, 12, 13] rfl (wr := [(HH, ob 0 [.ref rg, .int (nI 3), .int (nI z)]), (rg, aO g 6 ro), (a0, ob 2 [.ref b0, .int (nI (ns 0)), .int (nI (wbs 0))]), (b0, aI g 32 (fs 0)), (a1, ob 2 [.ref b1, .int (nI (ns 1)), .int (nI (wbs 1))]), (b1, aI g 32 (fs 1)), (a2, ob 2 [.ref b2, .int (nI (ns 2)), .int (nI (wbs 2))]), (b2, aI g 32 (fs 2)), (a4, ob 2 [.ref b4, .int (nI (ns 4)), .int (nI (wbs 4))]), (b4, aI g 32 (fs 4)), (a5, ob 2 [.ref b5, .int (nI (ns 5)), .int (nI (wbs 5))]), (b5, aI g 32 (fs 5))]) rfl (by decide) (by decide) (fun w0 H locs hq S => ?_)
    obtain ⟨f9, hf9, rfl⟩ := hq
    have S : ST g A ss H locs [(HH, ob 0 [.ref rg, .int (nI 3), .int (nI z)]), (rg, aO g 6 ro), (a0, ob 2 [.ref b0, .int (nI (ns 0)), .int (nI (wbs 0))]), (b0, aI g 32 (fs 0)), (a1, ob 2 [.ref b1, .int (nI (ns 1)), .int (nI (wbs 1))]), (b1, aI g 32 (fs 1)), (a2, ob 2 [.ref b2, .int (nI (ns 2)), .int (nI (wbs 2))]), (b2, aI g 32 (fs 2)), (a3, ob 2 [.ref b3, .int (nI n), .int (nI ww)]), (b3, aI g 32 f9), (a4, ob 2 [.ref b4, .int (nI (ns 4)), .int (nI (wbs 4))]), (b4, aI g 32 (fs 4)), (a5, ob 2 [.ref b5, .int (nI (ns 5)), .int (nI (wbs 5))]), (b5, aI g 32 (fs 5)), (h, ob 2 [.ref q, .int (nI n), .int (nI ww)]), (q, aI g 32 f)] := ST.sub S [0, 1, 2, 3, 4, 5, 6, 7, 12, 13, 8, 9, 10, 11, 14, 15] (by decide) rfl
    refine lv_aload_n hx hb dX0_push_13 rfl (lv_at hl 0 rfl) ?_
    refine lv_aload_n hx hb dX0_push_14 rfl (lv_at hl 0 rfl) ?_
    refine top_get C S inX0_push_X0 rfl 0 rfl 1 (by decide) (by decide +kernel) rfl rfl dX0_push_15 ?_
    refine lv_iconst (v := 5) hx hb dX0_push_18 (by decide) ?_
    refine bn_ine (tgt := 26) (a := 3) (b := 5) hx hb rfl rfl (by omega) (by omega) dX0_push_19 (by decide) (fun c_4 => ?_) (fun c_4 => ?_)
    · -- 19 T
      refine lv_aload_n hx hb dX0_push_26 rfl (lv_at hl 0 rfl) ?_
      refine top_get C S inX0_push_X0 rfl 0 rfl 1 (by decide) (by decide +kernel) rfl rfl dX0_push_27 ?_
      refine lv_iconst (v := 1) hx hb dX0_push_30 (by decide) ?_
      refine lv_iadd hx hb dX0_push_31 ?_
      refine top_eq (y := nI (3 + 1)) (nI_add _ _) ?_
      refine top_put (ty := .int) C S inX0_push_X0 tyX0 tyX0_ok nmX0 rfl 0 rfl 1 (by decide) (by decide +kernel) rfl rfl (tyX0_ok 1 (by decide)) rfl rfl (Nat.le_of_ble_eq_true rfl) dX0_push_32 (fun H locs S => ?_)
      have S : ST g A ss H locs [(HH, ob 0 [.ref rg, .int (nI (3 + 1)), .int (nI z)]), (rg, aO g 6 ro), (a0, ob 2 [.ref b0, .int (nI (ns 0)), .int (nI (wbs 0))]), (b0, aI g 32 (fs 0)), (a1, ob 2 [.ref b1, .int (nI (ns 1)), .int (nI (wbs 1))]), (b1, aI g 32 (fs 1)), (a2, ob 2 [.ref b2, .int (nI (ns 2)), .int (nI (wbs 2))]), (b2, aI g 32 (fs 2)), (a3, ob 2 [.ref b3, .int (nI n), .int (nI ww)]), (b3, aI g 32 f9), (a4, ob 2 [.ref b4, .int (nI (ns 4)), .int (nI (wbs 4))]), (b4, aI g 32 (fs 4)), (a5, ob 2 [.ref b5, .int (nI (ns 5)), .int (nI (wbs 5))]), (b5, aI g 32 (fs 5)), (h, ob 2 [.ref q, .int (nI n), .int (nI ww)]), (q, aI g 32 f)] := S
      refine lv_aload_n hx hb dX0_push_35 rfl (lv_at hl 0 rfl) ?_
      refine lv_aload_n hx hb dX0_push_36 rfl (lv_at hl 0 rfl) ?_
      refine top_get C S inX0_push_X0 rfl 0 rfl 2 (by decide) (by decide +kernel) rfl rfl dX0_push_37 ?_
      refine lv_iconst (v := 1) hx hb dX0_push_40 (by decide) ?_
      refine lv_iadd hx hb dX0_push_41 ?_
      refine top_eq (y := nI (z + 1)) (nI_add _ _) ?_
      refine lv_bipush (v := 6) hx hb dX0_push_42 (by decide) ?_
      refine va_mmin hx hb (hml.trans hl.1.symm) hown (hts (.methodLink RX0 29 Lib.Math.min.name) (by decide +kernel)) (hts (.static Lib.Math.min.name) (by decide +kernel)) (hts (.initialized "java/lang/Math") (by decide +kernel)) (hts (.code Lib.Math.min.name Lib.Math.min.code 2 (some .int)) (by decide +kernel)) (Nat.le_of_ble_eq_true rfl) (Nat.le_of_ble_eq_true rfl) (Nat.le_of_ble_eq_true rfl) (Nat.le_of_ble_eq_true rfl) dX0_push_44 ?_
      refine top_eq (y := imin (nI (z + 1)) 6) rfl ?_
      refine top_eq (y := nI (min (z + 1) 6)) (imin_N (a := z + 1) (b := 6) (by omega) (by omega)) ?_
      refine top_put (ty := .int) C S inX0_push_X0 tyX0 tyX0_ok nmX0 rfl 0 rfl 2 (by decide) (by decide +kernel) rfl rfl (tyX0_ok 2 (by decide)) rfl rfl (Nat.le_of_ble_eq_true rfl) dX0_push_47 (fun H locs S => ?_)
      have S : ST g A ss H locs [(HH, ob 0 [.ref rg, .int (nI (3 + 1)), .int (nI (min (z + 1) 6))]), (rg, aO g 6 ro), (a0, ob 2 [.ref b0, .int (nI (ns 0)), .int (nI (wbs 0))]), (b0, aI g 32 (fs 0)), (a1, ob 2 [.ref b1, .int (nI (ns 1)), .int (nI (wbs 1))]), (b1, aI g 32 (fs 1)), (a2, ob 2 [.ref b2, .int (nI (ns 2)), .int (nI (wbs 2))]), (b2, aI g 32 (fs 2)), (a3, ob 2 [.ref b3, .int (nI n), .int (nI ww)]), (b3, aI g 32 f9), (a4, ob 2 [.ref b4, .int (nI (ns 4)), .int (nI (wbs 4))]), (b4, aI g 32 (fs 4)), (a5, ob 2 [.ref b5, .int (nI (ns 5)), .int (nI (wbs 5))]), (b5, aI g 32 (fs 5)), (h, ob 2 [.ref q, .int (nI n), .int (nI ww)]), (q, aI g 32 f)] := S
      exact ret_V C S hr dX0_push_50 ⟨f9, (hf9), (by first | rfl | simp only [if_neg c_4])⟩
    · -- 19 F
      exact absurd c_4 (by decide)
  · -- k = 4
    refine lv_aload_n hx hb dX0_push_0 rfl (lv_at hl 0 rfl) ?_
    refine top_get C S inX0_push_X0 rfl 0 rfl 0 (by decide) (by decide +kernel) rfl rfl dX0_push_1 ?_
    refine lv_aload_n hx hb dX0_push_4 rfl (lv_at hl 0 rfl) ?_
    refine top_get C S inX0_push_X0 rfl 0 rfl 1 (by decide) (by decide +kernel) rfl rfl dX0_push_5 ?_
    refine top_old C S 1 rfl (j := 4) rfl (by omega) (by decide) (by exact hro.2.2.2.2.1) dX0_push_8 ?_
    refine lv_aload_n hx hb dX0_push_9 rfl (lv_at hl 1 rfl) ?_
    refine after_V (wc := [(a4, ob 2 [.ref b4, .int (nI (ns 4)), .int (nI (wbs 4))]), (b4, aI g 32 (fs 4)), (h, ob 2 [.ref q, .int (nI n), .int (nI ww)]), (q, aI g 32 f)]) (y := yX2_become) C S (va_runV (As := [.ref h]) (rest := []) C.1 (kX2_become l g a4 b4 (fs 4) (ns 4) (wbs 4) h q f n ww H.size) (cwV 1 hts gX0_push_X2_become rfl rfl rfl (by decide +kernel) ⟨Nat.le_of_ble_eq_true rfl, Nat.le_of_ble_eq_true rfl⟩) (preV_at C S 10 rfl rfl [10, 11, 14, 15] rfl (by decide)) rfl rfl hl.1 rfl (lv_room (Nat.le_of_ble_eq_true rfl)) dX0_push_10 ⟨Nat.le_of_ble_eq_true rfl, Nat.le_of_ble_eq_true rfl⟩) [10, 11, 14, 15] [0, 1, 2, 3, 4, 5, 6, 7, 8, 9, 12, 13] rfl (wr := [(HH, ob 0 [.ref rg, .int (nI 4), .int (nI z)]), (rg, aO g 6 ro), (a0, ob 2 [.ref b0, .int (nI (ns 0)), .int (nI (wbs 0))]), (b0, aI g 32 (fs 0)), (a1, ob 2 [.ref b1, .int (nI (ns 1)), .int (nI (wbs 1))]), (b1, aI g 32 (fs 1)), (a2, ob 2 [.ref b2, .int (nI (ns 2)), .int (nI (wbs 2))]), (b2, aI g 32 (fs 2)), (a3, ob 2 [.ref b3, .int (nI (ns 3)), .int (nI (wbs 3))]), (b3, aI g 32 (fs 3)), (a5, ob 2 [.ref b5, .int (nI (ns 5)), .int (nI (wbs 5))]), (b5, aI g 32 (fs 5))]) rfl (by decide) (by decide) (fun w0 H locs hq S => ?_)
    obtain ⟨f9, hf9, rfl⟩ := hq
    have S : ST g A ss H locs [(HH, ob 0 [.ref rg, .int (nI 4), .int (nI z)]), (rg, aO g 6 ro), (a0, ob 2 [.ref b0, .int (nI (ns 0)), .int (nI (wbs 0))]), (b0, aI g 32 (fs 0)), (a1, ob 2 [.ref b1, .int (nI (ns 1)), .int (nI (wbs 1))]), (b1, aI g 32 (fs 1)), (a2, ob 2 [.ref b2, .int (nI (ns 2)), .int (nI (wbs 2))]), (b2, aI g 32 (fs 2)), (a3, ob 2 [.ref b3, .int (nI (ns 3)), .int (nI (wbs 3))]), (b3, aI g 32 (fs 3)), (a4, ob 2 [.ref b4, .int (nI n), .int (nI ww)]), (b4, aI g 32 f9), (a5, ob 2 [.ref b5, .int (nI (ns 5)), .int (nI (wbs 5))]), (b5, aI g 32 (fs 5)), (h, ob 2 [.ref q, .int (nI n), .int (nI ww)]), (q, aI g 32 f)] := ST.sub S [0, 1, 2, 3, 4, 5, 6, 7, 8, 9, 12, 13, 10, 11, 14, 15] (by decide) rfl
    refine lv_aload_n hx hb dX0_push_13 rfl (lv_at hl 0 rfl) ?_
    refine lv_aload_n hx hb dX0_push_14 rfl (lv_at hl 0 rfl) ?_
    refine top_get C S inX0_push_X0 rfl 0 rfl 1 (by decide) (by decide +kernel) rfl rfl dX0_push_15 ?_
    refine lv_iconst (v := 5) hx hb dX0_push_18 (by decide) ?_
    refine bn_ine (tgt := 26) (a := 4) (b := 5) hx hb rfl rfl (by omega) (by omega) dX0_push_19 (by decide) (fun c_5 => ?_) (fun c_5 => ?_)
    · -- 19 T
      refine lv_aload_n hx hb dX0_push_26 rfl (lv_at hl 0 rfl) ?_
      refine top_get C S inX0_push_X0 rfl 0 rfl 1 (by decide) (by decide +kernel) rfl rfl dX0_push_27 ?_
      refine lv_iconst (v := 1) hx hb dX0_push_30 (by decide) ?_
      refine lv_iadd hx hb dX0_push_31 ?_
      refine top_eq (y := nI (4 + 1)) (nI_add _ _) ?_
      refine top_put (ty := .int) C S inX0_push_X0 tyX0 tyX0_ok nmX0 rfl 0 rfl 1 (by decide) (by decide +kernel) rfl rfl (tyX0_ok 1 (by decide)) rfl rfl (Nat.le_of_ble_eq_true rfl) dX0_push_32 (fun H locs S => ?_)
      have S : ST g A ss H locs [(HH, ob 0 [.ref rg, .int (nI (4 + 1)), .int (nI z)]), (rg, aO g 6 ro), (a0, ob 2 [.ref b0, .int (nI (ns 0)), .int (nI (wbs 0))]), (b0, aI g 32 (fs 0)), (a1, ob 2 [.ref b1, .int (nI (ns 1)), .int (nI (wbs 1))]), (b1, aI g 32 (fs 1)), (a2, ob 2 [.ref b2, .int (nI (ns 2)), .int (nI (wbs 2))]), (b2, aI g 32 (fs 2)), (a3, ob 2 [.ref b3, .int (nI (ns 3)), .int (nI (wbs 3))]), (b3, aI g 32 (fs 3)), (a4, ob 2 [.ref b4, .int (nI n), .int (nI ww)]), (b4, aI g 32 f9), (a5, ob 2 [.ref b5, .int (nI (ns 5)), .int (nI (wbs 5))]), (b5, aI g 32 (fs 5)), (h, ob 2 [.ref q, .int (nI n), .int (nI ww)]), (q, aI g 32 f)] := S
      refine lv_aload_n hx hb dX0_push_35 rfl (lv_at hl 0 rfl) ?_
      refine lv_aload_n hx hb dX0_push_36 rfl (lv_at hl 0 rfl) ?_
      refine top_get C S inX0_push_X0 rfl 0 rfl 2 (by decide) (by decide +kernel) rfl rfl dX0_push_37 ?_
      refine lv_iconst (v := 1) hx hb dX0_push_40 (by decide) ?_
      refine lv_iadd hx hb dX0_push_41 ?_
      refine top_eq (y := nI (z + 1)) (nI_add _ _) ?_
      refine lv_bipush (v := 6) hx hb dX0_push_42 (by decide) ?_
      refine va_mmin hx hb (hml.trans hl.1.symm) hown (hts (.methodLink RX0 29 Lib.Math.min.name) (by decide +kernel)) (hts (.static Lib.Math.min.name) (by decide +kernel)) (hts (.initialized "java/lang/Math") (by decide +kernel)) (hts (.code Lib.Math.min.name Lib.Math.min.code 2 (some .int)) (by decide +kernel)) (Nat.le_of_ble_eq_true rfl) (Nat.le_of_ble_eq_true rfl) (Nat.le_of_ble_eq_true rfl) (Nat.le_of_ble_eq_true rfl) dX0_push_44 ?_
      refine top_eq (y := imin (nI (z + 1)) 6) rfl ?_
      refine top_eq (y := nI (min (z + 1) 6)) (imin_N (a := z + 1) (b := 6) (by omega) (by omega)) ?_
      refine top_put (ty := .int) C S inX0_push_X0 tyX0 tyX0_ok nmX0 rfl 0 rfl 2 (by decide) (by decide +kernel) rfl rfl (tyX0_ok 2 (by decide)) rfl rfl (Nat.le_of_ble_eq_true rfl) dX0_push_47 (fun H locs S => ?_)
      have S : ST g A ss H locs [(HH, ob 0 [.ref rg, .int (nI (4 + 1)), .int (nI (min (z + 1) 6))]), (rg, aO g 6 ro), (a0, ob 2 [.ref b0, .int (nI (ns 0)), .int (nI (wbs 0))]), (b0, aI g 32 (fs 0)), (a1, ob 2 [.ref b1, .int (nI (ns 1)), .int (nI (wbs 1))]), (b1, aI g 32 (fs 1)), (a2, ob 2 [.ref b2, .int (nI (ns 2)), .int (nI (wbs 2))]), (b2, aI g 32 (fs 2)), (a3, ob 2 [.ref b3, .int (nI (ns 3)), .int (nI (wbs 3))]), (b3, aI g 32 (fs 3)), (a4, ob 2 [.ref b4, .int (nI n), .int (nI ww)]), (b4, aI g 32 f9), (a5, ob 2 [.ref b5, .int (nI (ns 5)), .int (nI (wbs 5))]), (b5, aI g 32 (fs 5)), (h, ob 2 [.ref q, .int (nI n), .int (nI ww)]), (q, aI g 32 f)] := S
      exact ret_V C S hr dX0_push_50 ⟨f9, (hf9), (by first | rfl | simp only [if_neg c_5])⟩
    · -- 19 F
      exact absurd c_5 (by decide)
  · -- k = 5
    refine lv_aload_n hx hb dX0_push_0 rfl (lv_at hl 0 rfl) ?_
    refine top_get C S inX0_push_X0 rfl 0 rfl 0 (by decide) (by decide +kernel) rfl rfl dX0_push_1 ?_
    refine lv_aload_n hx hb dX0_push_4 rfl (lv_at hl 0 rfl) ?_
    refine top_get C S inX0_push_X0 rfl 0 rfl 1 (by decide) (by decide +kernel) rfl rfl dX0_push_5 ?_
    refine top_old C S 1 rfl (j := 5) rfl (by omega) (by decide) (by exact hro.2.2.2.2.2) dX0_push_8 ?_
    refine lv_aload_n hx hb dX0_push_9 rfl (lv_at hl 1 rfl) ?_
    refine after_V (wc := [(a5, ob 2 [.ref b5, .int (nI (ns 5)), .int (nI (wbs 5))]), (b5, aI g 32 (fs 5)), (h, ob 2 [.ref q, .int (nI n), .int (nI ww)]), (q, aI g 32 f)]) (y := yX2_become) C S (va_runV (As := [.ref h]) (rest := []) C.1 (kX2_become l g a5 b5 (fs 5) (ns 5) (wbs 5) h q f n ww H.size) (cwV 1 hts gX0_push_X2_become rfl rfl rfl (by decide +kernel) ⟨Nat.le_of_ble_eq_true rfl, Nat.le_of_ble_eq_true rfl⟩) (preV_at C S 12 rfl rfl [12, 13, 14, 15] rfl (by decide)) rfl rfl hl.1 rfl (lv_room (Nat.le_of_ble_eq_true rfl)) dX0_push_10 ⟨Nat.le_of_ble_eq_true rfl, Nat.le_of_ble_eq_true rfl⟩) [12, 13, 14, 15] [0, 1, 2, 3, 4, 5, 6, 7, 8, 9, 10, 11] rfl (wr := [(HH, ob 0 [.ref rg, .int (nI 5), .int (nI z)]), (rg, aO g 6 ro), (a0, ob 2 [.ref b0, .int (nI (ns 0)), .int (nI (wbs 0))]), (b0, aI g 32 (fs 0)), (a1, ob 2 [.ref b1, .int (nI (ns 1)), .int (nI (wbs 1))]), (b1, aI g 32 (fs 1)), (a2, ob 2 [.ref b2, .int (nI (ns 2)), .int (nI (wbs 2))]), (b2, aI g 32 (fs 2)), (a3, ob 2 [.ref b3, .int (nI (ns 3)), .int (nI (wbs 3))]), (b3, aI g 32 (fs 3)), (a4, ob 2 [.ref b4, .int (nI (ns 4)), .int (nI (wbs 4))]), (b4, aI g 32 (fs 4))]) rfl (by decide) (by decide) (fun w0 H locs hq S => ?_)
    obtain ⟨f9, hf9, rfl⟩ := hq
    have S : ST g A ss H locs [(HH, ob 0 [.ref rg, .int (nI 5), .int (nI z)]), (rg, aO g 6 ro), (a0, ob 2 [.ref b0, .int (nI (ns 0)), .int (nI (wbs 0))]), (b0, aI g 32 (fs 0)), (a1, ob 2 [.ref b1, .int (nI (ns 1)), .int (nI (wbs 1))]), (b1, aI g 32 (fs 1)), (a2, ob 2 [.ref b2, .int (nI (ns 2)), .int (nI (wbs 2))]), (b2, aI g 32 (fs 2)), (a3, ob 2 [.ref b3, .int (nI (ns 3)), .int (nI (wbs 3))]), (b3, aI g 32 (fs 3)), (a4, ob 2 [.ref b4, .int (nI (ns 4)), .int (nI (wbs 4))]), (b4, aI g 32 (fs 4)), (a5, ob 2 [.ref b5, .int (nI n), .int (nI ww)]), (b5, aI g 32 f9), (h, ob 2 [.ref q, .int (nI n), .int (nI ww)]), (q, aI g 32 f)] := S
    refine lv_aload_n hx hb dX0_push_13 rfl (lv_at hl 0 rfl) ?_
    refine lv_aload_n hx hb dX0_push_14 rfl (lv_at hl 0 rfl) ?_
    refine top_get C S inX0_push_X0 rfl 0 rfl 1 (by decide) (by decide +kernel) rfl rfl dX0_push_15 ?_
    refine lv_iconst (v := 5) hx hb dX0_push_18 (by decide) ?_
    refine bn_ine (tgt := 26) (a := 5) (b := 5) hx hb rfl rfl (by omega) (by omega) dX0_push_19 (by decide) (fun c_6 => ?_) (fun c_6 => ?_)
    · -- 19 T
      exact absurd c_6 (by decide)
    · -- 19 F
      refine lv_iconst (v := 0) hx hb dX0_push_22 (by decide) ?_
      refine lv_goto (tgt := 32) hx hb dX0_push_23 (by decide) ?_
      refine top_put (ty := .int) C S inX0_push_X0 tyX0 tyX0_ok nmX0 rfl 0 rfl 1 (by decide) (by decide +kernel) rfl rfl (tyX0_ok 1 (by decide)) rfl rfl (Nat.le_of_ble_eq_true rfl) dX0_push_32 (fun H locs S => ?_)
      have S : ST g A ss H locs [(HH, ob 0 [.ref rg, .int 0, .int (nI z)]), (rg, aO g 6 ro), (a0, ob 2 [.ref b0, .int (nI (ns 0)), .int (nI (wbs 0))]), (b0, aI g 32 (fs 0)), (a1, ob 2 [.ref b1, .int (nI (ns 1)), .int (nI (wbs 1))]), (b1, aI g 32 (fs 1)), (a2, ob 2 [.ref b2, .int (nI (ns 2)), .int (nI (wbs 2))]), (b2, aI g 32 (fs 2)), (a3, ob 2 [.ref b3, .int (nI (ns 3)), .int (nI (wbs 3))]), (b3, aI g 32 (fs 3)), (a4, ob 2 [.ref b4, .int (nI (ns 4)), .int (nI (wbs 4))]), (b4, aI g 32 (fs 4)), (a5, ob 2 [.ref b5, .int (nI n), .int (nI ww)]), (b5, aI g 32 f9), (h, ob 2 [.ref q, .int (nI n), .int (nI ww)]), (q, aI g 32 f)] := S
      refine lv_aload_n hx hb dX0_push_35 rfl (lv_at hl 0 rfl) ?_
      refine lv_aload_n hx hb dX0_push_36 rfl (lv_at hl 0 rfl) ?_
      refine top_get C S inX0_push_X0 rfl 0 rfl 2 (by decide) (by decide +kernel) rfl rfl dX0_push_37 ?_
      refine lv_iconst (v := 1) hx hb dX0_push_40 (by decide) ?_
      refine lv_iadd hx hb dX0_push_41 ?_
      refine top_eq (y := nI (z + 1)) (nI_add _ _) ?_
      refine lv_bipush (v := 6) hx hb dX0_push_42 (by decide) ?_
      refine va_mmin hx hb (hml.trans hl.1.symm) hown (hts (.methodLink RX0 29 Lib.Math.min.name) (by decide +kernel)) (hts (.static Lib.Math.min.name) (by decide +kernel)) (hts (.initialized "java/lang/Math") (by decide +kernel)) (hts (.code Lib.Math.min.name Lib.Math.min.code 2 (some .int)) (by decide +kernel)) (Nat.le_of_ble_eq_true rfl) (Nat.le_of_ble_eq_true rfl) (Nat.le_of_ble_eq_true rfl) (Nat.le_of_ble_eq_true rfl) dX0_push_44 ?_
      refine top_eq (y := imin (nI (z + 1)) 6) rfl ?_
      refine top_eq (y := nI (min (z + 1) 6)) (imin_N (a := z + 1) (b := 6) (by omega) (by omega)) ?_
      refine top_put (ty := .int) C S inX0_push_X0 tyX0 tyX0_ok nmX0 rfl 0 rfl 2 (by decide) (by decide +kernel) rfl rfl (tyX0_ok 2 (by decide)) rfl rfl (Nat.le_of_ble_eq_true rfl) dX0_push_47 (fun H locs S => ?_)
      have S : ST g A ss H locs [(HH, ob 0 [.ref rg, .int 0, .int (nI (min (z + 1) 6))]), (rg, aO g 6 ro), (a0, ob 2 [.ref b0, .int (nI (ns 0)), .int (nI (wbs 0))]), (b0, aI g 32 (fs 0)), (a1, ob 2 [.ref b1, .int (nI (ns 1)), .int (nI (wbs 1))]), (b1, aI g 32 (fs 1)), (a2, ob 2 [.ref b2, .int (nI (ns 2)), .int (nI (wbs 2))]), (b2, aI g 32 (fs 2)), (a3, ob 2 [.ref b3, .int (nI (ns 3)), .int (nI (wbs 3))]), (b3, aI g 32 (fs 3)), (a4, ob 2 [.ref b4, .int (nI (ns 4)), .int (nI (wbs 4))]), (b4, aI g 32 (fs 4)), (a5, ob 2 [.ref b5, .int (nI n), .int (nI ww)]), (b5, aI g 32 f9), (h, ob 2 [.ref q, .int (nI n), .int (nI ww)]), (q, aI g 32 f)] := S
      exact ret_V C S hr dX0_push_50 ⟨f9, (hf9), (by first | rfl | simp only [if_pos c_6])⟩

theorem inX0_popIntoe_X0 : ∀ w ∈ wsX00, w ∈ wsX0_popInto := by decide +kernel
set_option maxRecDepth 100000 in
set_option maxHeartbeats 4000000 in
theorem kX0_popIntoe (l : Launch) (g : GG) (HH : Nat) (rg : Nat) (ro : Nat → Option Nat) (a0 : Nat) (b0 : Nat) (a1 : Nat) (b1 : Nat) (a2 : Nat) (b2 : Nat) (a3 : Nat) (b3 : Nat) (a4 : Nat) (b4 : Nat) (a5 : Nat) (b5 : Nat) (fs : Nat → Nat → Int32) (ns : Nat → Nat) (wbs : Nat → Nat) (k : Nat) (z : Nat) (h : Nat) (q : Nat) (f : Nat → Int32) (n : Nat) (ww : Nat) (hro : ro 0 = some a0 ∧ ro 1 = some a1 ∧ ro 2 = some a2 ∧ ro 3 = some a3 ∧ ro 4 = some a4 ∧ ro 5 = some a5) (hk : k < 6) (hz : z = 0) : KI l g yX0_popInto wsX0_popInto 0 0 [.ref HH, .ref h] [(HH, ob 0 [.ref rg, .int (nI k), .int (nI z)]), (rg, aO g 6 ro), (a0, ob 2 [.ref b0, .int (nI (ns 0)), .int (nI (wbs 0))]), (b0, aI g 32 (fs 0)), (a1, ob 2 [.ref b1, .int (nI (ns 1)), .int (nI (wbs 1))]), (b1, aI g 32 (fs 1)), (a2, ob 2 [.ref b2, .int (nI (ns 2)), .int (nI (wbs 2))]), (b2, aI g 32 (fs 2)), (a3, ob 2 [.ref b3, .int (nI (ns 3)), .int (nI (wbs 3))]), (b3, aI g 32 (fs 3)), (a4, ob 2 [.ref b4, .int (nI (ns 4)), .int (nI (wbs 4))]), (b4, aI g 32 (fs 4)), (a5, ob 2 [.ref b5, .int (nI (ns 5)), .int (nI (wbs 5))]), (b5, aI g 32 (fs 5)), (h, ob 2 [.ref q, .int (nI n), .int (nI ww)]), (q, aI g 32 f)] (fun (r : Int32) (w' : va_W) => r = (bI false) ∧ w' = [(HH, ob 0 [.ref rg, .int (nI k), .int (nI z)]), (rg, aO g 6 ro), (a0, ob 2 [.ref b0, .int (nI (ns 0)), .int (nI (wbs 0))]), (b0, aI g 32 (fs 0)), (a1, ob 2 [.ref b1, .int (nI (ns 1)), .int (nI (wbs 1))]), (b1, aI g 32 (fs 1)), (a2, ob 2 [.ref b2, .int (nI (ns 2)), .int (nI (wbs 2))]), (b2, aI g 32 (fs 2)), (a3, ob 2 [.ref b3, .int (nI (ns 3)), .int (nI (wbs 3))]), (b3, aI g 32 (fs 3)), (a4, ob 2 [.ref b4, .int (nI (ns 4)), .int (nI (wbs 4))]), (b4, aI g 32 (fs 4)), (a5, ob 2 [.ref b5, .int (nI (ns 5)), .int (nI (wbs 5))]), (b5, aI g 32 (fs 5)), (h, ob 2 [.ref q, .int (nI n), .int (nI ww)]), (q, aI g 32 f)]) := by
  refine kI_of (cc := cX0_popInto) (maxL := 2) (by decide) rfl (Nat.le_of_ble_eq_true rfl) ?_
  intro pp ee ss mm bel mth cd A ls C S hr hl
  obtain ⟨hx, hb, hml, hown, hts⟩ := id C.1
  have hl : lv_has ls 2 [(0, .ref HH), (1, .ref h)] := hl
  obtain ⟨H, hH⟩ : ∃ H, H = ss.heap := ⟨_, rfl⟩
  obtain ⟨locs, hL0⟩ : ∃ L : List Loc, L = [] := ⟨_, rfl⟩
  rw [← hH, ← hL0] at S ⊢
  refine lv_aload_n hx hb dX0_popInto_0 rfl (lv_at hl 0 rfl) ?_
  refine top_get C S inX0_popIntoe_X0 rfl 0 rfl 2 (by decide) (by decide +kernel) rfl rfl dX0_popInto_1 ?_
  refine bn_zne (tgt := 9) (a := z) hx hb rfl (by omega) dX0_popInto_4 (by decide) (fun c_1 => ?_) (fun c_1 => ?_)
  · -- 4 T
    exact absurd hz c_1
  · -- 4 F
    refine lv_iconst (v := 0) hx hb dX0_popInto_7 (by decide) ?_
    exact ret_Z (false) C S hr dX0_popInto_8 (rfl) ⟨(rfl), (rfl)⟩

theorem inX0_popIntop_X0 : ∀ w ∈ wsX00, w ∈ wsX0_popInto := by decide +kernel
set_option maxRecDepth 100000 in
set_option maxHeartbeats 4000000 in
theorem kX0_popIntop (l : Launch) (g : GG) (HH : Nat) (rg : Nat) (ro : Nat → Option Nat) (a0 : Nat) (b0 : Nat) (a1 : Nat) (b1 : Nat) (a2 : Nat) (b2 : Nat) (a3 : Nat) (b3 : Nat) (a4 : Nat) (b4 : Nat) (a5 : Nat) (b5 : Nat) (fs : Nat → Nat → Int32) (ns : Nat → Nat) (wbs : Nat → Nat) (k : Nat) (z : Nat) (h : Nat) (q : Nat) (f : Nat → Int32) (n : Nat) (ww : Nat) (hro : ro 0 = some a0 ∧ ro 1 = some a1 ∧ ro 2 = some a2 ∧ ro 3 = some a3 ∧ ro 4 = some a4 ∧ ro 5 = some a5) (hk : k < 6) (hz : 0 < z) (hz6 : z ≤ 6) : KI l g yX0_popInto wsX0_popInto 2 85 [.ref HH, .ref h] [(HH, ob 0 [.ref rg, .int (nI k), .int (nI z)]), (rg, aO g 6 ro), (a0, ob 2 [.ref b0, .int (nI (ns 0)), .int (nI (wbs 0))]), (b0, aI g 32 (fs 0)), (a1, ob 2 [.ref b1, .int (nI (ns 1)), .int (nI (wbs 1))]), (b1, aI g 32 (fs 1)), (a2, ob 2 [.ref b2, .int (nI (ns 2)), .int (nI (wbs 2))]), (b2, aI g 32 (fs 2)), (a3, ob 2 [.ref b3, .int (nI (ns 3)), .int (nI (wbs 3))]), (b3, aI g 32 (fs 3)), (a4, ob 2 [.ref b4, .int (nI (ns 4)), .int (nI (wbs 4))]), (b4, aI g 32 (fs 4)), (a5, ob 2 [.ref b5, .int (nI (ns 5)), .int (nI (wbs 5))]), (b5, aI g 32 (fs 5)), (h, ob 2 [.ref q, .int (nI n), .int (nI ww)]), (q, aI g 32 f)] (fun (r : Int32) (w' : va_W) => r = (bI true) ∧ ∃ (f' : Nat → Int32), (∀ j, j < 32 → f' j = fs (prv k) j) ∧ w' = [(HH, ob 0 [.ref rg, .int (nI (prv k)), .int (nI (z - 1))]), (rg, aO g 6 ro), (a0, ob 2 [.ref b0, .int (nI (ns 0)), .int (nI (wbs 0))]), (b0, aI g 32 (fs 0)), (a1, ob 2 [.ref b1, .int (nI (ns 1)), .int (nI (wbs 1))]), (b1, aI g 32 (fs 1)), (a2, ob 2 [.ref b2, .int (nI (ns 2)), .int (nI (wbs 2))]), (b2, aI g 32 (fs 2)), (a3, ob 2 [.ref b3, .int (nI (ns 3)), .int (nI (wbs 3))]), (b3, aI g 32 (fs 3)), (a4, ob 2 [.ref b4, .int (nI (ns 4)), .int (nI (wbs 4))]), (b4, aI g 32 (fs 4)), (a5, ob 2 [.ref b5, .int (nI (ns 5)), .int (nI (wbs 5))]), (b5, aI g 32 (fs 5)), (h, ob 2 [.ref q, .int (nI (ns (prv k))), .int (nI (wbs (prv k)))]), (q, aI g 32 f')]) := by
  refine kI_of (cc := cX0_popInto) (maxL := 2) (by decide) rfl (Nat.le_of_ble_eq_true rfl) ?_
  intro pp ee ss mm bel mth cd A ls C S hr hl
  obtain ⟨hx, hb, hml, hown, hts⟩ := id C.1
  have hl : lv_has ls 2 [(0, .ref HH), (1, .ref h)] := hl
  obtain ⟨H, hH⟩ : ∃ H, H = ss.heap := ⟨_, rfl⟩
  obtain ⟨locs, hL0⟩ : ∃ L : List Loc, L = [] := ⟨_, rfl⟩
  rw [← hH, ← hL0] at S ⊢
  refine lv_aload_n hx hb dX0_popInto_0 rfl (lv_at hl 0 rfl) ?_
  refine top_get C S inX0_popIntop_X0 rfl 0 rfl 2 (by decide) (by decide +kernel) rfl rfl dX0_popInto_1 ?_
  refine bn_zne (tgt := 9) (a := z) hx hb rfl (by omega) dX0_popInto_4 (by decide) (fun c_1 => ?_) (fun c_1 => ?_)
  · -- 4 T
    rcases (show k = 0 ∨ k = 1 ∨ k = 2 ∨ k = 3 ∨ k = 4 ∨ k = 5 by omega) with rfl | rfl | rfl | rfl | rfl | rfl
    · -- k = 0
      refine lv_aload_n hx hb dX0_popInto_9 rfl (lv_at hl 0 rfl) ?_
      refine lv_aload_n hx hb dX0_popInto_10 rfl (lv_at hl 0 rfl) ?_
      refine top_get C S inX0_popIntop_X0 rfl 0 rfl 1 (by decide) (by decide +kernel) rfl rfl dX0_popInto_11 ?_
      refine bn_zne (tgt := 21) (a := 0) hx hb rfl (by omega) dX0_popInto_14 (by decide) (fun c_2 => ?_) (fun c_2 => ?_)
      · -- 14 T
        exact absurd c_2 (by decide)
      · -- 14 F
        refine lv_iconst (v := 5) hx hb dX0_popInto_17 (by decide) ?_
        refine lv_goto (tgt := 27) hx hb dX0_popInto_18 (by decide) ?_
        refine top_put (ty := .int) C S inX0_popIntop_X0 tyX0 tyX0_ok nmX0 rfl 0 rfl 1 (by decide) (by decide +kernel) rfl rfl (tyX0_ok 1 (by decide)) rfl rfl (Nat.le_of_ble_eq_true rfl) dX0_popInto_27 (fun H locs S => ?_)
        have S : ST g A ss H locs [(HH, ob 0 [.ref rg, .int 5, .int (nI z)]), (rg, aO g 6 ro), (a0, ob 2 [.ref b0, .int (nI (ns 0)), .int (nI (wbs 0))]), (b0, aI g 32 (fs 0)), (a1, ob 2 [.ref b1, .int (nI (ns 1)), .int (nI (wbs 1))]), (b1, aI g 32 (fs 1)), (a2, ob 2 [.ref b2, .int (nI (ns 2)), .int (nI (wbs 2))]), (b2, aI g 32 (fs 2)), (a3, ob 2 [.ref b3, .int (nI (ns 3)), .int (nI (wbs 3))]), (b3, aI g 32 (fs 3)), (a4, ob 2 [.ref b4, .int (nI (ns 4)), .int (nI (wbs 4))]), (b4, aI g 32 (fs 4)), (a5, ob 2 [.ref b5, .int (nI (ns 5)), .int (nI (wbs 5))]), (b5, aI g 32 (fs 5)), (h, ob 2 [.ref q, .int (nI n), .int (nI ww)]), (q, aI g 32 f)] := S
        refine lv_aload_n hx hb dX0_popInto_30 rfl (lv_at hl 0 rfl) ?_
        refine lv_dup hx hb dX0_popInto_31 rfl ?_
        refine top_get C S inX0_popIntop_X0 rfl 0 rfl 2 (by decide) (by decide +kernel) rfl rfl dX0_popInto_32 ?_
        refine lv_iconst (v := 1) hx hb dX0_popInto_35 (by decide) ?_
        refine lv_isub hx hb dX0_popInto_36 ?_
        refine top_eq (y := nI (z - 1)) (pk_sub (a := z) (b := 1) (by omega)) ?_
        refine top_put (ty := .int) C S inX0_popIntop_X0 tyX0 tyX0_ok nmX0 rfl 0 rfl 2 (by decide) (by decide +kernel) rfl rfl (tyX0_ok 2 (by decide)) rfl rfl (Nat.le_of_ble_eq_true rfl) dX0_popInto_37 (fun H locs S => ?_)
        have S : ST g A ss H locs [(HH, ob 0 [.ref rg, .int 5, .int (nI (z - 1))]), (rg, aO g 6 ro), (a0, ob 2 [.ref b0, .int (nI (ns 0)), .int (nI (wbs 0))]), (b0, aI g 32 (fs 0)), (a1, ob 2 [.ref b1, .int (nI (ns 1)), .int (nI (wbs 1))]), (b1, aI g 32 (fs 1)), (a2, ob 2 [.ref b2, .int (nI (ns 2)), .int (nI (wbs 2))]), (b2, aI g 32 (fs 2)), (a3, ob 2 [.ref b3, .int (nI (ns 3)), .int (nI (wbs 3))]), (b3, aI g 32 (fs 3)), (a4, ob 2 [.ref b4, .int (nI (ns 4)), .int (nI (wbs 4))]), (b4, aI g 32 (fs 4)), (a5, ob 2 [.ref b5, .int (nI (ns 5)), .int (nI (wbs 5))]), (b5, aI g 32 (fs 5)), (h, ob 2 [.ref q, .int (nI n), .int (nI ww)]), (q, aI g 32 f)] := S
        refine lv_aload_n hx hb dX0_popInto_40 rfl (lv_at hl 1 rfl) ?_
        refine lv_aload_n hx hb dX0_popInto_41 rfl (lv_at hl 0 rfl) ?_
        refine top_get C S inX0_popIntop_X0 rfl 0 rfl 0 (by decide) (by decide +kernel) rfl rfl dX0_popInto_42 ?_
        refine lv_aload_n hx hb dX0_popInto_45 rfl (lv_at hl 0 rfl) ?_
        refine top_get C S inX0_popIntop_X0 rfl 0 rfl 1 (by decide) (by decide +kernel) rfl rfl dX0_popInto_46 ?_
        refine top_old C S 1 rfl (j := 5) rfl (by omega) (by decide) (by exact hro.2.2.2.2.2) dX0_popInto_49 ?_
        refine after_V (wc := [(h, ob 2 [.ref q, .int (nI n), .int (nI ww)]), (q, aI g 32 f), (a5, ob 2 [.ref b5, .int (nI (ns 5)), .int (nI (wbs 5))]), (b5, aI g 32 (fs 5))]) (y := yX2_become) C S (va_runV (As := [.ref a5]) (rest := []) C.1 (kX2_become l g h q f n ww a5 b5 (fs 5) (ns 5) (wbs 5) H.size) (cwV 1 hts gX0_popInto_X2_become rfl rfl rfl (by decide +kernel) ⟨Nat.le_of_ble_eq_true rfl, Nat.le_of_ble_eq_true rfl⟩) (preV_at C S 14 rfl rfl [14, 15, 12, 13] rfl (by decide)) rfl rfl hl.1 rfl (lv_room (Nat.le_of_ble_eq_true rfl)) dX0_popInto_50 ⟨Nat.le_of_ble_eq_true rfl, Nat.le_of_ble_eq_true rfl⟩) [14, 15, 12, 13] [0, 1, 2, 3, 4, 5, 6, 7, 8, 9, 10, 11] rfl (wr := [(HH, ob 0 [.ref rg, .int 5, .int (nI (z - 1))]), (rg, aO g 6 ro), (a0, ob 2 [.ref b0, .int (nI (ns 0)), .int (nI (wbs 0))]), (b0, aI g 32 (fs 0)), (a1, ob 2 [.ref b1, .int (nI (ns 1)), .int (nI (wbs 1))]), (b1, aI g 32 (fs 1)), (a2, ob 2 [.ref b2, .int (nI (ns 2)), .int (nI (wbs 2))]), (b2, aI g 32 (fs 2)), (a3, ob 2 [.ref b3, .int (nI (ns 3)), .int (nI (wbs 3))]), (b3, aI g 32 (fs 3)), (a4, ob 2 [.ref b4, .int (nI (ns 4)), .int (nI (wbs 4))]), (b4, aI g 32 (fs 4))]) rfl (by decide) (by decide) (fun w0 H locs hq S => ?_)
        obtain ⟨f9, hf9, rfl⟩ := hq
        have S : ST g A ss H locs [(HH, ob 0 [.ref rg, .int 5, .int (nI (z - 1))]), (rg, aO g 6 ro), (a0, ob 2 [.ref b0, .int (nI (ns 0)), .int (nI (wbs 0))]), (b0, aI g 32 (fs 0)), (a1, ob 2 [.ref b1, .int (nI (ns 1)), .int (nI (wbs 1))]), (b1, aI g 32 (fs 1)), (a2, ob 2 [.ref b2, .int (nI (ns 2)), .int (nI (wbs 2))]), (b2, aI g 32 (fs 2)), (a3, ob 2 [.ref b3, .int (nI (ns 3)), .int (nI (wbs 3))]), (b3, aI g 32 (fs 3)), (a4, ob 2 [.ref b4, .int (nI (ns 4)), .int (nI (wbs 4))]), (b4, aI g 32 (fs 4)), (a5, ob 2 [.ref b5, .int (nI (ns 5)), .int (nI (wbs 5))]), (b5, aI g 32 (fs 5)), (h, ob 2 [.ref q, .int (nI (ns 5)), .int (nI (wbs 5))]), (q, aI g 32 f9)] := ST.sub S [0, 1, 2, 3, 4, 5, 6, 7, 8, 9, 10, 11, 14, 15, 12, 13] (by decide) rfl
        refine lv_iconst (v := 1) hx hb dX0_popInto_53 (by decide) ?_
        exact ret_Z (true) C S hr dX0_popInto_54 (rfl) ⟨(rfl), f9, (hf9), (rfl)⟩
    · -- k = 1
      refine lv_aload_n hx hb dX0_popInto_9 rfl (lv_at hl 0 rfl) ?_
      refine lv_aload_n hx hb dX0_popInto_10 rfl (lv_at hl 0 rfl) ?_
      refine top_get C S inX0_popIntop_X0 rfl 0 rfl 1 (by decide) (by decide +kernel) rfl rfl dX0_popInto_11 ?_
      refine bn_zne (tgt := 21) (a := 1) hx hb rfl (by omega) dX0_popInto_14 (by decide) (fun c_3 => ?_) (fun c_3 => ?_)
      · -- 14 T
        refine lv_aload_n hx hb dX0_popInto_21 rfl (lv_at hl 0 rfl) ?_
        refine top_get C S inX0_popIntop_X0 rfl 0 rfl 1 (by decide) (by decide +kernel) rfl rfl dX0_popInto_22 ?_
        refine lv_iconst (v := 1) hx hb dX0_popInto_25 (by decide) ?_
        refine lv_isub hx hb dX0_popInto_26 ?_
        refine top_eq (y := nI (1 - 1)) (pk_sub (a := 1) (b := 1) (by omega)) ?_
        refine top_put (ty := .int) C S inX0_popIntop_X0 tyX0 tyX0_ok nmX0 rfl 0 rfl 1 (by decide) (by decide +kernel) rfl rfl (tyX0_ok 1 (by decide)) rfl rfl (Nat.le_of_ble_eq_true rfl) dX0_popInto_27 (fun H locs S => ?_)
        have S : ST g A ss H locs [(HH, ob 0 [.ref rg, .int (nI (1 - 1)), .int (nI z)]), (rg, aO g 6 ro), (a0, ob 2 [.ref b0, .int (nI (ns 0)), .int (nI (wbs 0))]), (b0, aI g 32 (fs 0)), (a1, ob 2 [.ref b1, .int (nI (ns 1)), .int (nI (wbs 1))]), (b1, aI g 32 (fs 1)), (a2, ob 2 [.ref b2, .int (nI (ns 2)), .int (nI (wbs 2))]), (b2, aI g 32 (fs 2)), (a3, ob 2 [.ref b3, .int (nI (ns 3)), .int (nI (wbs 3))]), (b3, aI g 32 (fs 3)), (a4, ob 2 [.ref b4, .int (nI (ns 4)), .int (nI (wbs 4))]), (b4, aI g 32 (fs 4)), (a5, ob 2 [.ref b5, .int (nI (ns 5)), .int (nI (wbs 5))]), (b5, aI g 32 (fs 5)), (h, ob 2 [.ref q, .int (nI n), .int (nI ww)]), (q, aI g 32 f)] := S
        refine lv_aload_n hx hb dX0_popInto_30 rfl (lv_at hl 0 rfl) ?_
        refine lv_dup hx hb dX0_popInto_31 rfl ?_
        refine top_get C S inX0_popIntop_X0 rfl 0 rfl 2 (by decide) (by decide +kernel) rfl rfl dX0_popInto_32 ?_
        refine lv_iconst (v := 1) hx hb dX0_popInto_35 (by decide) ?_
        refine lv_isub hx hb dX0_popInto_36 ?_
        refine top_eq (y := nI (z - 1)) (pk_sub (a := z) (b := 1) (by omega)) ?_
        refine top_put (ty := .int) C S inX0_popIntop_X0 tyX0 tyX0_ok nmX0 rfl 0 rfl 2 (by decide) (by decide +kernel) rfl rfl (tyX0_ok 2 (by decide)) rfl rfl (Nat.le_of_ble_eq_true rfl) dX0_popInto_37 (fun H locs S => ?_)
        have S : ST g A ss H locs [(HH, ob 0 [.ref rg, .int (nI (1 - 1)), .int (nI (z - 1))]), (rg, aO g 6 ro), (a0, ob 2 [.ref b0, .int (nI (ns 0)), .int (nI (wbs 0))]), (b0, aI g 32 (fs 0)), (a1, ob 2 [.ref b1, .int (nI (ns 1)), .int (nI (wbs 1))]), (b1, aI g 32 (fs 1)), (a2, ob 2 [.ref b2, .int (nI (ns 2)), .int (nI (wbs 2))]), (b2, aI g 32 (fs 2)), (a3, ob 2 [.ref b3, .int (nI (ns 3)), .int (nI (wbs 3))]), (b3, aI g 32 (fs 3)), (a4, ob 2 [.ref b4, .int (nI (ns 4)), .int (nI (wbs 4))]), (b4, aI g 32 (fs 4)), (a5, ob 2 [.ref b5, .int (nI (ns 5)), .int (nI (wbs 5))]), (b5, aI g 32 (fs 5)), (h, ob 2 [.ref q, .int (nI n), .int (nI ww)]), (q, aI g 32 f)] := S
        refine lv_aload_n hx hb dX0_popInto_40 rfl (lv_at hl 1 rfl) ?_
        refine lv_aload_n hx hb dX0_popInto_41 rfl (lv_at hl 0 rfl) ?_
        refine top_get C S inX0_popIntop_X0 rfl 0 rfl 0 (by decide) (by decide +kernel) rfl rfl dX0_popInto_42 ?_
        refine lv_aload_n hx hb dX0_popInto_45 rfl (lv_at hl 0 rfl) ?_
        refine top_get C S inX0_popIntop_X0 rfl 0 rfl 1 (by decide) (by decide +kernel) rfl rfl dX0_popInto_46 ?_
        refine top_old C S 1 rfl (j := (1 - 1)) rfl (by omega) (by decide) (by exact hro.1) dX0_popInto_49 ?_
        refine after_V (wc := [(h, ob 2 [.ref q, .int (nI n), .int (nI ww)]), (q, aI g 32 f), (a0, ob 2 [.ref b0, .int (nI (ns 0)), .int (nI (wbs 0))]), (b0, aI g 32 (fs 0))]) (y := yX2_become) C S (va_runV (As := [.ref a0]) (rest := []) C.1 (kX2_become l g h q f n ww a0 b0 (fs 0) (ns 0) (wbs 0) H.size) (cwV 1 hts gX0_popInto_X2_become rfl rfl rfl (by decide +kernel) ⟨Nat.le_of_ble_eq_true rfl, Nat.le_of_ble_eq_true rfl⟩) (preV_at C S 14 rfl rfl [14, 15, 2, 3] rfl (by decide)) rfl rfl hl.1 rfl (lv_room (Nat.le_of_ble_eq_true rfl)) dX0_popInto_50 ⟨Nat.le_of_ble_eq_true rfl, Nat.le_of_ble_eq_true rfl⟩) [14, 15, 2, 3] [0, 1, 4, 5, 6, 7, 8, 9, 10, 11, 12, 13] rfl (wr := [(HH, ob 0 [.ref rg, .int (nI (1 - 1)), .int (nI (z - 1))]), (rg, aO g 6 ro), (a1, ob 2 [.ref b1, .int (nI (ns 1)), .int (nI (wbs 1))]), (b1, aI g 32 (fs 1)), (a2, ob 2 [.ref b2, .int (nI (ns 2)), .int (nI (wbs 2))]), (b2, aI g 32 (fs 2)), (a3, ob 2 [.ref b3, .int (nI (ns 3)), .int (nI (wbs 3))]), (b3, aI g 32 (fs 3)), (a4, ob 2 [.ref b4, .int (nI (ns 4)), .int (nI (wbs 4))]), (b4, aI g 32 (fs 4)), (a5, ob 2 [.ref b5, .int (nI (ns 5)), .int (nI (wbs 5))]), (b5, aI g 32 (fs 5))]) rfl (by decide) (by decide) (fun w0 H locs hq S => ?_)
        obtain ⟨f9, hf9, rfl⟩ := hq
        have S : ST g A ss H locs [(HH, ob 0 [.ref rg, .int (nI (1 - 1)), .int (nI (z - 1))]), (rg, aO g 6 ro), (a0, ob 2 [.ref b0, .int (nI (ns 0)), .int (nI (wbs 0))]), (b0, aI g 32 (fs 0)), (a1, ob 2 [.ref b1, .int (nI (ns 1)), .int (nI (wbs 1))]), (b1, aI g 32 (fs 1)), (a2, ob 2 [.ref b2, .int (nI (ns 2)), .int (nI (wbs 2))]), (b2, aI g 32 (fs 2)), (a3, ob 2 [.ref b3, .int (nI (ns 3)), .int (nI (wbs 3))]), (b3, aI g 32 (fs 3)), (a4, ob 2 [.ref b4, .int (nI (ns 4)), .int (nI (wbs 4))]), (b4, aI g 32 (fs 4)), (a5, ob 2 [.ref b5, .int (nI (ns 5)), .int (nI (wbs 5))]), (b5, aI g 32 (fs 5)), (h, ob 2 [.ref q, .int (nI (ns 0)), .int (nI (wbs 0))]), (q, aI g 32 f9)] := ST.sub S [0, 1, 14, 15, 2, 3, 4, 5, 6, 7, 8, 9, 10, 11, 12, 13] (by decide) rfl
        refine lv_iconst (v := 1) hx hb dX0_popInto_53 (by decide) ?_
        exact ret_Z (true) C S hr dX0_popInto_54 (rfl) ⟨(rfl), f9, (hf9), (rfl)⟩
      · -- 14 F
        exact absurd c_3 (by decide)
    · -- k = 2
      refine lv_aload_n hx hb dX0_popInto_9 rfl (lv_at hl 0 rfl) ?_
      refine lv_aload_n hx hb dX0_popInto_10 rfl (lv_at hl 0 rfl) ?_
      refine top_get C S inX0_popIntop_X0 rfl 0 rfl 1 (by decide) (by decide +kernel) rfl rfl dX0_popInto_11 ?_
      refine bn_zne (tgt := 21) (a := 2) hx hb rfl (by omega) dX0_popInto_14 (by decide) (fun c_4 => ?_) (fun c_4 => ?_)
      · -- 14 T
        refine lv_aload_n hx hb dX0_popInto_21 rfl (lv_at hl 0 rfl) ?_
        refine top_get C S inX0_popIntop_X0 rfl 0 rfl 1 (by decide) (by decide +kernel) rfl rfl dX0_popInto_22 ?_
        refine lv_iconst (v := 1) hx hb dX0_popInto_25 (by decide) ?_
        refine lv_isub hx hb dX0_popInto_26 ?_
        refine top_eq (y := nI (2 - 1)) (pk_sub (a := 2) (b := 1) (by omega)) ?_
        refine top_put (ty := .int) C S inX0_popIntop_X0 tyX0 tyX0_ok nmX0 rfl 0 rfl 1 (by decide) (by decide +kernel) rfl rfl (tyX0_ok 1 (by decide)) rfl rfl (Nat.le_of_ble_eq_true rfl) dX0_popInto_27 (fun H locs S => ?_)
        have S : ST g A ss H locs [(HH, ob 0 [.ref rg, .int (nI (2 - 1)), .int (nI z)]), (rg, aO g 6 ro), (a0, ob 2 [.ref b0, .int (nI (ns 0)), .int (nI (wbs 0))]), (b0, aI g 32 (fs 0)), (a1, ob 2 [.ref b1, .int (nI (ns 1)), .int (nI (wbs 1))]), (b1, aI g 32 (fs 1)), (a2, ob 2 [.ref b2, .int (nI (ns 2)), .int (nI (wbs 2))]), (b2, aI g 32 (fs 2)), (a3, ob 2 [.ref b3, .int (nI (ns 3)), .int (nI (wbs 3))]), (b3, aI g 32 (fs 3)), (a4, ob 2 [.ref b4, .int (nI (ns 4)), .int (nI (wbs 4))]), (b4, aI g 32 (fs 4)), (a5, ob 2 [.ref b5, .int (nI (ns 5)), .int (nI (wbs 5))]), (b5, aI g 32 (fs 5)), (h, ob 2 [.ref q, .int (nI n), .int (nI ww)]), (q, aI g 32 f)] := S
        refine lv_aload_n hx hb dX0_popInto_30 rfl (lv_at hl 0 rfl) ?_
        refine lv_dup hx hb dX0_popInto_31 rfl ?_
        refine top_get C S inX0_popIntop_X0 rfl 0 rfl 2 (by decide) (by decide +kernel) rfl rfl dX0_popInto_32 ?_
        refine lv_iconst (v := 1) hx hb dX0_popInto_35 (by decide) ?_
        refine lv_isub hx hb dX0_popInto_36 ?_
        refine top_eq (y := nI (z - 1)) (pk_sub (a := z) (b := 1) (by omega)) ?_
        refine top_put (ty := .int) C S inX0_popIntop_X0 tyX0 tyX0_ok nmX0 rfl 0 rfl 2 (by decide) (by decide +kernel) rfl rfl (tyX0_ok 2 (by decide)) rfl rfl (Nat.le_of_ble_eq_true rfl) dX0_popInto_37 (fun H locs S => ?_)
        have S : ST g A ss H locs [(HH, ob 0 [.ref rg, .int (nI (2 - 1)), .int (nI (z - 1))]), (rg, aO g 6 ro), (a0, ob 2 [.ref b0, .int (nI (ns 0)), .int (nI (wbs 0))]), (b0, aI g 32 (fs 0)), (a1, ob 2 [.ref b1, .int (nI (ns 1)), .int (nI (wbs 1))]), (b1, aI g 32 (fs 1)), (a2, ob 2 [.ref b2, .int (nI (ns 2)), .int (nI (wbs 2))]), (b2, aI g 32 (fs 2)), (a3, ob 2 [.ref b3, .int (nI (ns 3)), .int (nI (wbs 3))]), (b3, aI g 32 (fs 3)), (a4, ob 2 [.ref b4, .int (nI (ns 4)), .int (nI (wbs 4))]), (b4, aI g 32 (fs 4)), (a5, ob 2 [.ref b5, .int (nI (ns 5)), .int (nI (wbs 5))]), (b5, aI g 32 (fs 5)), (h, ob 2 [.ref q, .int (nI n), .int (nI ww)]), (q, aI g 32 f)] := S
        refine lv_aload_n hx hb dX0_popInto_40 rfl (lv_at hl 1 rfl) ?_
        refine lv_aload_n hx hb dX0_popInto_41 rfl (lv_at hl 0 rfl) ?_
        refine top_get C S inX0_popIntop_X0 rfl 0 rfl 0 (by decide) (by decide +kernel) rfl rfl dX0_popInto_42 ?_
        refine lv_aload_n hx hb dX0_popInto_45 rfl (lv_at hl 0 rfl) ?_
        refine top_get C S inX0_popIntop_X0 rfl 0 rfl 1 (by decide) (by decide +kernel) rfl rfl dX0_popInto_46 ?_
        refine top_old C S 1 rfl (j := (2 - 1)) rfl (by omega) (by decide) (by exact hro.2.1) dX0_popInto_49 ?_
        refine after_V (wc := [(h, ob 2 [.ref q, .int (nI n), .int (nI ww)]), (q, aI g 32 f), (a1, ob 2 [.ref b1, .int (nI (ns 1)), .int (nI (wbs 1))]), (b1, aI g 32 (fs 1))]) (y := yX2_become) C S (va_runV (As := [.ref a1]) (rest := []) C.1 (kX2_become l g h q f n ww a1 b1 (fs 1) (ns 1) (wbs 1) H.size) (cwV 1 hts gX0_popInto_X2_become rfl rfl rfl (by decide +kernel) ⟨Nat.le_of_ble_eq_true rfl, Nat.le_of_ble_eq_true rfl⟩) (preV_at C S 14 rfl rfl [14, 15, 4, 5] rfl (by decide)) rfl rfl hl.1 rfl (lv_room (Nat.le_of_ble_eq_true rfl)) dX0_popInto_50 ⟨Nat.le_of_ble_eq_true rfl, Nat.le_of_ble_eq_true rfl⟩) [14, 15, 4, 5] [0, 1, 2, 3, 6, 7, 8, 9, 10, 11, 12, 13] rfl (wr := [(HH, ob 0 [.ref rg, .int (nI (2 - 1)), .int (nI (z - 1))]), (rg, aO g 6 ro), (a0, ob 2 [.ref b0, .int (nI (ns 0)), .int (nI (wbs 0))]), (b0, aI g 32 (fs 0)), (a2, ob 2 [.ref b2, .int (nI (ns 2)), .int (nI (wbs 2))]), (b2, aI g 32 (fs 2)), (a3, ob 2 [.ref b3, .int (nI (ns 3)), .int (nI (wbs 3))]), (b3, aI g 32 (fs 3)), (a4, ob 2 [.ref b4, .int (nI (ns 4)), .int (nI (wbs 4))]), (b4, aI g 32 (fs 4)), (a5, ob 2 [.ref b5, .int (nI (ns 5)), .int (nI (wbs 5))]), (b5, aI g 32 (fs 5))]) rfl (by decide) (by decide) (fun w0 H locs hq S => ?_)
        obtain ⟨f9, hf9, rfl⟩ := hq
        have S : ST g A ss H locs [(HH, ob 0 [.ref rg, .int (nI (2 - 1)), .int (nI (z - 1))]), (rg, aO g 6 ro), (a0, ob 2 [.ref b0, .int (nI (ns 0)), .int (nI (wbs 0))]), (b0, aI g 32 (fs 0)), (a1, ob 2 [.ref b1, .int (nI (ns 1)), .int (nI (wbs 1))]), (b1, aI g 32 (fs 1)), (a2, ob 2 [.ref b2, .int (nI (ns 2)), .int (nI (wbs 2))]), (b2, aI g 32 (fs 2)), (a3, ob 2 [.ref b3, .int (nI (ns 3)), .int (nI (wbs 3))]), (b3, aI g 32 (fs 3)), (a4, ob 2 [.ref b4, .int (nI (ns 4)), .int (nI (wbs 4))]), (b4, aI g 32 (fs 4)), (a5, ob 2 [.ref b5, .int (nI (ns 5)), .int (nI (wbs 5))]), (b5, aI g 32 (fs 5)), (h, ob 2 [.ref q, .int (nI (ns 1)), .int (nI (wbs 1))]), (q, aI g 32 f9)] := ST.sub S [0, 1, 2, 3, 14, 15, 4, 5, 6, 7, 8, 9, 10, 11, 12, 13] (by decide) rfl
        refine lv_iconst (v := 1) hx hb dX0_popInto_53 (by decide) ?_
        exact ret_Z (true) C S hr dX0_popInto_54 (rfl) ⟨(rfl), f9, (hf9), (rfl)⟩
      · -- 14 F
        exact absurd c_4 (by decide)
    · -- k = 3
      refine lv_aload_n hx hb dX0_popInto_9 rfl (lv_at hl 0 rfl) ?_
      refine lv_aload_n hx hb dX0_popInto_10 rfl (lv_at hl 0 rfl) ?_
      refine top_get C S inX0_popIntop_X0 rfl 0 rfl 1 (by decide) (by decide +kernel) rfl rfl dX0_popInto_11 ?_
      refine bn_zne (tgt := 21) (a := 3) hx hb rfl (by omega) dX0_popInto_14 (by decide) (fun c_5 => ?_) (fun c_5 => ?_)
      · -- 14 T
        refine lv_aload_n hx hb dX0_popInto_21 rfl (lv_at hl 0 rfl) ?_
        refine top_get C S inX0_popIntop_X0 rfl 0 rfl 1 (by decide) (by decide +kernel) rfl rfl dX0_popInto_22 ?_
        refine lv_iconst (v := 1) hx hb dX0_popInto_25 (by decide) ?_
        refine lv_isub hx hb dX0_popInto_26 ?_
        refine top_eq (y := nI (3 - 1)) (pk_sub (a := 3) (b := 1) (by omega)) ?_
        refine top_put (ty := .int) C S inX0_popIntop_X0 tyX0 tyX0_ok nmX0 rfl 0 rfl 1 (by decide) (by decide +kernel) rfl rfl (tyX0_ok 1 (by decide)) rfl rfl (Nat.le_of_ble_eq_true rfl) dX0_popInto_27 (fun H locs S => ?_)
        have S : ST g A ss H locs [(HH, ob 0 [.ref rg, .int (nI (3 - 1)), .int (nI z)]), (rg, aO g 6 ro), (a0, ob 2 [.ref b0, .int (nI (ns 0)), .int (nI (wbs 0))]), (b0, aI g 32 (fs 0)), (a1, ob 2 [.ref b1, .int (nI (ns 1)), .int (nI (wbs 1))]), (b1, aI g 32 (fs 1)), (a2, ob 2 [.ref b2, .int (nI (ns 2)), .int (nI (wbs 2))]), (b2, aI g 32 (fs 2)), (a3, ob 2 [.ref b3, .int (nI (ns 3)), .int (nI (wbs 3))]), (b3, aI g 32 (fs 3)), (a4, ob 2 [.ref b4, .int (nI (ns 4)), .int (nI (wbs 4))]), (b4, aI g 32 (fs 4)), (a5, ob 2 [.ref b5, .int (nI (ns 5)), .int (nI (wbs 5))]), (b5, aI g 32 (fs 5)), (h, ob 2 [.ref q, .int (nI n), .int (nI ww)]), (q, aI g 32 f)] := S
        refine lv_aload_n hx hb dX0_popInto_30 rfl (lv_at hl 0 rfl) ?_
        refine lv_dup hx hb dX0_popInto_31 rfl ?_
        refine top_get C S inX0_popIntop_X0 rfl 0 rfl 2 (by decide) (by decide +kernel) rfl rfl dX0_popInto_32 ?_
        refine lv_iconst (v := 1) hx hb dX0_popInto_35 (by decide) ?_
        refine lv_isub hx hb dX0_popInto_36 ?_
        refine top_eq (y := nI (z - 1)) (pk_sub (a := z) (b := 1) (by omega)) ?_
        refine top_put (ty := .int) C S inX0_popIntop_X0 tyX0 tyX0_ok nmX0 rfl 0 rfl 2 (by decide) (by decide +kernel) rfl rfl (tyX0_ok 2 (by decide)) rfl rfl (Nat.le_of_ble_eq_true rfl) dX0_popInto_37 (fun H locs S => ?_)
        have S : ST g A ss H locs [(HH, ob 0 [.ref rg, .int (nI (3 - 1)), .int (nI (z - 1))]), (rg, aO g 6 ro), (a0, ob 2 [.ref b0, .int (nI (ns 0)), .int (nI (wbs 0))]), (b0, aI g 32 (fs 0)), (a1, ob 2 [.ref b1, .int (nI (ns 1)), .int (nI (wbs 1))]), (b1, aI g 32 (fs 1)), (a2, ob 2 [.ref b2, .int (nI (ns 2)), .int (nI (wbs 2))]), (b2, aI g 32 (fs 2)), (a3, ob 2 [.ref b3, .int (nI (ns 3)), .int (nI (wbs 3))]), (b3, aI g 32 (fs 3)), (a4, ob 2 [.ref b4, .int (nI (ns 4)), .int (nI (wbs 4))]), (b4, aI g 32 (fs 4)), (a5, ob 2 [.ref b5, .int (nI (ns 5)), .int (nI (wbs 5))]), (b5, aI g 32 (fs 5)), (h, ob 2 [.ref q, .int (nI n), .int (nI ww)]), (q, aI g 32 f)] := S
        refine lv_aload_n hx hb dX0_popInto_40 rfl (lv_at hl 1 rfl) ?_
        refine lv_aload_n hx hb dX0_popInto_41 rfl (lv_at hl 0 rfl) ?_
        refine top_get C S inX0_popIntop_X0 rfl 0 rfl 0 (by decide) (by decide +kernel) rfl rfl dX0_popInto_42 ?_
        refine lv_aload_n hx hb dX0_popInto_45 rfl (lv_at hl 0 rfl) ?_
        refine top_get C S inX0_popIntop_X0 rfl 0 rfl 1 (by decide) (by decide +kernel) rfl rfl dX0_popInto_46 ?_
        refine top_old C S 1 rfl (j := (3 - 1)) rfl (by omega) (by decide) (by exact hro.2.2.1) dX0_popInto_49 ?_
        refine after_V (wc := [(h, ob 2 [.ref q, .int (nI n), .int (nI ww)]), (q, aI g 32 f), (a2, ob 2 [.ref b2, .int (nI (ns 2)), .int (nI (wbs 2))]), (b2, aI g 32 (fs 2))]) (y := yX2_become) C S (va_runV (As := [.ref a2]) (rest := []) C.1 (kX2_become l g h q f n ww a2 b2 (fs 2) (ns 2) (wbs 2) H.size) (cwV 1 hts gX0_popInto_X2_become rfl rfl rfl (by decide +kernel) ⟨Nat.le_of_ble_eq_true rfl, Nat.le_of_ble_eq_true rfl⟩) (preV_at C S 14 rfl rfl [14, 15, 6, 7] rfl (by decide)) rfl rfl hl.1 rfl (lv_room (Nat.le_of_ble_eq_true rfl)) dX0_popInto_50 ⟨Nat.le_of_ble_eq_true rfl, Nat.le_of_ble_eq_true rfl⟩) [14, 15, 6, 7] [0, 1, 2, 3, 4, 5, 8, 9, 10, 11, 12, 13] rfl (wr := [(HH, ob 0 [.ref rg, .int (nI (3 - 1)), .int (nI (z - 1))]), (rg, aO g 6 ro), (a0, ob 2 [.ref b0, .int (nI (ns 0)), .int (nI (wbs 0))]), (b0, aI g 32 (fs 0)), (a1, ob 2 [.ref b1, .int (nI (ns 1)), .int (nI (wbs 1))]), (b1, aI g 32 (fs 1)), (a3, ob 2 [.ref b3, .int (nI (ns 3)), .int (nI (wbs 3))]), (b3, aI g 32 (fs 3)), (a4, ob 2 [.ref b4, .int (nI (ns 4)), .int (nI (wbs 4))]), (b4, aI g 32 (fs 4)), (a5, ob 2 [.ref b5, .int (nI (ns 5)), .int (nI (wbs 5))]), (b5, aI g 32 (fs 5))]) rfl (by decide) (by decide) (fun w0 H locs hq S => ?_)
        obtain ⟨f9, hf9, rfl⟩ := hq
        have S : ST g A ss H locs [(HH, ob 0 [.ref rg, .int (nI (3 - 1)), .int (nI (z - 1))]), (rg, aO g 6 ro), (a0, ob 2 [.ref b0, .int (nI (ns 0)), .int (nI (wbs 0))]), (b0, aI g 32 (fs 0)), (a1, ob 2 [.ref b1, .int (nI (ns 1)), .int (nI (wbs 1))]), (b1, aI g 32 (fs 1)), (a2, ob 2 [.ref b2, .int (nI (ns 2)), .int (nI (wbs 2))]), (b2, aI g 32 (fs 2)), (a3, ob 2 [.ref b3, .int (nI (ns 3)), .int (nI (wbs 3))]), (b3, aI g 32 (fs 3)), (a4, ob 2 [.ref b4, .int (nI (ns 4)), .int (nI (wbs 4))]), (b4, aI g 32 (fs 4)), (a5, ob 2 [.ref b5, .int (nI (ns 5)), .int (nI (wbs 5))]), (b5, aI g 32 (fs 5)), (h, ob 2 [.ref q, .int (nI (ns 2)), .int (nI (wbs 2))]), (q, aI g 32 f9)] := ST.sub S [0, 1, 2, 3, 4, 5, 14, 15, 6, 7, 8, 9, 10, 11, 12, 13] (by decide) rfl
        refine lv_iconst (v := 1) hx hb dX0_popInto_53 (by decide) ?_
        exact ret_Z (true) C S hr dX0_popInto_54 (rfl) ⟨(rfl), f9, (hf9), (rfl)⟩
      · -- 14 F
        exact absurd c_5 (by decide)
    · -- k = 4
      refine lv_aload_n hx hb dX0_popInto_9 rfl (lv_at hl 0 rfl) ?_
      refine lv_aload_n hx hb dX0_popInto_10 rfl (lv_at hl 0 rfl) ?_
      refine top_get C S inX0_popIntop_X0 rfl 0 rfl 1 (by decide) (by decide +kernel) rfl rfl dX0_popInto_11 ?_
      refine bn_zne (tgt := 21) (a := 4) hx hb rfl (by omega) dX0_popInto_14 (by decide) (fun c_6 => ?_) (fun c_6 => ?_)
      · -- 14 T
        refine lv_aload_n hx hb dX0_popInto_21 rfl (lv_at hl 0 rfl) ?_
        refine top_get C S inX0_popIntop_X0 rfl 0 rfl 1 (by decide) (by decide +kernel) rfl rfl dX0_popInto_22 ?_
        refine lv_iconst (v := 1) hx hb dX0_popInto_25 (by decide) ?_
        refine lv_isub hx hb dX0_popInto_26 ?_
        refine top_eq (y := nI (4 - 1)) (pk_sub (a := 4) (b := 1) (by omega)) ?_
        refine top_put (ty := .int) C S inX0_popIntop_X0 tyX0 tyX0_ok nmX0 rfl 0 rfl 1 (by decide) (by decide +kernel) rfl rfl (tyX0_ok 1 (by decide)) rfl rfl (Nat.le_of_ble_eq_true rfl) dX0_popInto_27 (fun H locs S => ?_)
        have S : ST g A ss H locs [(HH, ob 0 [.ref rg, .int (nI (4 - 1)), .int (nI z)]), (rg, aO g 6 ro), (a0, ob 2 [.ref b0, .int (nI (ns 0)), .int (nI (wbs 0))]), (b0, aI g 32 (fs 0)), (a1, ob 2 [.ref b1, .int (nI (ns 1)), .int (nI (wbs 1))]), (b1, aI g 32 (fs 1)), (a2, ob 2 [.ref b2, .int (nI (ns 2)), .int (nI (wbs 2))]), (b2, aI g 32 (fs 2)), (a3, ob 2 [.ref b3, .int (nI (ns 3)), .int (nI (wbs 3))]), (b3, aI g 32 (fs 3)), (a4, ob 2 [.ref b4, .int (nI (ns 4)), .int (nI (wbs 4))]), (b4, aI g 32 (fs 4)), (a5, ob 2 [.ref b5, .int (nI (ns 5)), .int (nI (wbs 5))]), (b5, aI g 32 (fs 5)), (h, ob 2 [.ref q, .int (nI n), .int (nI ww)]), (q, aI g 32 f)] := S
        refine lv_aload_n hx hb dX0_popInto_30 rfl (lv_at hl 0 rfl) ?_
        refine lv_dup hx hb dX0_popInto_31 rfl ?_
        refine top_get C S inX0_popIntop_X0 rfl 0 rfl 2 (by decide) (by decide +kernel) rfl rfl dX0_popInto_32 ?_
        refine lv_iconst (v := 1) hx hb dX0_popInto_35 (by decide) ?_
        refine lv_isub hx hb dX0_popInto_36 ?_
        refine top_eq (y := nI (z - 1)) (pk_sub (a := z) (b := 1) (by omega)) ?_
        refine top_put (ty := .int) C S inX0_popIntop_X0 tyX0 tyX0_ok nmX0 rfl 0 rfl 2 (by decide) (by decide +kernel) rfl rfl (tyX0_ok 2 (by decide)) rfl rfl (Nat.le_of_ble_eq_true rfl) dX0_popInto_37 (fun H locs S => ?_)
        have S : ST g A ss H locs [(HH, ob 0 [.ref rg, .int (nI (4 - 1)), .int (nI (z - 1))]), (rg, aO g 6 ro), (a0, ob 2 [.ref b0, .int (nI (ns 0)), .int (nI (wbs 0))]), (b0, aI g 32 (fs 0)), (a1, ob 2 [.ref b1, .int (nI (ns 1)), .int (nI (wbs 1))]), (b1, aI g 32 (fs 1)), (a2, ob 2 [.ref b2, .int (nI (ns 2)), .int (nI (wbs 2))]), (b2, aI g 32 (fs 2)), (a3, ob 2 [.ref b3, .int (nI (ns 3)), .int (nI (wbs 3))]), (b3, aI g 32 (fs 3)), (a4, ob 2 [.ref b4, .int (nI (ns 4)), .int (nI (wbs 4))]), (b4, aI g 32 (fs 4)), (a5, ob 2 [.ref b5, .int (nI (ns 5)), .int (nI (wbs 5))]), (b5, aI g 32 (fs 5)), (h, ob 2 [.ref q, .int (nI n), .int (nI ww)]), (q, aI g 32 f)] := S
        refine lv_aload_n hx hb dX0_popInto_40 rfl (lv_at hl 1 rfl) ?_
        refine lv_aload_n hx hb dX0_popInto_41 rfl (lv_at hl 0 rfl) ?_
        refine top_get C S inX0_popIntop_X0 rfl 0 rfl 0 (by decide) (by decide +kernel) rfl rfl dX0_popInto_42 ?_
        refine lv_aload_n hx hb dX0_popInto_45 rfl (lv_at hl 0 rfl) ?_
        refine top_get C S inX0_popIntop_X0 rfl 0 rfl 1 (by decide) (by decide +kernel) rfl rfl dX0_popInto_46 ?_
        refine top_old C S 1 rfl (j := (4 - 1)) rfl (by omega) (by decide) (by exact hro.2.2.2.1) dX0_popInto_49 ?_
        refine after_V (wc := [(h, ob 2 [.ref q, .int (nI n), .int (nI ww)]), (q, aI g 32 f), (a3, ob 2 [.ref b3, .int (nI (ns 3)), .int (nI (wbs 3))]), (b3, aI g 32 (fs 3))]) (y := yX2_become) C S (va_runV (As := [.ref a3]) (rest := []) C.1 (kX2_become l g h q f n ww a3 b3 (fs 3) (ns 3) (wbs 3) H.size) (cwV 1 hts gX0_popInto_X2_become rfl rfl rfl (by decide +kernel) ⟨Nat.le_of_ble_eq_true rfl, Nat.le_of_ble_eq_true rfl⟩) (preV_at C S 14 rfl rfl [14, 15, 8, 9] rfl (by decide)) rfl rfl hl.1 rfl (lv_room (Nat.le_of_ble_eq_true rfl)) dX0_popInto_50 ⟨Nat.le_of_ble_eq_true rfl, Nat.le_of_ble_eq_true rfl⟩) [14, 15, 8, 9] [0, 1, 2, 3, 4, 5, 6, 7, 10, 11, 12, 13] rfl (wr := [(HH, ob 0 [.ref rg, .int (nI (4 - 1)), .int (nI (z - 1))]), (rg, aO g 6 ro), (a0, ob 2 [.ref b0, .int (nI (ns 0)), .int (nI (wbs 0))]), (b0, aI g 32 (fs 0)), (a1, ob 2 [.ref b1, .int (nI (ns 1)), .int (nI (wbs 1))]), (b1, aI g 32 (fs 1)), (a2, ob 2 [.ref b2, .int (nI (ns 2)), .int (nI (wbs 2))]), (b2, aI g 32 (fs 2)), (a4, ob 2 [.ref b4, .int (nI (ns 4)), .int (nI (wbs 4))]), (b4, aI g 32 (fs 4)), (a5, ob 2 [.ref b5, .int (nI (ns 5)), .int (nI (wbs 5))]), (b5, aI g 32 (fs 5))]) rfl (by decide) (by decide) (fun w0 H locs hq S => ?_)
        obtain ⟨f9, hf9, rfl⟩ := hq
        have S : ST g A ss H locs [(HH, ob 0 [.ref rg, .int (nI (4 - 1)), .int (nI (z - 1))]), (rg, aO g 6 ro), (a0, ob 2 [.ref b0, .int (nI (ns 0)), .int (nI (wbs 0))]), (b0, aI g 32 (fs 0)), (a1, ob 2 [.ref b1, .int (nI (ns 1)), .int (nI (wbs 1))]), (b1, aI g 32 (fs 1)), (a2, ob 2 [.ref b2, .int (nI (ns 2)), .int (nI (wbs 2))]), (b2, aI g 32 (fs 2)), (a3, ob 2 [.ref b3, .int (nI (ns 3)), .int (nI (wbs 3))]), (b3, aI g 32 (fs 3)), (a4, ob 2 [.ref b4, .int (nI (ns 4)), .int (nI (wbs 4))]), (b4, aI g 32 (fs 4)), (a5, ob 2 [.ref b5, .int (nI (ns 5)), .int (nI (wbs 5))]), (b5, aI g 32 (fs 5)), (h, ob 2 [.ref q, .int (nI (ns 3)), .int (nI (wbs 3))]), (q, aI g 32 f9)] := ST.sub S [0, 1, 2, 3, 4, 5, 6, 7, 14, 15, 8, 9, 10, 11, 12, 13] (by decide) rfl
        refine lv_iconst (v := 1) hx hb dX0_popInto_53 (by decide) ?_
        exact ret_Z (true) C S hr dX0_popInto_54 (rfl) ⟨(rfl), f9, (hf9), (rfl)⟩
      · -- 14 F
        exact absurd c_6 (by decide)
    · -- k = 5
      refine lv_aload_n hx hb dX0_popInto_9 rfl (lv_at hl 0 rfl) ?_
      refine lv_aload_n hx hb dX0_popInto_10 rfl (lv_at hl 0 rfl) ?_
      refine top_get C S inX0_popIntop_X0 rfl 0 rfl 1 (by decide) (by decide +kernel) rfl rfl dX0_popInto_11 ?_
      refine bn_zne (tgt := 21) (a := 5) hx hb rfl (by omega) dX0_popInto_14 (by decide) (fun c_7 => ?_) (fun c_7 => ?_)
      · -- 14 T
        refine lv_aload_n hx hb dX0_popInto_21 rfl (lv_at hl 0 rfl) ?_
        refine top_get C S inX0_popIntop_X0 rfl 0 rfl 1 (by decide) (by decide +kernel) rfl rfl dX0_popInto_22 ?_
        refine lv_iconst (v := 1) hx hb dX0_popInto_25 (by decide) ?_
        refine lv_isub hx hb dX0_popInto_26 ?_
        refine top_eq (y := nI (5 - 1)) (pk_sub (a := 5) (b := 1) (by omega)) ?_
        refine top_put (ty := .int) C S inX0_popIntop_X0 tyX0 tyX0_ok nmX0 rfl 0 rfl 1 (by decide) (by decide +kernel) rfl rfl (tyX0_ok 1 (by decide)) rfl rfl (Nat.le_of_ble_eq_true rfl) dX0_popInto_27 (fun H locs S => ?_)
        have S : ST g A ss H locs [(HH, ob 0 [.ref rg, .int (nI (5 - 1)), .int (nI z)]), (rg, aO g 6 ro), (a0, ob 2 [.ref b0, .int (nI (ns 0)), .int (nI (wbs 0))]), (b0, aI g 32 (fs 0)), (a1, ob 2 [.ref b1, .int (nI (ns 1)), .int (nI (wbs 1))]), (b1, aI g 32 (fs 1)), (a2, ob 2 [.ref b2, .int (nI (ns 2)), .int (nI (wbs 2))]), (b2, aI g 32 (fs 2)), (a3, ob 2 [.ref b3, .int (nI (ns 3)), .int (nI (wbs 3))]), (b3, aI g 32 (fs 3)), (a4, ob 2 [.ref b4, .int (nI (ns 4)), .int (nI (wbs 4))]), (b4, aI g 32 (fs 4)), (a5, ob 2 [.ref b5, .int (nI (ns 5)), .int (nI (wbs 5))]), (b5, aI g 32 (fs 5)), (h, ob 2 [.ref q, .int (nI n), .int (nI ww)]), (q, aI g 32 f)] := S
        refine lv_aload_n hx hb dX0_popInto_30 rfl (lv_at hl 0 rfl) ?_
        refine lv_dup hx hb dX0_popInto_31 rfl ?_
        refine top_get C S inX0_popIntop_X0 rfl 0 rfl 2 (by decide) (by decide +kernel) rfl rfl dX0_popInto_32 ?_
        refine lv_iconst (v := 1) hx hb dX0_popInto_35 (by decide) ?_
        refine lv_isub hx hb dX0_popInto_36 ?_
        refine top_eq (y := nI (z - 1)) (pk_sub (a := z) (b := 1) (by omega)) ?_
        refine top_put (ty := .int) C S inX0_popIntop_X0 tyX0 tyX0_ok nmX0 rfl 0 rfl 2 (by decide) (by decide +kernel) rfl rfl (tyX0_ok 2 (by decide)) rfl rfl (Nat.le_of_ble_eq_true rfl) dX0_popInto_37 (fun H locs S => ?_)
        have S : ST g A ss H locs [(HH, ob 0 [.ref rg, .int (nI (5 - 1)), .int (nI (z - 1))]), (rg, aO g 6 ro), (a0, ob 2 [.ref b0, .int (nI (ns 0)), .int (nI (wbs 0))]), (b0, aI g 32 (fs 0)), (a1, ob 2 [.ref b1, .int (nI (ns 1)), .int (nI (wbs 1))]), (b1, aI g 32 (fs 1)), (a2, ob 2 [.ref b2, .int (nI (ns 2)), .int (nI (wbs 2))]), (b2, aI g 32 (fs 2)), (a3, ob 2 [.ref b3, .int (nI (ns 3)), .int (nI (wbs 3))]), (b3, aI g 32 (fs 3)), (a4, ob 2 [.ref b4, .int (nI (ns 4)), .int (nI (wbs 4))]), (b4, aI g 32 (fs 4)), (a5, ob 2 [.ref b5, .int (nI (ns 5)), .int (nI (wbs 5))]), (b5, aI g 32 (fs 5)), (h, ob 2 [.ref q, .int (nI n), .int (nI ww)]), (q, aI g 32 f)] := S
        refine lv_aload_n hx hb dX0_popInto_40 rfl (lv_at hl 1 rfl) ?_
        refine lv_aload_n hx hb dX0_popInto_41 rfl (lv_at hl 0 rfl) ?_
        refine top_get C S inX0_popIntop_X0 rfl 0 rfl 0 (by decide) (by decide +kernel) rfl rfl dX0_popInto_42 ?_
        refine lv_aload_n hx hb dX0_popInto_45 rfl (lv_at hl 0 rfl) ?_
        refine top_get C S inX0_popIntop_X0 rfl 0 rfl 1 (by decide) (by decide +kernel) rfl rfl dX0_popInto_46 ?_
        refine top_old C S 1 rfl (j := (5 - 1)) rfl (by omega) (by decide) (by exact hro.2.2.2.2.1) dX0_popInto_49 ?_
        refine after_V (wc := [(h, ob 2 [.ref q, .int (nI n), .int (nI ww)]), (q, aI g 32 f), (a4, ob 2 [.ref b4, .int (nI (ns 4)), .int (nI (wbs 4))]), (b4, aI g 32 (fs 4))]) (y := yX2_become) C S (va_runV (As := [.ref a4]) (rest := []) C.1 (kX2_become l g h q f n ww a4 b4 (fs 4) (ns 4) (wbs 4) H.size) (cwV 1 hts gX0_popInto_X2_become rfl rfl rfl (by decide +kernel) ⟨Nat.le_of_ble_eq_true rfl, Nat.le_of_ble_eq_true rfl⟩) (preV_at C S 14 rfl rfl [14, 15, 10, 11] rfl (by decide)) rfl rfl hl.1 rfl (lv_room (Nat.le_of_ble_eq_true rfl)) dX0_popInto_50 ⟨Nat.le_of_ble_eq_true rfl, Nat.le_of_ble_eq_true rfl⟩) [14, 15, 10, 11] [0, 1, 2, 3, 4, 5, 6, 7, 8, 9, 12, 13] rfl (wr := [(HH, ob 0 [.ref rg, .int (nI (5 - 1)), .int (nI (z - 1))]), (rg, aO g 6 ro), (a0, ob 2 [.ref b0, .int (nI (ns 0)), .int (nI (wbs 0))]), (b0, aI g 32 (fs 0)), (a1, ob 2 [.ref b1, .int (nI (ns 1)), .int (nI (wbs 1))]), (b1, aI g 32 (fs 1)), (a2, ob 2 [.ref b2, .int (nI (ns 2)), .int (nI (wbs 2))]), (b2, aI g 32 (fs 2)), (a3, ob 2 [.ref b3, .int (nI (ns 3)), .int (nI (wbs 3))]), (b3, aI g 32 (fs 3)), (a5, ob 2 [.ref b5, .int (nI (ns 5)), .int (nI (wbs 5))]), (b5, aI g 32 (fs 5))]) rfl (by decide) (by decide) (fun w0 H locs hq S => ?_)
        obtain ⟨f9, hf9, rfl⟩ := hq
        have S : ST g A ss H locs [(HH, ob 0 [.ref rg, .int (nI (5 - 1)), .int (nI (z - 1))]), (rg, aO g 6 ro), (a0, ob 2 [.ref b0, .int (nI (ns 0)), .int (nI (wbs 0))]), (b0, aI g 32 (fs 0)), (a1, ob 2 [.ref b1, .int (nI (ns 1)), .int (nI (wbs 1))]), (b1, aI g 32 (fs 1)), (a2, ob 2 [.ref b2, .int (nI (ns 2)), .int (nI (wbs 2))]), (b2, aI g 32 (fs 2)), (a3, ob 2 [.ref b3, .int (nI (ns 3)), .int (nI (wbs 3))]), (b3, aI g 32 (fs 3)), (a4, ob 2 [.ref b4, .int (nI (ns 4)), .int (nI (wbs 4))]), (b4, aI g 32 (fs 4)), (a5, ob 2 [.ref b5, .int (nI (ns 5)), .int (nI (wbs 5))]), (b5, aI g 32 (fs 5)), (h, ob 2 [.ref q, .int (nI (ns 4)), .int (nI (wbs 4))]), (q, aI g 32 f9)] := ST.sub S [0, 1, 2, 3, 4, 5, 6, 7, 8, 9, 14, 15, 10, 11, 12, 13] (by decide) rfl
        refine lv_iconst (v := 1) hx hb dX0_popInto_53 (by decide) ?_
        exact ret_Z (true) C S hr dX0_popInto_54 (rfl) ⟨(rfl), f9, (hf9), (rfl)⟩
      · -- 14 F
        exact absurd c_7 (by decide)
  · -- 4 F
    exact absurd c_1 (by omega)

theorem inX0_empty_X0 : ∀ w ∈ wsX00, w ∈ wsX0_empty := by decide +kernel
set_option maxRecDepth 100000 in
set_option maxHeartbeats 4000000 in
theorem kX0_empty (l : Launch) (g : GG) (HH : Nat) (rg : Nat) (ro : Nat → Option Nat) (k : Nat) (z : Nat)  : KV l g yX0_empty wsX0_empty 0 0 [.ref HH] [(HH, ob 0 [.ref rg, .int (nI k), .int (nI z)]), (rg, aO g 6 ro)] (fun (w' : va_W) => w' = [(HH, ob 0 [.ref rg, .int (nI k), .int (nI 0)]), (rg, aO g 6 ro)]) := by
  refine kV_of (cc := cX0_empty) (maxL := 1) (by decide) rfl (Nat.le_of_ble_eq_true rfl) ?_
  intro pp ee ss mm bel mth cd A ls C S hr hl
  obtain ⟨hx, hb, hml, hown, hts⟩ := id C.1
  have hl : lv_has ls 1 [(0, .ref HH)] := hl
  obtain ⟨H, hH⟩ : ∃ H, H = ss.heap := ⟨_, rfl⟩
  obtain ⟨locs, hL0⟩ : ∃ L : List Loc, L = [] := ⟨_, rfl⟩
  rw [← hH, ← hL0] at S ⊢
  refine lv_aload_n hx hb dX0_empty_0 rfl (lv_at hl 0 rfl) ?_
  refine lv_iconst (v := 0) hx hb dX0_empty_1 (by decide) ?_
  refine top_put (ty := .int) C S inX0_empty_X0 tyX0 tyX0_ok nmX0 rfl 0 rfl 2 (by decide) (by decide +kernel) rfl rfl (tyX0_ok 2 (by decide)) rfl rfl (Nat.le_of_ble_eq_true rfl) dX0_empty_2 (fun H locs S => ?_)
  have S : ST g A ss H locs [(HH, ob 0 [.ref rg, .int (nI k), .int 0]), (rg, aO g 6 ro)] := S
  exact ret_V C S hr dX0_empty_5 (by first | rfl | simp only [])

theorem inX1_put_X1 : ∀ w ∈ wsX10, w ∈ wsX1_put := by decide +kernel
set_option maxRecDepth 100000 in
set_option maxHeartbeats 4000000 in
theorem kX1_put (l : Launch) (g : GG) (IM : Nat) (ig : Nat) (io : Nat → Option Nat) (c0 : Nat) (d0 : Nat) (c1 : Nat) (d1 : Nat) (gs : Nat → Nat → Int32) (ms : Nat → Nat) (vbs : Nat → Nat) (kb : Nat) (h : Nat) (q : Nat) (f : Nat → Int32) (n : Nat) (ww : Nat) (j : Nat) (hio : io 0 = some c0 ∧ io 1 = some c1) (hj : j < 2) (hkb : kb < 4) : KV l g yX1_put wsX1_put 2 85 [.ref IM, .int (nI j), .ref h] [(IM, ob 1 [.ref ig, .int (nI kb)]), (ig, aO g 2 io), (c0, ob 2 [.ref d0, .int (nI (ms 0)), .int (nI (vbs 0))]), (d0, aI g 32 (gs 0)), (c1, ob 2 [.ref d1, .int (nI (ms 1)), .int (nI (vbs 1))]), (d1, aI g 32 (gs 1)), (h, ob 2 [.ref q, .int (nI n), .int (nI ww)]), (q, aI g 32 f)] (fun (w' : va_W) => ∃ (f' : Nat → Int32), (∀ j9, j9 < 32 → f' j9 = f j9) ∧ w' = [(IM, ob 1 [.ref ig, .int (nI (kb ||| 2 ^ j))]), (ig, aO g 2 io), (c0, ob 2 [.ref d0, .int (nI (updA ms j n 0)), .int (nI (updA vbs j ww 0))]), (d0, aI g 32 (updA gs j f' 0)), (c1, ob 2 [.ref d1, .int (nI (updA ms j n 1)), .int (nI (updA vbs j ww 1))]), (d1, aI g 32 (updA gs j f' 1)), (h, ob 2 [.ref q, .int (nI n), .int (nI ww)]), (q, aI g 32 f)]) := by
  refine kV_of (cc := cX1_put) (maxL := 3) (by decide) rfl (Nat.le_of_ble_eq_true rfl) ?_
  intro pp ee ss mm bel mth cd A ls C S hr hl
  obtain ⟨hx, hb, hml, hown, hts⟩ := id C.1
  have hl : lv_has ls 3 [(0, .ref IM), (1, .int (nI j)), (2, .ref h)] := hl
  obtain ⟨H, hH⟩ : ∃ H, H = ss.heap := ⟨_, rfl⟩
  obtain ⟨locs, hL0⟩ : ∃ L : List Loc, L = [] := ⟨_, rfl⟩
  rw [← hH, ← hL0] at S ⊢
  rcases (show j = 0 ∨ j = 1 by omega) with rfl | rfl
  · -- j = 0
    refine lv_aload_n hx hb dX1_put_0 rfl (lv_at hl 0 rfl) ?_
    refine top_get C S inX1_put_X1 rfl 0 rfl 0 (by decide) (by decide +kernel) rfl rfl dX1_put_1 ?_
    refine lv_iload_n hx hb dX1_put_4 rfl (lv_at hl 1 rfl) ?_
    refine top_old C S 1 rfl (j := 0) rfl (by omega) (by decide) (by exact hio.1) dX1_put_5 ?_
    refine lv_aload_n hx hb dX1_put_6 rfl (lv_at hl 2 rfl) ?_
    refine after_V (wc := [(c0, ob 2 [.ref d0, .int (nI (ms 0)), .int (nI (vbs 0))]), (d0, aI g 32 (gs 0)), (h, ob 2 [.ref q, .int (nI n), .int (nI ww)]), (q, aI g 32 f)]) (y := yX2_become) C S (va_runV (As := [.ref h]) (rest := []) C.1 (kX2_become l g c0 d0 (gs 0) (ms 0) (vbs 0) h q f n ww H.size) (cwV 1 hts gX1_put_X2_become rfl rfl rfl (by decide +kernel) ⟨Nat.le_of_ble_eq_true rfl, Nat.le_of_ble_eq_true rfl⟩) (preV_at C S 2 rfl rfl [2, 3, 6, 7] rfl (by decide)) rfl rfl hl.1 rfl (lv_room (Nat.le_of_ble_eq_true rfl)) dX1_put_7 ⟨Nat.le_of_ble_eq_true rfl, Nat.le_of_ble_eq_true rfl⟩) [2, 3, 6, 7] [0, 1, 4, 5] rfl (wr := [(IM, ob 1 [.ref ig, .int (nI kb)]), (ig, aO g 2 io), (c1, ob 2 [.ref d1, .int (nI (ms 1)), .int (nI (vbs 1))]), (d1, aI g 32 (gs 1))]) rfl (by decide) (by decide) (fun w0 H locs hq S => ?_)
    obtain ⟨f9, hf9, rfl⟩ := hq
    have S : ST g A ss H locs [(IM, ob 1 [.ref ig, .int (nI kb)]), (ig, aO g 2 io), (c0, ob 2 [.ref d0, .int (nI n), .int (nI ww)]), (d0, aI g 32 f9), (c1, ob 2 [.ref d1, .int (nI (ms 1)), .int (nI (vbs 1))]), (d1, aI g 32 (gs 1)), (h, ob 2 [.ref q, .int (nI n), .int (nI ww)]), (q, aI g 32 f)] := ST.sub S [0, 1, 4, 5, 2, 3, 6, 7] (by decide) rfl
    refine lv_aload_n hx hb dX1_put_10 rfl (lv_at hl 0 rfl) ?_
    refine lv_dup hx hb dX1_put_11 rfl ?_
    refine top_get C S inX1_put_X1 rfl 0 rfl 1 (by decide) (by decide +kernel) rfl rfl dX1_put_12 ?_
    refine lv_iconst (v := 1) hx hb dX1_put_15 (by decide) ?_
    refine lv_iload_n hx hb dX1_put_16 rfl (lv_at hl 1 rfl) ?_
    refine lv_ishl hx hb dX1_put_17 ?_
    refine top_eq (y := nI (2 ^ 0)) (shl_1 (j := 0) (by omega)) ?_
    refine lv_ior hx hb dX1_put_18 ?_
    refine top_eq (y := nI (kb ||| 2 ^ 0)) (fa_or _ _) ?_
    refine top_put (ty := .int) C S inX1_put_X1 tyX1 tyX1_ok nmX1 rfl 0 rfl 1 (by decide) (by decide +kernel) rfl rfl (tyX1_ok 1 (by decide)) rfl rfl (Nat.le_of_ble_eq_true rfl) dX1_put_19 (fun H locs S => ?_)
    have S : ST g A ss H locs [(IM, ob 1 [.ref ig, .int (nI (kb ||| 2 ^ 0))]), (ig, aO g 2 io), (c0, ob 2 [.ref d0, .int (nI n), .int (nI ww)]), (d0, aI g 32 f9), (c1, ob 2 [.ref d1, .int (nI (ms 1)), .int (nI (vbs 1))]), (d1, aI g 32 (gs 1)), (h, ob 2 [.ref q, .int (nI n), .int (nI ww)]), (q, aI g 32 f)] := S
    exact ret_V C S hr dX1_put_22 ⟨f9, (hf9), (by first | rfl | simp only [])⟩
  · -- j = 1
    refine lv_aload_n hx hb dX1_put_0 rfl (lv_at hl 0 rfl) ?_
    refine top_get C S inX1_put_X1 rfl 0 rfl 0 (by decide) (by decide +kernel) rfl rfl dX1_put_1 ?_
    refine lv_iload_n hx hb dX1_put_4 rfl (lv_at hl 1 rfl) ?_
    refine top_old C S 1 rfl (j := 1) rfl (by omega) (by decide) (by exact hio.2) dX1_put_5 ?_
    refine lv_aload_n hx hb dX1_put_6 rfl (lv_at hl 2 rfl) ?_
    refine after_V (wc := [(c1, ob 2 [.ref d1, .int (nI (ms 1)), .int (nI (vbs 1))]), (d1, aI g 32 (gs 1)), (h, ob 2 [.ref q, .int (nI n), .int (nI ww)]), (q, aI g 32 f)]) (y := yX2_become) C S (va_runV (As := [.ref h]) (rest := []) C.1 (kX2_become l g c1 d1 (gs 1) (ms 1) (vbs 1) h q f n ww H.size) (cwV 1 hts gX1_put_X2_become rfl rfl rfl (by decide +kernel) ⟨Nat.le_of_ble_eq_true rfl, Nat.le_of_ble_eq_true rfl⟩) (preV_at C S 4 rfl rfl [4, 5, 6, 7] rfl (by decide)) rfl rfl hl.1 rfl (lv_room (Nat.le_of_ble_eq_true rfl)) dX1_put_7 ⟨Nat.le_of_ble_eq_true rfl, Nat.le_of_ble_eq_true rfl⟩) [4, 5, 6, 7] [0, 1, 2, 3] rfl (wr := [(IM, ob 1 [.ref ig, .int (nI kb)]), (ig, aO g 2 io), (c0, ob 2 [.ref d0, .int (nI (ms 0)), .int (nI (vbs 0))]), (d0, aI g 32 (gs 0))]) rfl (by decide) (by decide) (fun w0 H locs hq S => ?_)
    obtain ⟨f9, hf9, rfl⟩ := hq
    have S : ST g A ss H locs [(IM, ob 1 [.ref ig, .int (nI kb)]), (ig, aO g 2 io), (c0, ob 2 [.ref d0, .int (nI (ms 0)), .int (nI (vbs 0))]), (d0, aI g 32 (gs 0)), (c1, ob 2 [.ref d1, .int (nI n), .int (nI ww)]), (d1, aI g 32 f9), (h, ob 2 [.ref q, .int (nI n), .int (nI ww)]), (q, aI g 32 f)] := S
    refine lv_aload_n hx hb dX1_put_10 rfl (lv_at hl 0 rfl) ?_
    refine lv_dup hx hb dX1_put_11 rfl ?_
    refine top_get C S inX1_put_X1 rfl 0 rfl 1 (by decide) (by decide +kernel) rfl rfl dX1_put_12 ?_
    refine lv_iconst (v := 1) hx hb dX1_put_15 (by decide) ?_
    refine lv_iload_n hx hb dX1_put_16 rfl (lv_at hl 1 rfl) ?_
    refine lv_ishl hx hb dX1_put_17 ?_
    refine top_eq (y := nI (2 ^ 1)) (shl_1 (j := 1) (by omega)) ?_
    refine lv_ior hx hb dX1_put_18 ?_
    refine top_eq (y := nI (kb ||| 2 ^ 1)) (fa_or _ _) ?_
    refine top_put (ty := .int) C S inX1_put_X1 tyX1 tyX1_ok nmX1 rfl 0 rfl 1 (by decide) (by decide +kernel) rfl rfl (tyX1_ok 1 (by decide)) rfl rfl (Nat.le_of_ble_eq_true rfl) dX1_put_19 (fun H locs S => ?_)
    have S : ST g A ss H locs [(IM, ob 1 [.ref ig, .int (nI (kb ||| 2 ^ 1))]), (ig, aO g 2 io), (c0, ob 2 [.ref d0, .int (nI (ms 0)), .int (nI (vbs 0))]), (d0, aI g 32 (gs 0)), (c1, ob 2 [.ref d1, .int (nI n), .int (nI ww)]), (d1, aI g 32 f9), (h, ob 2 [.ref q, .int (nI n), .int (nI ww)]), (q, aI g 32 f)] := S
    exact ret_V C S hr dX1_put_22 ⟨f9, (hf9), (by first | rfl | simp only [])⟩

theorem inX1_getInton_X1 : ∀ w ∈ wsX10, w ∈ wsX1_getInto := by decide +kernel
set_option maxRecDepth 100000 in
set_option maxHeartbeats 4000000 in
theorem kX1_getInton (l : Launch) (g : GG) (IM : Nat) (ig : Nat) (io : Nat → Option Nat) (c0 : Nat) (d0 : Nat) (c1 : Nat) (d1 : Nat) (gs : Nat → Nat → Int32) (ms : Nat → Nat) (vbs : Nat → Nat) (kb : Nat) (h : Nat) (q : Nat) (f : Nat → Int32) (n : Nat) (ww : Nat) (j : Nat) (hj : j < 2) (hkb : kb < 4) (hno : kb.testBit j = false) : KI l g yX1_getInto wsX1_getInto 1 21 [.ref IM, .int (nI j), .ref h] [(IM, ob 1 [.ref ig, .int (nI kb)]), (ig, aO g 2 io), (c0, ob 2 [.ref d0, .int (nI (ms 0)), .int (nI (vbs 0))]), (d0, aI g 32 (gs 0)), (c1, ob 2 [.ref d1, .int (nI (ms 1)), .int (nI (vbs 1))]), (d1, aI g 32 (gs 1)), (h, ob 2 [.ref q, .int (nI n), .int (nI ww)]), (q, aI g 32 f)] (fun (r : Int32) (w' : va_W) => r = (bI false) ∧ w' = [(IM, ob 1 [.ref ig, .int (nI kb)]), (ig, aO g 2 io), (c0, ob 2 [.ref d0, .int (nI (ms 0)), .int (nI (vbs 0))]), (d0, aI g 32 (gs 0)), (c1, ob 2 [.ref d1, .int (nI (ms 1)), .int (nI (vbs 1))]), (d1, aI g 32 (gs 1)), (h, ob 2 [.ref q, .int (nI n), .int (nI ww)]), (q, aI g 32 f)]) := by
  refine kI_of (cc := cX1_getInto) (maxL := 3) (by decide) rfl (Nat.le_of_ble_eq_true rfl) ?_
  intro pp ee ss mm bel mth cd A ls C S hr hl
  obtain ⟨hx, hb, hml, hown, hts⟩ := id C.1
  have hl : lv_has ls 3 [(0, .ref IM), (1, .int (nI j)), (2, .ref h)] := hl
  obtain ⟨H, hH⟩ : ∃ H, H = ss.heap := ⟨_, rfl⟩
  obtain ⟨locs, hL0⟩ : ∃ L : List Loc, L = [] := ⟨_, rfl⟩
  rw [← hH, ← hL0] at S ⊢
  refine lv_aload_n hx hb dX1_getInto_0 rfl (lv_at hl 0 rfl) ?_
  refine top_get C S inX1_getInton_X1 rfl 0 rfl 1 (by decide) (by decide +kernel) rfl rfl dX1_getInto_1 ?_
  refine lv_iload_n hx hb dX1_getInto_4 rfl (lv_at hl 1 rfl) ?_
  refine after_I (wc := []) (y := yX6_holds) C S (va_runSN (As := [.int (nI kb), .int (nI j)]) (rest := []) C.1 (kX6_holds l g kb j (by first | assumption | omega) (by first | assumption | omega) H.size) ⟨va_cnB 2 hts gX1_getInto_X6_holds_n26 rfl rfl rfl (C.2.2.1.1.2 ("StackedLeaves$Images", 26, yX6_holds) (by decide +kernel)) (hts (.initialized RX6) (by decide +kernel)) (by decide +kernel) ⟨Nat.le_of_ble_eq_true rfl, Nat.le_of_ble_eq_true rfl⟩, hts (.static yX6_holds) (by decide +kernel), trivial⟩ (preS_at C S [] rfl (by decide)) rfl rfl hl.1 rfl (lv_room (Nat.le_of_ble_eq_true rfl)) dX1_getInto_5 ⟨Nat.le_of_ble_eq_true rfl, Nat.le_of_ble_eq_true rfl⟩) [] [0, 1, 2, 3, 4, 5, 6, 7] rfl (wr := [(IM, ob 1 [.ref ig, .int (nI kb)]), (ig, aO g 2 io), (c0, ob 2 [.ref d0, .int (nI (ms 0)), .int (nI (vbs 0))]), (d0, aI g 32 (gs 0)), (c1, ob 2 [.ref d1, .int (nI (ms 1)), .int (nI (vbs 1))]), (d1, aI g 32 (gs 1)), (h, ob 2 [.ref q, .int (nI n), .int (nI ww)]), (q, aI g 32 f)]) rfl (by decide) (by decide) (fun r0 w0 H locs hq S => ?_)
  obtain ⟨rfl, rfl⟩ := hq
  have S : ST g A ss H locs [(IM, ob 1 [.ref ig, .int (nI kb)]), (ig, aO g 2 io), (c0, ob 2 [.ref d0, .int (nI (ms 0)), .int (nI (vbs 0))]), (d0, aI g 32 (gs 0)), (c1, ob 2 [.ref d1, .int (nI (ms 1)), .int (nI (vbs 1))]), (d1, aI g 32 (gs 1)), (h, ob 2 [.ref q, .int (nI n), .int (nI ww)]), (q, aI g 32 f)] := S
  refine br_neB (tgt := 13) hx hb dX1_getInto_8 (by decide) (fun c_1 => ?_) (fun c_1 => ?_)
  · -- 8 T
    rw [hno] at c_1; cases c_1
  · -- 8 F
    refine lv_iconst (v := 0) hx hb dX1_getInto_11 (by decide) ?_
    exact ret_Z (false) C S hr dX1_getInto_12 (rfl) ⟨(rfl), (rfl)⟩

theorem inX1_getIntoy_X1 : ∀ w ∈ wsX10, w ∈ wsX1_getInto := by decide +kernel
set_option maxRecDepth 100000 in
set_option maxHeartbeats 4000000 in
theorem kX1_getIntoy (l : Launch) (g : GG) (IM : Nat) (ig : Nat) (io : Nat → Option Nat) (c0 : Nat) (d0 : Nat) (c1 : Nat) (d1 : Nat) (gs : Nat → Nat → Int32) (ms : Nat → Nat) (vbs : Nat → Nat) (kb : Nat) (h : Nat) (q : Nat) (f : Nat → Int32) (n : Nat) (ww : Nat) (j : Nat) (hio : io 0 = some c0 ∧ io 1 = some c1) (hj : j < 2) (hkb : kb < 4) (hyes : kb.testBit j = true) : KI l g yX1_getInto wsX1_getInto 2 85 [.ref IM, .int (nI j), .ref h] [(IM, ob 1 [.ref ig, .int (nI kb)]), (ig, aO g 2 io), (c0, ob 2 [.ref d0, .int (nI (ms 0)), .int (nI (vbs 0))]), (d0, aI g 32 (gs 0)), (c1, ob 2 [.ref d1, .int (nI (ms 1)), .int (nI (vbs 1))]), (d1, aI g 32 (gs 1)), (h, ob 2 [.ref q, .int (nI n), .int (nI ww)]), (q, aI g 32 f)] (fun (r : Int32) (w' : va_W) => r = (bI true) ∧ ∃ (f' : Nat → Int32), (∀ j9, j9 < 32 → f' j9 = gs j j9) ∧ w' = [(IM, ob 1 [.ref ig, .int (nI kb)]), (ig, aO g 2 io), (c0, ob 2 [.ref d0, .int (nI (ms 0)), .int (nI (vbs 0))]), (d0, aI g 32 (gs 0)), (c1, ob 2 [.ref d1, .int (nI (ms 1)), .int (nI (vbs 1))]), (d1, aI g 32 (gs 1)), (h, ob 2 [.ref q, .int (nI (ms j)), .int (nI (vbs j))]), (q, aI g 32 f')]) := by
  refine kI_of (cc := cX1_getInto) (maxL := 3) (by decide) rfl (Nat.le_of_ble_eq_true rfl) ?_
  intro pp ee ss mm bel mth cd A ls C S hr hl
  obtain ⟨hx, hb, hml, hown, hts⟩ := id C.1
  have hl : lv_has ls 3 [(0, .ref IM), (1, .int (nI j)), (2, .ref h)] := hl
  obtain ⟨H, hH⟩ : ∃ H, H = ss.heap := ⟨_, rfl⟩
  obtain ⟨locs, hL0⟩ : ∃ L : List Loc, L = [] := ⟨_, rfl⟩
  rw [← hH, ← hL0] at S ⊢
  refine lv_aload_n hx hb dX1_getInto_0 rfl (lv_at hl 0 rfl) ?_
  refine top_get C S inX1_getIntoy_X1 rfl 0 rfl 1 (by decide) (by decide +kernel) rfl rfl dX1_getInto_1 ?_
  refine lv_iload_n hx hb dX1_getInto_4 rfl (lv_at hl 1 rfl) ?_
  refine after_I (wc := []) (y := yX6_holds) C S (va_runSN (As := [.int (nI kb), .int (nI j)]) (rest := []) C.1 (kX6_holds l g kb j (by first | assumption | omega) (by first | assumption | omega) H.size) ⟨va_cnB 2 hts gX1_getInto_X6_holds_n26 rfl rfl rfl (C.2.2.1.1.2 ("StackedLeaves$Images", 26, yX6_holds) (by decide +kernel)) (hts (.initialized RX6) (by decide +kernel)) (by decide +kernel) ⟨Nat.le_of_ble_eq_true rfl, Nat.le_of_ble_eq_true rfl⟩, hts (.static yX6_holds) (by decide +kernel), trivial⟩ (preS_at C S [] rfl (by decide)) rfl rfl hl.1 rfl (lv_room (Nat.le_of_ble_eq_true rfl)) dX1_getInto_5 ⟨Nat.le_of_ble_eq_true rfl, Nat.le_of_ble_eq_true rfl⟩) [] [0, 1, 2, 3, 4, 5, 6, 7] rfl (wr := [(IM, ob 1 [.ref ig, .int (nI kb)]), (ig, aO g 2 io), (c0, ob 2 [.ref d0, .int (nI (ms 0)), .int (nI (vbs 0))]), (d0, aI g 32 (gs 0)), (c1, ob 2 [.ref d1, .int (nI (ms 1)), .int (nI (vbs 1))]), (d1, aI g 32 (gs 1)), (h, ob 2 [.ref q, .int (nI n), .int (nI ww)]), (q, aI g 32 f)]) rfl (by decide) (by decide) (fun r0 w0 H locs hq S => ?_)
  obtain ⟨rfl, rfl⟩ := hq
  have S : ST g A ss H locs [(IM, ob 1 [.ref ig, .int (nI kb)]), (ig, aO g 2 io), (c0, ob 2 [.ref d0, .int (nI (ms 0)), .int (nI (vbs 0))]), (d0, aI g 32 (gs 0)), (c1, ob 2 [.ref d1, .int (nI (ms 1)), .int (nI (vbs 1))]), (d1, aI g 32 (gs 1)), (h, ob 2 [.ref q, .int (nI n), .int (nI ww)]), (q, aI g 32 f)] := S
  refine br_neB (tgt := 13) hx hb dX1_getInto_8 (by decide) (fun c_1 => ?_) (fun c_1 => ?_)
  · -- 8 T
    rcases (show j = 0 ∨ j = 1 by omega) with rfl | rfl
    · -- j = 0
      refine lv_aload_n hx hb dX1_getInto_13 rfl (lv_at hl 2 rfl) ?_
      refine lv_aload_n hx hb dX1_getInto_14 rfl (lv_at hl 0 rfl) ?_
      refine top_get C S inX1_getIntoy_X1 rfl 0 rfl 0 (by decide) (by decide +kernel) rfl rfl dX1_getInto_15 ?_
      refine lv_iload_n hx hb dX1_getInto_18 rfl (lv_at hl 1 rfl) ?_
      refine top_old C S 1 rfl (j := 0) rfl (by omega) (by decide) (by exact hio.1) dX1_getInto_19 ?_
      refine after_V (wc := [(h, ob 2 [.ref q, .int (nI n), .int (nI ww)]), (q, aI g 32 f), (c0, ob 2 [.ref d0, .int (nI (ms 0)), .int (nI (vbs 0))]), (d0, aI g 32 (gs 0))]) (y := yX2_become) C S (va_runV (As := [.ref c0]) (rest := []) C.1 (kX2_become l g h q f n ww c0 d0 (gs 0) (ms 0) (vbs 0) H.size) (cwV 1 hts gX1_getInto_X2_become rfl rfl rfl (by decide +kernel) ⟨Nat.le_of_ble_eq_true rfl, Nat.le_of_ble_eq_true rfl⟩) (preV_at C S 6 rfl rfl [6, 7, 2, 3] rfl (by decide)) rfl rfl hl.1 rfl (lv_room (Nat.le_of_ble_eq_true rfl)) dX1_getInto_20 ⟨Nat.le_of_ble_eq_true rfl, Nat.le_of_ble_eq_true rfl⟩) [6, 7, 2, 3] [0, 1, 4, 5] rfl (wr := [(IM, ob 1 [.ref ig, .int (nI kb)]), (ig, aO g 2 io), (c1, ob 2 [.ref d1, .int (nI (ms 1)), .int (nI (vbs 1))]), (d1, aI g 32 (gs 1))]) rfl (by decide) (by decide) (fun w0 H locs hq S => ?_)
      obtain ⟨f9, hf9, rfl⟩ := hq
      have S : ST g A ss H locs [(IM, ob 1 [.ref ig, .int (nI kb)]), (ig, aO g 2 io), (c0, ob 2 [.ref d0, .int (nI (ms 0)), .int (nI (vbs 0))]), (d0, aI g 32 (gs 0)), (c1, ob 2 [.ref d1, .int (nI (ms 1)), .int (nI (vbs 1))]), (d1, aI g 32 (gs 1)), (h, ob 2 [.ref q, .int (nI (ms 0)), .int (nI (vbs 0))]), (q, aI g 32 f9)] := ST.sub S [0, 1, 6, 7, 2, 3, 4, 5] (by decide) rfl
      refine lv_iconst (v := 1) hx hb dX1_getInto_23 (by decide) ?_
      exact ret_Z (true) C S hr dX1_getInto_24 (rfl) ⟨(rfl), f9, (hf9), (rfl)⟩
    · -- j = 1
      refine lv_aload_n hx hb dX1_getInto_13 rfl (lv_at hl 2 rfl) ?_
      refine lv_aload_n hx hb dX1_getInto_14 rfl (lv_at hl 0 rfl) ?_
      refine top_get C S inX1_getIntoy_X1 rfl 0 rfl 0 (by decide) (by decide +kernel) rfl rfl dX1_getInto_15 ?_
      refine lv_iload_n hx hb dX1_getInto_18 rfl (lv_at hl 1 rfl) ?_
      refine top_old C S 1 rfl (j := 1) rfl (by omega) (by decide) (by exact hio.2) dX1_getInto_19 ?_
      refine after_V (wc := [(h, ob 2 [.ref q, .int (nI n), .int (nI ww)]), (q, aI g 32 f), (c1, ob 2 [.ref d1, .int (nI (ms 1)), .int (nI (vbs 1))]), (d1, aI g 32 (gs 1))]) (y := yX2_become) C S (va_runV (As := [.ref c1]) (rest := []) C.1 (kX2_become l g h q f n ww c1 d1 (gs 1) (ms 1) (vbs 1) H.size) (cwV 1 hts gX1_getInto_X2_become rfl rfl rfl (by decide +kernel) ⟨Nat.le_of_ble_eq_true rfl, Nat.le_of_ble_eq_true rfl⟩) (preV_at C S 6 rfl rfl [6, 7, 4, 5] rfl (by decide)) rfl rfl hl.1 rfl (lv_room (Nat.le_of_ble_eq_true rfl)) dX1_getInto_20 ⟨Nat.le_of_ble_eq_true rfl, Nat.le_of_ble_eq_true rfl⟩) [6, 7, 4, 5] [0, 1, 2, 3] rfl (wr := [(IM, ob 1 [.ref ig, .int (nI kb)]), (ig, aO g 2 io), (c0, ob 2 [.ref d0, .int (nI (ms 0)), .int (nI (vbs 0))]), (d0, aI g 32 (gs 0))]) rfl (by decide) (by decide) (fun w0 H locs hq S => ?_)
      obtain ⟨f9, hf9, rfl⟩ := hq
      have S : ST g A ss H locs [(IM, ob 1 [.ref ig, .int (nI kb)]), (ig, aO g 2 io), (c0, ob 2 [.ref d0, .int (nI (ms 0)), .int (nI (vbs 0))]), (d0, aI g 32 (gs 0)), (c1, ob 2 [.ref d1, .int (nI (ms 1)), .int (nI (vbs 1))]), (d1, aI g 32 (gs 1)), (h, ob 2 [.ref q, .int (nI (ms 1)), .int (nI (vbs 1))]), (q, aI g 32 f9)] := ST.sub S [0, 1, 2, 3, 6, 7, 4, 5] (by decide) rfl
      refine lv_iconst (v := 1) hx hb dX1_getInto_23 (by decide) ?_
      exact ret_Z (true) C S hr dX1_getInto_24 (rfl) ⟨(rfl), f9, (hf9), (rfl)⟩
  · -- 8 F
    rw [hyes] at c_1; cases c_1

theorem inX1_empty_X1 : ∀ w ∈ wsX10, w ∈ wsX1_empty := by decide +kernel
set_option maxRecDepth 100000 in
set_option maxHeartbeats 4000000 in
theorem kX1_empty (l : Launch) (g : GG) (IM : Nat) (ig : Nat) (io : Nat → Option Nat) (kb : Nat)  : KV l g yX1_empty wsX1_empty 0 0 [.ref IM] [(IM, ob 1 [.ref ig, .int (nI kb)]), (ig, aO g 2 io)] (fun (w' : va_W) => w' = [(IM, ob 1 [.ref ig, .int (nI 0)]), (ig, aO g 2 io)]) := by
  refine kV_of (cc := cX1_empty) (maxL := 1) (by decide) rfl (Nat.le_of_ble_eq_true rfl) ?_
  intro pp ee ss mm bel mth cd A ls C S hr hl
  obtain ⟨hx, hb, hml, hown, hts⟩ := id C.1
  have hl : lv_has ls 1 [(0, .ref IM)] := hl
  obtain ⟨H, hH⟩ : ∃ H, H = ss.heap := ⟨_, rfl⟩
  obtain ⟨locs, hL0⟩ : ∃ L : List Loc, L = [] := ⟨_, rfl⟩
  rw [← hH, ← hL0] at S ⊢
  refine lv_aload_n hx hb dX1_empty_0 rfl (lv_at hl 0 rfl) ?_
  refine lv_iconst (v := 0) hx hb dX1_empty_1 (by decide) ?_
  refine top_put (ty := .int) C S inX1_empty_X1 tyX1 tyX1_ok nmX1 rfl 0 rfl 1 (by decide) (by decide +kernel) rfl rfl (tyX1_ok 1 (by decide)) rfl rfl (Nat.le_of_ble_eq_true rfl) dX1_empty_2 (fun H locs S => ?_)
  have S : ST g A ss H locs [(IM, ob 1 [.ref ig, .int 0]), (ig, aO g 2 io)] := S
  exact ret_V C S hr dX1_empty_5 (by first | rfl | simp only [])

theorem inX4_appendn_X4 : ∀ w ∈ wsX40, w ∈ wsX4_append := by decide +kernel
set_option maxRecDepth 100000 in
set_option maxHeartbeats 4000000 in
theorem kX4_appendn (l : Launch) (g : GG) (SG : Nat) (la : Nat) (ba : Nat) (lf : Nat → Int32) (bf : Nat → Int32) (sz : Nat) (x : Int32) (y : Int32) (hsz : 6 ≤ sz) (hs6 : sz ≤ 6) : KI l g yX4_append wsX4_append 0 0 [.ref SG, .int x, .int y] [(SG, ob 4 [.ref la, .ref ba, .int (nI sz)]), (la, aI g 6 lf), (ba, aI g 6 bf)] (fun (r : Int32) (w' : va_W) => r = (bI false) ∧ w' = [(SG, ob 4 [.ref la, .ref ba, .int (nI sz)]), (la, aI g 6 lf), (ba, aI g 6 bf)]) := by
  refine kI_of (cc := cX4_append) (maxL := 3) (by decide) rfl (Nat.le_of_ble_eq_true rfl) ?_
  intro pp ee ss mm bel mth cd A ls C S hr hl
  obtain ⟨hx, hb, hml, hown, hts⟩ := id C.1
  have hl : lv_has ls 3 [(0, .ref SG), (1, .int x), (2, .int y)] := hl
  obtain ⟨H, hH⟩ : ∃ H, H = ss.heap := ⟨_, rfl⟩
  obtain ⟨locs, hL0⟩ : ∃ L : List Loc, L = [] := ⟨_, rfl⟩
  rw [← hH, ← hL0] at S ⊢
  refine lv_aload_n hx hb dX4_append_0 rfl (lv_at hl 0 rfl) ?_
  refine top_get C S inX4_appendn_X4 rfl 0 rfl 2 (by decide) (by decide +kernel) rfl rfl dX4_append_1 ?_
  refine lv_bipush (v := 6) hx hb dX4_append_4 (by decide) ?_
  refine bn_ilt (tgt := 11) (a := sz) (b := 6) hx hb rfl rfl (by omega) (by omega) dX4_append_6 (by decide) (fun c_1 => ?_) (fun c_1 => ?_)
  · -- 6 T
    exact absurd c_1 (by omega)
  · -- 6 F
    refine lv_iconst (v := 0) hx hb dX4_append_9 (by decide) ?_
    exact ret_Z (false) C S hr dX4_append_10 (rfl) ⟨(rfl), (rfl)⟩

theorem inX4_appendy_X4 : ∀ w ∈ wsX40, w ∈ wsX4_append := by decide +kernel
set_option maxRecDepth 100000 in
set_option maxHeartbeats 4000000 in
theorem kX4_appendy (l : Launch) (g : GG) (SG : Nat) (la : Nat) (ba : Nat) (lf : Nat → Int32) (bf : Nat → Int32) (sz : Nat) (x : Int32) (y : Int32) (hsz : sz < 6) : KI l g yX4_append wsX4_append 0 0 [.ref SG, .int x, .int y] [(SG, ob 4 [.ref la, .ref ba, .int (nI sz)]), (la, aI g 6 lf), (ba, aI g 6 bf)] (fun (r : Int32) (w' : va_W) => r = (bI true) ∧ w' = [(SG, ob 4 [.ref la, .ref ba, .int (nI (sz + 1))]), (la, aI g 6 (upd lf sz x)), (ba, aI g 6 (upd bf sz y))]) := by
  refine kI_of (cc := cX4_append) (maxL := 3) (by decide) rfl (Nat.le_of_ble_eq_true rfl) ?_
  intro pp ee ss mm bel mth cd A ls C S hr hl
  obtain ⟨hx, hb, hml, hown, hts⟩ := id C.1
  have hl : lv_has ls 3 [(0, .ref SG), (1, .int x), (2, .int y)] := hl
  obtain ⟨H, hH⟩ : ∃ H, H = ss.heap := ⟨_, rfl⟩
  obtain ⟨locs, hL0⟩ : ∃ L : List Loc, L = [] := ⟨_, rfl⟩
  rw [← hH, ← hL0] at S ⊢
  refine lv_aload_n hx hb dX4_append_0 rfl (lv_at hl 0 rfl) ?_
  refine top_get C S inX4_appendy_X4 rfl 0 rfl 2 (by decide) (by decide +kernel) rfl rfl dX4_append_1 ?_
  refine lv_bipush (v := 6) hx hb dX4_append_4 (by decide) ?_
  refine bn_ilt (tgt := 11) (a := sz) (b := 6) hx hb rfl rfl (by omega) (by omega) dX4_append_6 (by decide) (fun c_1 => ?_) (fun c_1 => ?_)
  · -- 6 T
    refine lv_aload_n hx hb dX4_append_11 rfl (lv_at hl 0 rfl) ?_
    refine top_get C S inX4_appendy_X4 rfl 0 rfl 0 (by decide) (by decide +kernel) rfl rfl dX4_append_12 ?_
    refine lv_aload_n hx hb dX4_append_15 rfl (lv_at hl 0 rfl) ?_
    refine top_get C S inX4_appendy_X4 rfl 0 rfl 2 (by decide) (by decide +kernel) rfl rfl dX4_append_16 ?_
    refine lv_iload_n hx hb dX4_append_19 rfl (lv_at hl 1 rfl) ?_
    refine top_ist C S 1 rfl (j := sz) rfl (by omega) (by decide) dX4_append_20 (fun H locs S => ?_)
    have S : ST g A ss H locs [(SG, ob 4 [.ref la, .ref ba, .int (nI sz)]), (la, aI g 6 (upd lf sz x)), (ba, aI g 6 bf)] := S
    refine lv_aload_n hx hb dX4_append_21 rfl (lv_at hl 0 rfl) ?_
    refine top_get C S inX4_appendy_X4 rfl 0 rfl 1 (by decide) (by decide +kernel) rfl rfl dX4_append_22 ?_
    refine lv_aload_n hx hb dX4_append_25 rfl (lv_at hl 0 rfl) ?_
    refine top_get C S inX4_appendy_X4 rfl 0 rfl 2 (by decide) (by decide +kernel) rfl rfl dX4_append_26 ?_
    refine lv_iload_n hx hb dX4_append_29 rfl (lv_at hl 2 rfl) ?_
    refine top_ist C S 2 rfl (j := sz) rfl (by omega) (by decide) dX4_append_30 (fun H locs S => ?_)
    have S : ST g A ss H locs [(SG, ob 4 [.ref la, .ref ba, .int (nI sz)]), (la, aI g 6 (upd lf sz x)), (ba, aI g 6 (upd bf sz y))] := S
    refine lv_aload_n hx hb dX4_append_31 rfl (lv_at hl 0 rfl) ?_
    refine lv_dup hx hb dX4_append_32 rfl ?_
    refine top_get C S inX4_appendy_X4 rfl 0 rfl 2 (by decide) (by decide +kernel) rfl rfl dX4_append_33 ?_
    refine lv_iconst (v := 1) hx hb dX4_append_36 (by decide) ?_
    refine lv_iadd hx hb dX4_append_37 ?_
    refine top_eq (y := nI (sz + 1)) (nI_add _ _) ?_
    refine top_put (ty := .int) C S inX4_appendy_X4 tyX4 tyX4_ok nmX4 rfl 0 rfl 2 (by decide) (by decide +kernel) rfl rfl (tyX4_ok 2 (by decide)) rfl rfl (Nat.le_of_ble_eq_true rfl) dX4_append_38 (fun H locs S => ?_)
    have S : ST g A ss H locs [(SG, ob 4 [.ref la, .ref ba, .int (nI (sz + 1))]), (la, aI g 6 (upd lf sz x)), (ba, aI g 6 (upd bf sz y))] := S
    refine lv_iconst (v := 1) hx hb dX4_append_41 (by decide) ?_
    exact ret_Z (true) C S hr dX4_append_42 (rfl) ⟨(rfl), (rfl)⟩
  · -- 6 F
    exact absurd hsz c_1

theorem inX4_empty_X4 : ∀ w ∈ wsX40, w ∈ wsX4_empty := by decide +kernel
set_option maxRecDepth 100000 in
set_option maxHeartbeats 4000000 in
theorem kX4_empty (l : Launch) (g : GG) (SG : Nat) (la : Nat) (ba : Nat) (lf : Nat → Int32) (bf : Nat → Int32) (sz : Nat)  : KI l g yX4_empty wsX4_empty 0 0 [.ref SG] [(SG, ob 4 [.ref la, .ref ba, .int (nI sz)]), (la, aI g 6 lf), (ba, aI g 6 bf)] (fun (r : Int32) (w' : va_W) => r = (nI sz) ∧ w' = [(SG, ob 4 [.ref la, .ref ba, .int (nI 0)]), (la, aI g 6 lf), (ba, aI g 6 bf)]) := by
  refine kI_of (cc := cX4_empty) (maxL := 2) (by decide) rfl (Nat.le_of_ble_eq_true rfl) ?_
  intro pp ee ss mm bel mth cd A ls C S hr hl
  obtain ⟨hx, hb, hml, hown, hts⟩ := id C.1
  have hl : lv_has ls 2 [(0, .ref SG)] := hl
  obtain ⟨H, hH⟩ : ∃ H, H = ss.heap := ⟨_, rfl⟩
  obtain ⟨locs, hL0⟩ : ∃ L : List Loc, L = [] := ⟨_, rfl⟩
  rw [← hH, ← hL0] at S ⊢
  refine lv_aload_n hx hb dX4_empty_0 rfl (lv_at hl 0 rfl) ?_
  refine top_get C S inX4_empty_X4 rfl 0 rfl 2 (by decide) (by decide +kernel) rfl rfl dX4_empty_1 ?_
  refine lv_istore_n (lv' := [(1, .int (nI sz)), (0, .ref SG)]) hx hb dX4_empty_4 rfl hl (by decide) rfl (fun ls hl => ?_)
  refine lv_aload_n hx hb dX4_empty_5 rfl (lv_at hl 1 rfl) ?_
  refine lv_iconst (v := 0) hx hb dX4_empty_6 (by decide) ?_
  refine top_put (ty := .int) C S inX4_empty_X4 tyX4 tyX4_ok nmX4 rfl 0 rfl 2 (by decide) (by decide +kernel) rfl rfl (tyX4_ok 2 (by decide)) rfl rfl (Nat.le_of_ble_eq_true rfl) dX4_empty_7 (fun H locs S => ?_)
  have S : ST g A ss H locs [(SG, ob 4 [.ref la, .ref ba, .int 0]), (la, aI g 6 lf), (ba, aI g 6 bf)] := S
  refine lv_iload_n hx hb dX4_empty_10 rfl (lv_at hl 0 rfl) ?_
  exact ret_I C S hr dX4_empty_11 ⟨(by first | rfl | simp only []), (by first | rfl | simp only [])⟩

theorem inX4_agreeWith_X4 : ∀ w ∈ wsX40, w ∈ wsX4_agreeWith := by decide +kernel
set_option maxRecDepth 100000 in
set_option maxHeartbeats 4000000 in
theorem kX4_agreeWith (l : Launch) (g : GG) (SG : Nat) (la : Nat) (ba : Nat) (lf : Nat → Int32) (bf : Nat → Int32) (sz : Nat) (P : Nat) (ra : Nat) (sa : Nat) (ta : Nat) (rf : Nat → Int32) (sf : Nat → Int32) (tf : Nat → Int32) (n : Nat) (b : Nat) (p3 : Int32) (p4 : Int32) (p5 : Int32) (Rr : Nat → Nat) (st : Nat → Nat) (sg : Nat → Nat) (lo : Nat → Nat) (hn : n ≤ 8) (hbb : b < 512) (hR : ∀ j, j < n → rf j = nI (Rr j)) (hS : ∀ j, j < n → sf j = nI (st j)) (hT : ∀ j, j < n → tf j = nI (sg j)) (hRb : ∀ i, i < n → Rr i ≤ 240) (hSb : ∀ i, i < n → st i ≤ 9) (hTb : ∀ i, i < n → sg i ≤ 99) (hs6 : sz ≤ 6) (hlo : ∀ i, i < sz → lf i = nI (lo i)) (hlb : ∀ i, i < sz → lo i ≤ 999) : KI l g yX4_agreeWith wsX4_agreeWith 3 66 [.ref SG, .ref P] [(SG, ob 4 [.ref la, .ref ba, .int (nI sz)]), (la, aI g 6 lf), (ba, aI g 6 bf), (P, ob 3 [.ref ra, .ref sa, .ref ta, .int (nI n), .int (nI b), .int p3, .int p4, .int p5]), (ra, aI g 8 rf), (sa, aI g 8 sf), (ta, aI g 8 tf)] (fun (r : Int32) (w' : va_W) => r = (bI (decide (∀ i, i < sz → cutI (uppN st Rr b (lo i) n) (lowN st Rr b (lo i) n) = bf i))) ∧ ∃ (u' : Int32), ∃ (l' : Int32), ∃ (v' : Int32), w' = [(SG, ob 4 [.ref la, .ref ba, .int (nI sz)]), (la, aI g 6 lf), (ba, aI g 6 bf), (P, ob 3 [.ref ra, .ref sa, .ref ta, .int (nI n), .int (nI b), .int u', .int l', .int v']), (ra, aI g 8 rf), (sa, aI g 8 sf), (ta, aI g 8 tf)]) := by
  refine kI_of (cc := cX4_agreeWith) (maxL := 3) (by decide) rfl (Nat.le_of_ble_eq_true rfl) ?_
  intro pp ee ss mm bel mth cd A ls C S hr hl
  obtain ⟨hx, hb, hml, hown, hts⟩ := id C.1
  have hl : lv_has ls 3 [(0, .ref SG), (1, .ref P)] := hl
  obtain ⟨H, hH⟩ : ∃ H, H = ss.heap := ⟨_, rfl⟩
  obtain ⟨locs, hL0⟩ : ∃ L : List Loc, L = [] := ⟨_, rfl⟩
  rw [← hH, ← hL0] at S ⊢
  refine lv_iconst (v := 0) hx hb dX4_agreeWith_0 (by decide) ?_
  refine lv_istore_n (lv' := [(2, .int 0), (0, .ref SG), (1, .ref P)]) hx hb dX4_agreeWith_1 rfl hl (by decide) rfl (fun ls hl => ?_)
  have loop2 : ∀ (N0 : Nat) (i : Nat) (u1 : Int32) (l1 : Int32) (v1 : Int32), sz - i < N0 → (i ≤ sz) → (∀ j, j < i → cutI (uppN st Rr b (lo j) n) (lowN st Rr b (lo j) n) = bf j) → ∀ (H : Heap) (locs : List Loc) (ls : Array Slot), ST g A ss H locs [(SG, ob 4 [.ref la, .ref ba, .int (nI sz)]), (la, aI g 6 lf), (ba, aI g 6 bf), (P, ob 3 [.ref ra, .ref sa, .ref ta, .int (nI n), .int (nI b), .int u1, .int l1, .int v1]), (ra, aI g 8 rf), (sa, aI g 8 sf), (ta, aI g 8 tf)] → lv_has ls 3 [(2, .int (nI i)), (0, .ref SG), (1, .ref P)] → W pp l ee { frames := 3, cells := 0, slots := 0, locals := 66 } ss mm ([.ref SG, .ref P] : List Value).toArray bel mth cd H locs 0 0 (QI bel ([.ref SG, .ref P] : List Value).toArray ss g A (fun (r : Int32) (w' : va_W) => r = (bI (decide (∀ i, i < sz → cutI (uppN st Rr b (lo i) n) (lowN st Rr b (lo i) n) = bf i))) ∧ ∃ (u' : Int32), ∃ (l' : Int32), ∃ (v' : Int32), w' = [(SG, ob 4 [.ref la, .ref ba, .int (nI sz)]), (la, aI g 6 lf), (ba, aI g 6 bf), (P, ob 3 [.ref ra, .ref sa, .ref ta, .int (nI n), .int (nI b), .int u', .int l', .int v']), (ra, aI g 8 rf), (sa, aI g 8 sf), (ta, aI g 8 tf)])) (F0 mm 2 ls []) := by
    intro N0
    induction N0 with
    | zero => intro i u1 l1 v1 hN; exact absurd hN (Nat.not_lt_zero _)
    | succ N0 ih2 =>
      intro i u1 l1 v1 hN hi hall H locs ls S hl
      refine lv_iload_n hx hb dX4_agreeWith_2 rfl (lv_at hl 0 rfl) ?_
      refine lv_aload_n hx hb dX4_agreeWith_3 rfl (lv_at hl 1 rfl) ?_
      refine top_get C S inX4_agreeWith_X4 rfl 0 rfl 2 (by decide) (by decide +kernel) rfl rfl dX4_agreeWith_4 ?_
      refine bn_ige (tgt := 37) (a := i) (b := sz) hx hb rfl rfl (by omega) (by omega) dX4_agreeWith_7 (by decide) (fun c_1 => ?_) (fun c_1 => ?_)
      · -- 7 T
        refine lv_iconst (v := 1) hx hb dX4_agreeWith_37 (by decide) ?_
        exact ret_Z (decide (∀ i, i < sz → cutI (uppN st Rr b (lo i) n) (lowN st Rr b (lo i) n) = bf i)) C S hr dX4_agreeWith_38 (by rw [decide_eq_true (fun j hj => hall j (by omega))]; rfl) ⟨(by rw [decide_eq_true (fun j hj => hall j (by omega))]; rfl), u1, l1, v1, (rfl)⟩
      · -- 7 F
        refine lv_aload_n hx hb dX4_agreeWith_10 rfl (lv_at hl 2 rfl) ?_
        refine lv_aload_n hx hb dX4_agreeWith_11 rfl (lv_at hl 1 rfl) ?_
        refine top_get C S inX4_agreeWith_X4 rfl 0 rfl 0 (by decide) (by decide +kernel) rfl rfl dX4_agreeWith_12 ?_
        refine lv_iload_n hx hb dX4_agreeWith_15 rfl (lv_at hl 0 rfl) ?_
        refine top_ild C S 1 rfl (j := i) rfl (by omega) (by decide) dX4_agreeWith_16 ?_
        refine top_eq (y := nI (lo i)) (hlo _ (by omega)) ?_
        refine after_I (wc := [(P, ob 3 [.ref ra, .ref sa, .ref ta, .int (nI n), .int (nI b), .int u1, .int l1, .int v1]), (ra, aI g 8 rf), (sa, aI g 8 sf), (ta, aI g 8 tf)]) (y := yX3_cutBy) C S (va_runV (As := [.int (nI (lo i))]) (rest := []) C.1 (kX3_cutBy l g P ra sa ta rf sf tf n b u1 l1 v1 Rr st sg (lo i) (by first | assumption | omega) (by first | assumption | omega) (by first | assumption | omega) (by first | assumption | omega) (by first | assumption | omega) (by first | assumption | omega) (by first | assumption | omega) (by first | assumption | omega) (hlb _ (by omega)) H.size) (cwV 1 hts gX4_agreeWith_X3_cutBy rfl rfl rfl (by decide +kernel) ⟨Nat.le_of_ble_eq_true rfl, Nat.le_of_ble_eq_true rfl⟩) (preV_at C S 3 rfl rfl [3, 4, 5, 6] rfl (by decide)) rfl rfl hl.1 rfl (lv_room (Nat.le_of_ble_eq_true rfl)) dX4_agreeWith_17 ⟨Nat.le_of_ble_eq_true rfl, Nat.le_of_ble_eq_true rfl⟩) [3, 4, 5, 6] [0, 1, 2] rfl (wr := [(SG, ob 4 [.ref la, .ref ba, .int (nI sz)]), (la, aI g 6 lf), (ba, aI g 6 bf)]) rfl (by decide) (by decide) (fun r0 w0 H locs hq S => ?_)
        obtain ⟨rfl, rfl⟩ := hq
        have S : ST g A ss H locs [(SG, ob 4 [.ref la, .ref ba, .int (nI sz)]), (la, aI g 6 lf), (ba, aI g 6 bf), (P, ob 3 [.ref ra, .ref sa, .ref ta, .int (nI n), .int (nI b), .int (nI (uppN st Rr b (lo i) n)), .int (nI (lowN st Rr b (lo i) n)), .int (nI ((pr st Rr b (lo i) n).1))]), (ra, aI g 8 rf), (sa, aI g 8 sf), (ta, aI g 8 tf)] := S
        refine lv_aload_n hx hb dX4_agreeWith_20 rfl (lv_at hl 1 rfl) ?_
        refine top_get C S inX4_agreeWith_X4 rfl 0 rfl 1 (by decide) (by decide +kernel) rfl rfl dX4_agreeWith_21 ?_
        refine lv_iload_n hx hb dX4_agreeWith_24 rfl (lv_at hl 0 rfl) ?_
        refine top_ild C S 2 rfl (j := i) rfl (by omega) (by decide) dX4_agreeWith_25 ?_
        refine lv_icmp_eq (tgt := 31) hx hb dX4_agreeWith_26 (by decide) (fun c_2 => ?_) (fun c_2 => ?_)
        · -- 26 T
          refine lv_iinc (v := nI (i + 1)) (lv' := [(2, .int (nI (i + 1))), (0, .ref SG), (1, .ref P)]) hx hb dX4_agreeWith_31 hl (k := 0) rfl (nI_add _ _) (by decide) rfl (fun ls hl => ?_)
          refine lv_goto (tgt := 2) hx hb dX4_agreeWith_34 (by decide) ?_
          exact ih2 (i + 1) (nI (uppN st Rr b (lo i) n)) (nI (lowN st Rr b (lo i) n)) (nI ((pr st Rr b (lo i) n).1)) (by omega) (by first | assumption | omega) (fun j hj => by rcases (show j < i ∨ j = i by omega) with z9 | rfl; exact hall j z9; exact c_2) H locs ls (ST.eq S (rfl)) (lv_sub hl [0, 1, 2] (rfl))
        · -- 26 F
          refine lv_iconst (v := 0) hx hb dX4_agreeWith_29 (by decide) ?_
          exact ret_Z (decide (∀ i, i < sz → cutI (uppN st Rr b (lo i) n) (lowN st Rr b (lo i) n) = bf i)) C S hr dX4_agreeWith_30 (by rw [decide_eq_false (fun h9 => c_2 (h9 i (by omega)))]; rfl) ⟨(by rw [decide_eq_false (fun h9 => c_2 (h9 i (by omega)))]; rfl), (nI (uppN st Rr b (lo i) n)), (nI (lowN st Rr b (lo i) n)), (nI ((pr st Rr b (lo i) n).1)), (rfl)⟩
  exact loop2 _ 0 p3 p4 p5 (Nat.lt_succ_self _) (by first | assumption | omega) (fun j hj => absurd hj (Nat.not_lt_zero _)) H locs ls (ST.eq S (rfl)) (lv_sub hl [0, 1, 2] (rfl))
