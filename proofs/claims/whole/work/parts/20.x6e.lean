set_option maxRecDepth 100000 in
set_option maxHeartbeats 4000000 in
theorem kX6_loadsb (l : Launch) (g : GG) (O : Nat) (dh : Nat) (th : Nat) (HH : Nat) (IM : Nat) (SG : Nat) (ca : Nat) (h : Nat) (P : Nat) (x : Int32) (hbad : okB x 1000 = false) : KI l g yX6_loads wsX6_loads 1 20 [.ref O, .int x] [(O, ob 6 [.ref h, .ref dh, .ref th, .ref HH, .ref IM, .ref SG, .ref P, .ref ca])] (fun (r : Int32) (w' : va_W) => r = (-1) ∧ w' = [(O, ob 6 [.ref h, .ref dh, .ref th, .ref HH, .ref IM, .ref SG, .ref P, .ref ca])]) := by
  refine kI_of (cc := cX6_loads) (maxL := 4) (by decide) rfl (Nat.le_of_ble_eq_true rfl) ?_
  intro pp ee ss mm bel mth cd A ls C S hr hl
  obtain ⟨hx, hb, hml, hown, hts⟩ := id C.1
  have hl : lv_has ls 4 [(0, .ref O), (1, .int x)] := hl
  obtain ⟨H, hH⟩ : ∃ H, H = ss.heap := ⟨_, rfl⟩
  obtain ⟨locs, hL0⟩ : ∃ L : List Loc, L = [] := ⟨_, rfl⟩
  rw [← hH, ← hL0] at S ⊢
  refine lv_iload_n hx hb dX6_loads_0 rfl (lv_at hl 1 rfl) ?_
  refine after_I (wc := []) (y := yX6_isLoad) C S (va_runS (As := [.int x]) (rest := []) C.1 (kX6_isLoad l g x H.size) (va_cwS 1 hts gX6_loads_X6_isLoad rfl rfl rfl (by decide +kernel) ⟨Nat.le_of_ble_eq_true rfl, Nat.le_of_ble_eq_true rfl⟩) (preS_at C S [] rfl (by decide)) rfl rfl hl.1 rfl (lv_room (Nat.le_of_ble_eq_true rfl)) dX6_loads_1 ⟨Nat.le_of_ble_eq_true rfl, Nat.le_of_ble_eq_true rfl⟩) [] [0] rfl (wr := [(O, ob 6 [.ref h, .ref dh, .ref th, .ref HH, .ref IM, .ref SG, .ref P, .ref ca])]) rfl (by decide) (by decide) (fun r0 w0 H locs hq S => ?_)
  obtain ⟨rfl, rfl⟩ := hq
  have S : ST g A ss H locs [(O, ob 6 [.ref h, .ref dh, .ref th, .ref HH, .ref IM, .ref SG, .ref P, .ref ca])] := S
  refine br_neB (tgt := 9) hx hb dX6_loads_4 (by decide) (fun c_1 => ?_) (fun c_1 => ?_)
  · -- 4 T
    rw [isLoad_eq, hbad] at c_1; cases c_1
  · -- 4 F
    refine lv_iconst (v := (-1)) hx hb dX6_loads_7 (by decide) ?_
    exact ret_I C S hr dX6_loads_8 ⟨(by first | rfl | simp only [if_neg (Bool.eq_false_iff.mp c_1)]), (by first | rfl | simp only [if_neg (Bool.eq_false_iff.mp c_1)])⟩

theorem inX6_loadsg_X2 : ∀ w ∈ wsX20, w ∈ wsX6_loads := by decide +kernel
theorem inX6_loadsg_X6 : ∀ w ∈ wsX60, w ∈ wsX6_loads := by decide +kernel
set_option maxRecDepth 100000 in
set_option maxHeartbeats 4000000 in
theorem kX6_loadsg (l : Launch) (g : GG) (O : Nat) (dh : Nat) (th : Nat) (HH : Nat) (IM : Nat) (SG : Nat) (ca : Nat) (h : Nat) (q : Nat) (f : Nat → Int32) (n : Nat) (ww : Nat) (nu : Nat → Nat → Nat) (P : Nat) (ra : Nat) (sa : Nat) (ta : Nat) (rf : Nat → Int32) (sf : Nat → Int32) (tf : Nat → Int32) (p1 : Int32) (p2 : Int32) (p3 : Int32) (p4 : Int32) (p5 : Int32) (rg : Nat) (ro : Nat → Option Nat) (a0 : Nat) (b0 : Nat) (a1 : Nat) (b1 : Nat) (a2 : Nat) (b2 : Nat) (a3 : Nat) (b3 : Nat) (a4 : Nat) (b4 : Nat) (a5 : Nat) (b5 : Nat) (fs : Nat → Nat → Int32) (ns : Nat → Nat) (wbs : Nat → Nat) (k : Nat) (z : Nat) (p : Nat) (hn1 : 1 ≤ n) (hn : n ≤ 8) (hww : ww < 256) (hf : ∀ a i, a < 4 → i < n → f (a * 8 + i) = nI (nu a i)) (hB : HB nu n) (hro : ro 0 = some a0 ∧ ro 1 = some a1 ∧ ro 2 = some a2 ∧ ro 3 = some a3 ∧ ro 4 = some a4 ∧ ro 5 = some a5) (hk : k < 6) (hz : z ≤ 6) (hp : p < 1000) : KI l g yX6_loads wsX6_loads 5 110 [.ref O, .int (nI p)] [(O, ob 6 [.ref h, .ref dh, .ref th, .ref HH, .ref IM, .ref SG, .ref P, .ref ca]), (h, ob 2 [.ref q, .int (nI n), .int (nI ww)]), (q, aI g 32 f), (P, ob 3 [.ref ra, .ref sa, .ref ta, .int p1, .int p2, .int p3, .int p4, .int p5]), (ra, aI g 8 rf), (sa, aI g 8 sf), (ta, aI g 8 tf), (HH, ob 0 [.ref rg, .int (nI k), .int (nI z)]), (rg, aO g 6 ro), (a0, ob 2 [.ref b0, .int (nI (ns 0)), .int (nI (wbs 0))]), (b0, aI g 32 (fs 0)), (a1, ob 2 [.ref b1, .int (nI (ns 1)), .int (nI (wbs 1))]), (b1, aI g 32 (fs 1)), (a2, ob 2 [.ref b2, .int (nI (ns 2)), .int (nI (wbs 2))]), (b2, aI g 32 (fs 2)), (a3, ob 2 [.ref b3, .int (nI (ns 3)), .int (nI (wbs 3))]), (b3, aI g 32 (fs 3)), (a4, ob 2 [.ref b4, .int (nI (ns 4)), .int (nI (wbs 4))]), (b4, aI g 32 (fs 4)), (a5, ob 2 [.ref b5, .int (nI (ns 5)), .int (nI (wbs 5))]), (b5, aI g 32 (fs 5))] (fun (r : Int32) (w' : va_W) => r = (nI (pop ww) - nI (pop (wa (fb (nu 1) (R0 nu) (nu 3) n p) 8 ww))) ∧ ∃ (z1' : Int32), ∃ (z2' : Int32), ∃ (z3' : Int32), ∃ (z4' : Int32), ∃ (z5' : Int32), ∃ (rf' : Nat → Int32), ∃ (sf' : Nat → Int32), ∃ (tf' : Nat → Int32), ∃ (f' : Nat → Int32), (∀ j, j < 32 → f' j = f j) ∧ w' = [(O, ob 6 [.ref h, .ref dh, .ref th, .ref HH, .ref IM, .ref SG, .ref P, .ref ca]), (h, ob 2 [.ref q, .int (nI n), .int (nI (wa (fb (nu 1) (R0 nu) (nu 3) n p) 8 ww))]), (q, aI g 32 f), (P, ob 3 [.ref ra, .ref sa, .ref ta, .int z1', .int z2', .int z3', .int z4', .int z5']), (ra, aI g 8 rf'), (sa, aI g 8 sf'), (ta, aI g 8 tf'), (HH, ob 0 [.ref rg, .int (nI (nxt k)), .int (nI (min (z + 1) 6))]), (rg, aO g 6 ro), (a0, ob 2 [.ref b0, .int (nI (updA ns k n 0)), .int (nI (updA wbs k ww 0))]), (b0, aI g 32 (updA fs k f' 0)), (a1, ob 2 [.ref b1, .int (nI (updA ns k n 1)), .int (nI (updA wbs k ww 1))]), (b1, aI g 32 (updA fs k f' 1)), (a2, ob 2 [.ref b2, .int (nI (updA ns k n 2)), .int (nI (updA wbs k ww 2))]), (b2, aI g 32 (updA fs k f' 2)), (a3, ob 2 [.ref b3, .int (nI (updA ns k n 3)), .int (nI (updA wbs k ww 3))]), (b3, aI g 32 (updA fs k f' 3)), (a4, ob 2 [.ref b4, .int (nI (updA ns k n 4)), .int (nI (updA wbs k ww 4))]), (b4, aI g 32 (updA fs k f' 4)), (a5, ob 2 [.ref b5, .int (nI (updA ns k n 5)), .int (nI (updA wbs k ww 5))]), (b5, aI g 32 (updA fs k f' 5))]) := by
  refine kI_of (cc := cX6_loads) (maxL := 4) (by decide) rfl (Nat.le_of_ble_eq_true rfl) ?_
  intro pp ee ss mm bel mth cd A ls C S hr hl
  obtain ⟨hx, hb, hml, hown, hts⟩ := id C.1
  have hl : lv_has ls 4 [(0, .ref O), (1, .int (nI p))] := hl
  obtain ⟨H, hH⟩ : ∃ H, H = ss.heap := ⟨_, rfl⟩
  obtain ⟨locs, hL0⟩ : ∃ L : List Loc, L = [] := ⟨_, rfl⟩
  rw [← hH, ← hL0] at S ⊢
  have hca : ∀ i, i < n → nu 2 i ≤ 30 := fun i9 h9 => (hB i9 h9).2.2.1
  have hSb : ∀ i, i < n → nu 1 i ≤ 9 := fun i9 h9 => (hB i9 h9).2.1.2
  have hTb : ∀ i, i < n → nu 3 i ≤ 99 := fun i9 h9 => (hB i9 h9).2.2.2.2
  have hRb : ∀ i, i < n → R0 nu i ≤ 240 := RC_le hn hca
  have hwl : wa (fb (nu 1) (R0 nu) (nu 3) n p) 8 ww < 256 := wa_lt 8 ww hww
  have hld : sX6_isLoad (nI p) = true := by rw [isLoad_eq]; exact ok_nI hp (by decide)
  refine lv_iload_n hx hb dX6_loads_0 rfl (lv_at hl 1 rfl) ?_
  refine after_I (wc := []) (y := yX6_isLoad) C S (va_runS (As := [.int (nI p)]) (rest := []) C.1 (kX6_isLoad l g (nI p) H.size) (va_cwS 1 hts gX6_loads_X6_isLoad rfl rfl rfl (by decide +kernel) ⟨Nat.le_of_ble_eq_true rfl, Nat.le_of_ble_eq_true rfl⟩) (preS_at C S [] rfl (by decide)) rfl rfl hl.1 rfl (lv_room (Nat.le_of_ble_eq_true rfl)) dX6_loads_1 ⟨Nat.le_of_ble_eq_true rfl, Nat.le_of_ble_eq_true rfl⟩) [] [0, 1, 2, 3, 4, 5, 6, 7, 8, 9, 10, 11, 12, 13, 14, 15, 16, 17, 18, 19, 20] rfl (wr := [(O, ob 6 [.ref h, .ref dh, .ref th, .ref HH, .ref IM, .ref SG, .ref P, .ref ca]), (h, ob 2 [.ref q, .int (nI n), .int (nI ww)]), (q, aI g 32 f), (P, ob 3 [.ref ra, .ref sa, .ref ta, .int p1, .int p2, .int p3, .int p4, .int p5]), (ra, aI g 8 rf), (sa, aI g 8 sf), (ta, aI g 8 tf), (HH, ob 0 [.ref rg, .int (nI k), .int (nI z)]), (rg, aO g 6 ro), (a0, ob 2 [.ref b0, .int (nI (ns 0)), .int (nI (wbs 0))]), (b0, aI g 32 (fs 0)), (a1, ob 2 [.ref b1, .int (nI (ns 1)), .int (nI (wbs 1))]), (b1, aI g 32 (fs 1)), (a2, ob 2 [.ref b2, .int (nI (ns 2)), .int (nI (wbs 2))]), (b2, aI g 32 (fs 2)), (a3, ob 2 [.ref b3, .int (nI (ns 3)), .int (nI (wbs 3))]), (b3, aI g 32 (fs 3)), (a4, ob 2 [.ref b4, .int (nI (ns 4)), .int (nI (wbs 4))]), (b4, aI g 32 (fs 4)), (a5, ob 2 [.ref b5, .int (nI (ns 5)), .int (nI (wbs 5))]), (b5, aI g 32 (fs 5))]) rfl (by decide) (by decide) (fun r0 w0 H locs hq S => ?_)
  obtain ⟨rfl, rfl⟩ := hq
  have S : ST g A ss H locs [(O, ob 6 [.ref h, .ref dh, .ref th, .ref HH, .ref IM, .ref SG, .ref P, .ref ca]), (h, ob 2 [.ref q, .int (nI n), .int (nI ww)]), (q, aI g 32 f), (P, ob 3 [.ref ra, .ref sa, .ref ta, .int p1, .int p2, .int p3, .int p4, .int p5]), (ra, aI g 8 rf), (sa, aI g 8 sf), (ta, aI g 8 tf), (HH, ob 0 [.ref rg, .int (nI k), .int (nI z)]), (rg, aO g 6 ro), (a0, ob 2 [.ref b0, .int (nI (ns 0)), .int (nI (wbs 0))]), (b0, aI g 32 (fs 0)), (a1, ob 2 [.ref b1, .int (nI (ns 1)), .int (nI (wbs 1))]), (b1, aI g 32 (fs 1)), (a2, ob 2 [.ref b2, .int (nI (ns 2)), .int (nI (wbs 2))]), (b2, aI g 32 (fs 2)), (a3, ob 2 [.ref b3, .int (nI (ns 3)), .int (nI (wbs 3))]), (b3, aI g 32 (fs 3)), (a4, ob 2 [.ref b4, .int (nI (ns 4)), .int (nI (wbs 4))]), (b4, aI g 32 (fs 4)), (a5, ob 2 [.ref b5, .int (nI (ns 5)), .int (nI (wbs 5))]), (b5, aI g 32 (fs 5))] := S
  refine br_neB (tgt := 9) hx hb dX6_loads_4 (by decide) (fun c_1 => ?_) (fun c_1 => ?_)
  · -- 4 T
    refine lv_aload_n hx hb dX6_loads_9 rfl (lv_at hl 0 rfl) ?_
    refine lv_aload_n hx hb dX6_loads_10 rfl (lv_at hl 0 rfl) ?_
    refine top_get C S inX6_loadsg_X6 rfl 0 rfl 0 (by decide) (by decide +kernel) rfl rfl dX6_loads_11 ?_
    refine top_getN C S inX6_loadsg_X2 rfl 1 rfl 2 (by decide) (by decide +kernel) rfl dX6_loads_14 ?_
    refine after_V (wc := [(O, ob 6 [.ref h, .ref dh, .ref th, .ref HH, .ref IM, .ref SG, .ref P, .ref ca]), (h, ob 2 [.ref q, .int (nI n), .int (nI ww)]), (q, aI g 32 f), (P, ob 3 [.ref ra, .ref sa, .ref ta, .int p1, .int p2, .int p3, .int p4, .int p5]), (ra, aI g 8 rf), (sa, aI g 8 sf), (ta, aI g 8 tf)]) (y := yX6_stackAll) C S (va_runV (As := [.int (nI ww)]) (rest := []) C.1 (kX6_stackAll l g O dh th HH IM SG ca h q f n ww nu P ra sa ta rf sf tf p1 p2 p3 p4 p5 ww (by first | assumption | omega) (by first | assumption | omega) (by first | assumption | omega) hww H.size) (cwV 1 hts gX6_loads_X6_stackAll rfl rfl rfl (by decide +kernel) ⟨Nat.le_of_ble_eq_true rfl, Nat.le_of_ble_eq_true rfl⟩) (preV_at C S 0 rfl rfl [0, 1, 2, 3, 4, 5, 6] rfl (by decide)) rfl rfl hl.1 rfl (lv_room (Nat.le_of_ble_eq_true rfl)) dX6_loads_17 ⟨Nat.le_of_ble_eq_true rfl, Nat.le_of_ble_eq_true rfl⟩) [0, 1, 2, 3, 4, 5, 6] [7, 8, 9, 10, 11, 12, 13, 14, 15, 16, 17, 18, 19, 20] rfl (wr := [(HH, ob 0 [.ref rg, .int (nI k), .int (nI z)]), (rg, aO g 6 ro), (a0, ob 2 [.ref b0, .int (nI (ns 0)), .int (nI (wbs 0))]), (b0, aI g 32 (fs 0)), (a1, ob 2 [.ref b1, .int (nI (ns 1)), .int (nI (wbs 1))]), (b1, aI g 32 (fs 1)), (a2, ob 2 [.ref b2, .int (nI (ns 2)), .int (nI (wbs 2))]), (b2, aI g 32 (fs 2)), (a3, ob 2 [.ref b3, .int (nI (ns 3)), .int (nI (wbs 3))]), (b3, aI g 32 (fs 3)), (a4, ob 2 [.ref b4, .int (nI (ns 4)), .int (nI (wbs 4))]), (b4, aI g 32 (fs 4)), (a5, ob 2 [.ref b5, .int (nI (ns 5)), .int (nI (wbs 5))]), (b5, aI g 32 (fs 5))]) rfl (by decide) (by decide) (fun w0 H locs hq S => ?_)
    obtain ⟨rf1, sf1, tf1, hR1, hS1, hT1, rfl⟩ := hq
    have S : ST g A ss H locs [(O, ob 6 [.ref h, .ref dh, .ref th, .ref HH, .ref IM, .ref SG, .ref P, .ref ca]), (h, ob 2 [.ref q, .int (nI n), .int (nI ww)]), (q, aI g 32 f), (P, ob 3 [.ref ra, .ref sa, .ref ta, .int (nI n), .int (nI ww), .int p3, .int p4, .int p5]), (ra, aI g 8 rf1), (sa, aI g 8 sf1), (ta, aI g 8 tf1), (HH, ob 0 [.ref rg, .int (nI k), .int (nI z)]), (rg, aO g 6 ro), (a0, ob 2 [.ref b0, .int (nI (ns 0)), .int (nI (wbs 0))]), (b0, aI g 32 (fs 0)), (a1, ob 2 [.ref b1, .int (nI (ns 1)), .int (nI (wbs 1))]), (b1, aI g 32 (fs 1)), (a2, ob 2 [.ref b2, .int (nI (ns 2)), .int (nI (wbs 2))]), (b2, aI g 32 (fs 2)), (a3, ob 2 [.ref b3, .int (nI (ns 3)), .int (nI (wbs 3))]), (b3, aI g 32 (fs 3)), (a4, ob 2 [.ref b4, .int (nI (ns 4)), .int (nI (wbs 4))]), (b4, aI g 32 (fs 4)), (a5, ob 2 [.ref b5, .int (nI (ns 5)), .int (nI (wbs 5))]), (b5, aI g 32 (fs 5))] := ST.sub S [14, 15, 16, 17, 18, 19, 20, 0, 1, 2, 3, 4, 5, 6, 7, 8, 9, 10, 11, 12, 13] (by decide) rfl
    refine lv_aload_n hx hb dX6_loads_20 rfl (lv_at hl 0 rfl) ?_
    refine top_get C S inX6_loadsg_X6 rfl 0 rfl 6 (by decide) (by decide +kernel) rfl rfl dX6_loads_21 ?_
    refine lv_iload_n hx hb dX6_loads_24 rfl (lv_at hl 1 rfl) ?_
    refine after_I (wc := [(P, ob 3 [.ref ra, .ref sa, .ref ta, .int (nI n), .int (nI ww), .int p3, .int p4, .int p5]), (ra, aI g 8 rf1), (sa, aI g 8 sf1), (ta, aI g 8 tf1)]) (y := yX3_wholeAfter) C S (va_runV (As := [.int (nI p)]) (rest := []) C.1 (kX3_wholeAfter l g P ra sa ta rf1 sf1 tf1 n ww p3 p4 p5 (R0 nu) (nu 1) (nu 3) p (by first | assumption | omega) (by first | assumption | omega) (by first | assumption | omega) (by first | assumption | omega) (by first | assumption | omega) (by first | assumption | omega) (by first | assumption | omega) (by first | assumption | omega) (by first | assumption | omega) H.size) (cwV 1 hts gX6_loads_X3_wholeAfter rfl rfl rfl (by decide +kernel) ⟨Nat.le_of_ble_eq_true rfl, Nat.le_of_ble_eq_true rfl⟩) (preV_at C S 3 rfl rfl [3, 4, 5, 6] rfl (by decide)) rfl rfl hl.1 rfl (lv_room (Nat.le_of_ble_eq_true rfl)) dX6_loads_25 ⟨Nat.le_of_ble_eq_true rfl, Nat.le_of_ble_eq_true rfl⟩) [3, 4, 5, 6] [0, 1, 2, 7, 8, 9, 10, 11, 12, 13, 14, 15, 16, 17, 18, 19, 20] rfl (wr := [(O, ob 6 [.ref h, .ref dh, .ref th, .ref HH, .ref IM, .ref SG, .ref P, .ref ca]), (h, ob 2 [.ref q, .int (nI n), .int (nI ww)]), (q, aI g 32 f), (HH, ob 0 [.ref rg, .int (nI k), .int (nI z)]), (rg, aO g 6 ro), (a0, ob 2 [.ref b0, .int (nI (ns 0)), .int (nI (wbs 0))]), (b0, aI g 32 (fs 0)), (a1, ob 2 [.ref b1, .int (nI (ns 1)), .int (nI (wbs 1))]), (b1, aI g 32 (fs 1)), (a2, ob 2 [.ref b2, .int (nI (ns 2)), .int (nI (wbs 2))]), (b2, aI g 32 (fs 2)), (a3, ob 2 [.ref b3, .int (nI (ns 3)), .int (nI (wbs 3))]), (b3, aI g 32 (fs 3)), (a4, ob 2 [.ref b4, .int (nI (ns 4)), .int (nI (wbs 4))]), (b4, aI g 32 (fs 4)), (a5, ob 2 [.ref b5, .int (nI (ns 5)), .int (nI (wbs 5))]), (b5, aI g 32 (fs 5))]) rfl (by decide) (by decide) (fun r0 w0 H locs hq S => ?_)
    obtain ⟨rfl, u'_2, l'_3, v'_4, rfl⟩ := hq
    have S : ST g A ss H locs [(O, ob 6 [.ref h, .ref dh, .ref th, .ref HH, .ref IM, .ref SG, .ref P, .ref ca]), (h, ob 2 [.ref q, .int (nI n), .int (nI ww)]), (q, aI g 32 f), (P, ob 3 [.ref ra, .ref sa, .ref ta, .int (nI n), .int (nI (wa (fb (nu 1) (R0 nu) (nu 3) n p) 8 ww)), .int u'_2, .int l'_3, .int v'_4]), (ra, aI g 8 rf1), (sa, aI g 8 sf1), (ta, aI g 8 tf1), (HH, ob 0 [.ref rg, .int (nI k), .int (nI z)]), (rg, aO g 6 ro), (a0, ob 2 [.ref b0, .int (nI (ns 0)), .int (nI (wbs 0))]), (b0, aI g 32 (fs 0)), (a1, ob 2 [.ref b1, .int (nI (ns 1)), .int (nI (wbs 1))]), (b1, aI g 32 (fs 1)), (a2, ob 2 [.ref b2, .int (nI (ns 2)), .int (nI (wbs 2))]), (b2, aI g 32 (fs 2)), (a3, ob 2 [.ref b3, .int (nI (ns 3)), .int (nI (wbs 3))]), (b3, aI g 32 (fs 3)), (a4, ob 2 [.ref b4, .int (nI (ns 4)), .int (nI (wbs 4))]), (b4, aI g 32 (fs 4)), (a5, ob 2 [.ref b5, .int (nI (ns 5)), .int (nI (wbs 5))]), (b5, aI g 32 (fs 5))] := ST.sub S [0, 1, 2, 17, 18, 19, 20, 3, 4, 5, 6, 7, 8, 9, 10, 11, 12, 13, 14, 15, 16] (by decide) rfl
    refine lv_istore_n (lv' := [(2, .int (nI (wa (fb (nu 1) (R0 nu) (nu 3) n p) 8 ww))), (0, .ref O), (1, .int (nI p))]) hx hb dX6_loads_28 rfl hl (by decide) rfl (fun ls hl => ?_)
    refine lv_aload_n hx hb dX6_loads_29 rfl (lv_at hl 1 rfl) ?_
    refine top_get C S inX6_loadsg_X6 rfl 0 rfl 0 (by decide) (by decide +kernel) rfl rfl dX6_loads_30 ?_
    refine top_getN C S inX6_loadsg_X2 rfl 1 rfl 2 (by decide) (by decide +kernel) rfl dX6_loads_33 ?_
    refine after_I (wc := []) (y := yJ6_bitCount_0f7a4) C S (va_runS (As := [.int (nI ww)]) (rest := []) C.1 (kJ6_bitCount_0f7a4 l g ww (by first | assumption | omega) H.size) (va_cwS 1 hts gX6_loads_J6_bitCount_0f7a4 rfl rfl rfl (by decide +kernel) ⟨Nat.le_of_ble_eq_true rfl, Nat.le_of_ble_eq_true rfl⟩) (preS_at C S [] rfl (by decide)) rfl rfl hl.1 rfl (lv_room (Nat.le_of_ble_eq_true rfl)) dX6_loads_36 ⟨Nat.le_of_ble_eq_true rfl, Nat.le_of_ble_eq_true rfl⟩) [] [0, 1, 2, 3, 4, 5, 6, 7, 8, 9, 10, 11, 12, 13, 14, 15, 16, 17, 18, 19, 20] rfl (wr := [(O, ob 6 [.ref h, .ref dh, .ref th, .ref HH, .ref IM, .ref SG, .ref P, .ref ca]), (h, ob 2 [.ref q, .int (nI n), .int (nI ww)]), (q, aI g 32 f), (P, ob 3 [.ref ra, .ref sa, .ref ta, .int (nI n), .int (nI (wa (fb (nu 1) (R0 nu) (nu 3) n p) 8 ww)), .int u'_2, .int l'_3, .int v'_4]), (ra, aI g 8 rf1), (sa, aI g 8 sf1), (ta, aI g 8 tf1), (HH, ob 0 [.ref rg, .int (nI k), .int (nI z)]), (rg, aO g 6 ro), (a0, ob 2 [.ref b0, .int (nI (ns 0)), .int (nI (wbs 0))]), (b0, aI g 32 (fs 0)), (a1, ob 2 [.ref b1, .int (nI (ns 1)), .int (nI (wbs 1))]), (b1, aI g 32 (fs 1)), (a2, ob 2 [.ref b2, .int (nI (ns 2)), .int (nI (wbs 2))]), (b2, aI g 32 (fs 2)), (a3, ob 2 [.ref b3, .int (nI (ns 3)), .int (nI (wbs 3))]), (b3, aI g 32 (fs 3)), (a4, ob 2 [.ref b4, .int (nI (ns 4)), .int (nI (wbs 4))]), (b4, aI g 32 (fs 4)), (a5, ob 2 [.ref b5, .int (nI (ns 5)), .int (nI (wbs 5))]), (b5, aI g 32 (fs 5))]) rfl (by decide) (by decide) (fun r0 w0 H locs hq S => ?_)
    obtain ⟨rfl, rfl⟩ := hq
    have S : ST g A ss H locs [(O, ob 6 [.ref h, .ref dh, .ref th, .ref HH, .ref IM, .ref SG, .ref P, .ref ca]), (h, ob 2 [.ref q, .int (nI n), .int (nI ww)]), (q, aI g 32 f), (P, ob 3 [.ref ra, .ref sa, .ref ta, .int (nI n), .int (nI (wa (fb (nu 1) (R0 nu) (nu 3) n p) 8 ww)), .int u'_2, .int l'_3, .int v'_4]), (ra, aI g 8 rf1), (sa, aI g 8 sf1), (ta, aI g 8 tf1), (HH, ob 0 [.ref rg, .int (nI k), .int (nI z)]), (rg, aO g 6 ro), (a0, ob 2 [.ref b0, .int (nI (ns 0)), .int (nI (wbs 0))]), (b0, aI g 32 (fs 0)), (a1, ob 2 [.ref b1, .int (nI (ns 1)), .int (nI (wbs 1))]), (b1, aI g 32 (fs 1)), (a2, ob 2 [.ref b2, .int (nI (ns 2)), .int (nI (wbs 2))]), (b2, aI g 32 (fs 2)), (a3, ob 2 [.ref b3, .int (nI (ns 3)), .int (nI (wbs 3))]), (b3, aI g 32 (fs 3)), (a4, ob 2 [.ref b4, .int (nI (ns 4)), .int (nI (wbs 4))]), (b4, aI g 32 (fs 4)), (a5, ob 2 [.ref b5, .int (nI (ns 5)), .int (nI (wbs 5))]), (b5, aI g 32 (fs 5))] := S
    refine lv_iload_n hx hb dX6_loads_39 rfl (lv_at hl 0 rfl) ?_
    refine after_I (wc := []) (y := yJ6_bitCount_0f7a4) C S (va_runS (As := [.int (nI (wa (fb (nu 1) (R0 nu) (nu 3) n p) 8 ww))]) (rest := [.int (nI (pop ww))]) C.1 (kJ6_bitCount_0f7a4 l g (wa (fb (nu 1) (R0 nu) (nu 3) n p) 8 ww) (by first | assumption | omega) H.size) (va_cwS 1 hts gX6_loads_J6_bitCount_0f7a4 rfl rfl rfl (by decide +kernel) ⟨Nat.le_of_ble_eq_true rfl, Nat.le_of_ble_eq_true rfl⟩) (preS_at C S [] rfl (by decide)) rfl rfl hl.1 rfl (lv_room (Nat.le_of_ble_eq_true rfl)) dX6_loads_40 ⟨Nat.le_of_ble_eq_true rfl, Nat.le_of_ble_eq_true rfl⟩) [] [0, 1, 2, 3, 4, 5, 6, 7, 8, 9, 10, 11, 12, 13, 14, 15, 16, 17, 18, 19, 20] rfl (wr := [(O, ob 6 [.ref h, .ref dh, .ref th, .ref HH, .ref IM, .ref SG, .ref P, .ref ca]), (h, ob 2 [.ref q, .int (nI n), .int (nI ww)]), (q, aI g 32 f), (P, ob 3 [.ref ra, .ref sa, .ref ta, .int (nI n), .int (nI (wa (fb (nu 1) (R0 nu) (nu 3) n p) 8 ww)), .int u'_2, .int l'_3, .int v'_4]), (ra, aI g 8 rf1), (sa, aI g 8 sf1), (ta, aI g 8 tf1), (HH, ob 0 [.ref rg, .int (nI k), .int (nI z)]), (rg, aO g 6 ro), (a0, ob 2 [.ref b0, .int (nI (ns 0)), .int (nI (wbs 0))]), (b0, aI g 32 (fs 0)), (a1, ob 2 [.ref b1, .int (nI (ns 1)), .int (nI (wbs 1))]), (b1, aI g 32 (fs 1)), (a2, ob 2 [.ref b2, .int (nI (ns 2)), .int (nI (wbs 2))]), (b2, aI g 32 (fs 2)), (a3, ob 2 [.ref b3, .int (nI (ns 3)), .int (nI (wbs 3))]), (b3, aI g 32 (fs 3)), (a4, ob 2 [.ref b4, .int (nI (ns 4)), .int (nI (wbs 4))]), (b4, aI g 32 (fs 4)), (a5, ob 2 [.ref b5, .int (nI (ns 5)), .int (nI (wbs 5))]), (b5, aI g 32 (fs 5))]) rfl (by decide) (by decide) (fun r0 w0 H locs hq S => ?_)
    obtain ⟨rfl, rfl⟩ := hq
    have S : ST g A ss H locs [(O, ob 6 [.ref h, .ref dh, .ref th, .ref HH, .ref IM, .ref SG, .ref P, .ref ca]), (h, ob 2 [.ref q, .int (nI n), .int (nI ww)]), (q, aI g 32 f), (P, ob 3 [.ref ra, .ref sa, .ref ta, .int (nI n), .int (nI (wa (fb (nu 1) (R0 nu) (nu 3) n p) 8 ww)), .int u'_2, .int l'_3, .int v'_4]), (ra, aI g 8 rf1), (sa, aI g 8 sf1), (ta, aI g 8 tf1), (HH, ob 0 [.ref rg, .int (nI k), .int (nI z)]), (rg, aO g 6 ro), (a0, ob 2 [.ref b0, .int (nI (ns 0)), .int (nI (wbs 0))]), (b0, aI g 32 (fs 0)), (a1, ob 2 [.ref b1, .int (nI (ns 1)), .int (nI (wbs 1))]), (b1, aI g 32 (fs 1)), (a2, ob 2 [.ref b2, .int (nI (ns 2)), .int (nI (wbs 2))]), (b2, aI g 32 (fs 2)), (a3, ob 2 [.ref b3, .int (nI (ns 3)), .int (nI (wbs 3))]), (b3, aI g 32 (fs 3)), (a4, ob 2 [.ref b4, .int (nI (ns 4)), .int (nI (wbs 4))]), (b4, aI g 32 (fs 4)), (a5, ob 2 [.ref b5, .int (nI (ns 5)), .int (nI (wbs 5))]), (b5, aI g 32 (fs 5))] := S
    refine lv_isub hx hb dX6_loads_43 ?_
    refine lv_istore_n (lv' := [(3, .int ((nI (pop ww)) - (nI (pop (wa (fb (nu 1) (R0 nu) (nu 3) n p) 8 ww))))), (2, .int (nI (wa (fb (nu 1) (R0 nu) (nu 3) n p) 8 ww))), (0, .ref O), (1, .int (nI p))]) hx hb dX6_loads_44 rfl hl (by decide) rfl (fun ls hl => ?_)
    refine lv_aload_n hx hb dX6_loads_45 rfl (lv_at hl 2 rfl) ?_
    refine top_get C S inX6_loadsg_X6 rfl 0 rfl 3 (by decide) (by decide +kernel) rfl rfl dX6_loads_46 ?_
    refine lv_aload_n hx hb dX6_loads_49 rfl (lv_at hl 2 rfl) ?_
    refine top_get C S inX6_loadsg_X6 rfl 0 rfl 0 (by decide) (by decide +kernel) rfl rfl dX6_loads_50 ?_
    refine after_V (wc := [(HH, ob 0 [.ref rg, .int (nI k), .int (nI z)]), (rg, aO g 6 ro), (a0, ob 2 [.ref b0, .int (nI (ns 0)), .int (nI (wbs 0))]), (b0, aI g 32 (fs 0)), (a1, ob 2 [.ref b1, .int (nI (ns 1)), .int (nI (wbs 1))]), (b1, aI g 32 (fs 1)), (a2, ob 2 [.ref b2, .int (nI (ns 2)), .int (nI (wbs 2))]), (b2, aI g 32 (fs 2)), (a3, ob 2 [.ref b3, .int (nI (ns 3)), .int (nI (wbs 3))]), (b3, aI g 32 (fs 3)), (a4, ob 2 [.ref b4, .int (nI (ns 4)), .int (nI (wbs 4))]), (b4, aI g 32 (fs 4)), (a5, ob 2 [.ref b5, .int (nI (ns 5)), .int (nI (wbs 5))]), (b5, aI g 32 (fs 5)), (h, ob 2 [.ref q, .int (nI n), .int (nI ww)]), (q, aI g 32 f)]) (y := yX0_push) C S (va_runV (As := [.ref h]) (rest := []) C.1 (kX0_push l g HH rg ro a0 b0 a1 b1 a2 b2 a3 b3 a4 b4 a5 b5 fs ns wbs k z h q f n ww (by first | assumption | omega) (by first | assumption | omega) (by first | assumption | omega) H.size) (cwV 1 hts gX6_loads_X0_push rfl rfl rfl (by decide +kernel) ⟨Nat.le_of_ble_eq_true rfl, Nat.le_of_ble_eq_true rfl⟩) (preV_at C S 7 rfl rfl [7, 8, 9, 10, 11, 12, 13, 14, 15, 16, 17, 18, 19, 20, 1, 2] rfl (by decide)) rfl rfl hl.1 rfl (lv_room (Nat.le_of_ble_eq_true rfl)) dX6_loads_53 ⟨Nat.le_of_ble_eq_true rfl, Nat.le_of_ble_eq_true rfl⟩) [7, 8, 9, 10, 11, 12, 13, 14, 15, 16, 17, 18, 19, 20, 1, 2] [0, 3, 4, 5, 6] rfl (wr := [(O, ob 6 [.ref h, .ref dh, .ref th, .ref HH, .ref IM, .ref SG, .ref P, .ref ca]), (P, ob 3 [.ref ra, .ref sa, .ref ta, .int (nI n), .int (nI (wa (fb (nu 1) (R0 nu) (nu 3) n p) 8 ww)), .int u'_2, .int l'_3, .int v'_4]), (ra, aI g 8 rf1), (sa, aI g 8 sf1), (ta, aI g 8 tf1)]) rfl (by decide) (by decide) (fun w0 H locs hq S => ?_)
    obtain ⟨f9, hf9, rfl⟩ := hq
    have S : ST g A ss H locs [(O, ob 6 [.ref h, .ref dh, .ref th, .ref HH, .ref IM, .ref SG, .ref P, .ref ca]), (h, ob 2 [.ref q, .int (nI n), .int (nI ww)]), (q, aI g 32 f), (P, ob 3 [.ref ra, .ref sa, .ref ta, .int (nI n), .int (nI (wa (fb (nu 1) (R0 nu) (nu 3) n p) 8 ww)), .int u'_2, .int l'_3, .int v'_4]), (ra, aI g 8 rf1), (sa, aI g 8 sf1), (ta, aI g 8 tf1), (HH, ob 0 [.ref rg, .int (nI (nxt k)), .int (nI (min (z + 1) 6))]), (rg, aO g 6 ro), (a0, ob 2 [.ref b0, .int (nI (updA ns k n 0)), .int (nI (updA wbs k ww 0))]), (b0, aI g 32 (updA fs k f9 0)), (a1, ob 2 [.ref b1, .int (nI (updA ns k n 1)), .int (nI (updA wbs k ww 1))]), (b1, aI g 32 (updA fs k f9 1)), (a2, ob 2 [.ref b2, .int (nI (updA ns k n 2)), .int (nI (updA wbs k ww 2))]), (b2, aI g 32 (updA fs k f9 2)), (a3, ob 2 [.ref b3, .int (nI (updA ns k n 3)), .int (nI (updA wbs k ww 3))]), (b3, aI g 32 (updA fs k f9 3)), (a4, ob 2 [.ref b4, .int (nI (updA ns k n 4)), .int (nI (updA wbs k ww 4))]), (b4, aI g 32 (updA fs k f9 4)), (a5, ob 2 [.ref b5, .int (nI (updA ns k n 5)), .int (nI (updA wbs k ww 5))]), (b5, aI g 32 (updA fs k f9 5))] := ST.sub S [0, 19, 20, 1, 2, 3, 4, 5, 6, 7, 8, 9, 10, 11, 12, 13, 14, 15, 16, 17, 18] (by decide) rfl
    refine lv_aload_n hx hb dX6_loads_56 rfl (lv_at hl 2 rfl) ?_
    refine top_get C S inX6_loadsg_X6 rfl 0 rfl 0 (by decide) (by decide +kernel) rfl rfl dX6_loads_57 ?_
    refine lv_iload_n hx hb dX6_loads_60 rfl (lv_at hl 1 rfl) ?_
    refine top_putN (ty := .int) C S inX6_loadsg_X2 tyX2 tyX2_ok nmX2 rfl 1 rfl 2 (by decide) (by decide +kernel) rfl (tyX2_ok 2 (by decide)) rfl rfl (Nat.le_of_ble_eq_true rfl) dX6_loads_61 (fun H locs S => ?_)
    have S : ST g A ss H locs [(O, ob 6 [.ref h, .ref dh, .ref th, .ref HH, .ref IM, .ref SG, .ref P, .ref ca]), (h, ob 2 [.ref q, .int (nI n), .int (nI (wa (fb (nu 1) (R0 nu) (nu 3) n p) 8 ww))]), (q, aI g 32 f), (P, ob 3 [.ref ra, .ref sa, .ref ta, .int (nI n), .int (nI (wa (fb (nu 1) (R0 nu) (nu 3) n p) 8 ww)), .int u'_2, .int l'_3, .int v'_4]), (ra, aI g 8 rf1), (sa, aI g 8 sf1), (ta, aI g 8 tf1), (HH, ob 0 [.ref rg, .int (nI (nxt k)), .int (nI (min (z + 1) 6))]), (rg, aO g 6 ro), (a0, ob 2 [.ref b0, .int (nI (updA ns k n 0)), .int (nI (updA wbs k ww 0))]), (b0, aI g 32 (updA fs k f9 0)), (a1, ob 2 [.ref b1, .int (nI (updA ns k n 1)), .int (nI (updA wbs k ww 1))]), (b1, aI g 32 (updA fs k f9 1)), (a2, ob 2 [.ref b2, .int (nI (updA ns k n 2)), .int (nI (updA wbs k ww 2))]), (b2, aI g 32 (updA fs k f9 2)), (a3, ob 2 [.ref b3, .int (nI (updA ns k n 3)), .int (nI (updA wbs k ww 3))]), (b3, aI g 32 (updA fs k f9 3)), (a4, ob 2 [.ref b4, .int (nI (updA ns k n 4)), .int (nI (updA wbs k ww 4))]), (b4, aI g 32 (updA fs k f9 4)), (a5, ob 2 [.ref b5, .int (nI (updA ns k n 5)), .int (nI (updA wbs k ww 5))]), (b5, aI g 32 (updA fs k f9 5))] := S
    refine lv_iload_n hx hb dX6_loads_64 rfl (lv_at hl 0 rfl) ?_
    exact ret_I C S hr dX6_loads_65 ⟨(by first | rfl | simp only [if_pos c_1]), (nI n), (nI (wa (fb (nu 1) (R0 nu) (nu 3) n p) 8 ww)), u'_2, l'_3, v'_4, rf1, sf1, tf1, f9, (hf9), (by first | rfl | simp only [if_pos c_1])⟩
  · -- 4 F
    rw [hld] at c_1; cases c_1

theorem inX6_breaksb_X6 : ∀ w ∈ wsX60, w ∈ wsX6_breaks := by decide +kernel
set_option maxRecDepth 100000 in
set_option maxHeartbeats 4000000 in
theorem kX6_breaksb (l : Launch) (g : GG) (O : Nat) (dh : Nat) (th : Nat) (HH : Nat) (IM : Nat) (SG : Nat) (ca : Nat) (h : Nat) (P : Nat) (q : Nat) (f : Nat → Int32) (n : Nat) (ww : Nat) (x : Int32) (hn : n ≤ 8) (hbad : okB x n = false) : KI l g yX6_breaks wsX6_breaks 1 21 [.ref O, .int x] [(O, ob 6 [.ref h, .ref dh, .ref th, .ref HH, .ref IM, .ref SG, .ref P, .ref ca]), (h, ob 2 [.ref q, .int (nI n), .int (nI ww)]), (q, aI g 32 f)] (fun (r : Int32) (w' : va_W) => r = (-1) ∧ w' = [(O, ob 6 [.ref h, .ref dh, .ref th, .ref HH, .ref IM, .ref SG, .ref P, .ref ca]), (h, ob 2 [.ref q, .int (nI n), .int (nI ww)]), (q, aI g 32 f)]) := by
  refine kI_of (cc := cX6_breaks) (maxL := 2) (by decide) rfl (Nat.le_of_ble_eq_true rfl) ?_
  intro pp ee ss mm bel mth cd A ls C S hr hl
  obtain ⟨hx, hb, hml, hown, hts⟩ := id C.1
  have hl : lv_has ls 2 [(0, .ref O), (1, .int x)] := hl
  obtain ⟨H, hH⟩ : ∃ H, H = ss.heap := ⟨_, rfl⟩
  obtain ⟨locs, hL0⟩ : ∃ L : List Loc, L = [] := ⟨_, rfl⟩
  rw [← hH, ← hL0] at S ⊢
  refine lv_aload_n hx hb dX6_breaks_0 rfl (lv_at hl 0 rfl) ?_
  refine top_get C S inX6_breaksb_X6 rfl 0 rfl 0 (by decide) (by decide +kernel) rfl rfl dX6_breaks_1 ?_
  refine lv_iload_n hx hb dX6_breaks_4 rfl (lv_at hl 1 rfl) ?_
  refine after_I (wc := [(h, ob 2 [.ref q, .int (nI n), .int (nI ww)]), (q, aI g 32 f)]) (y := yX2_exists) C S (va_runV (As := [.int x]) (rest := []) C.1 (kX2_exists l g h q f n ww x H.size) (cwV 1 hts gX6_breaks_X2_exists rfl rfl rfl (by decide +kernel) ⟨Nat.le_of_ble_eq_true rfl, Nat.le_of_ble_eq_true rfl⟩) (preV_at C S 1 rfl rfl [1, 2] rfl (by decide)) rfl rfl hl.1 rfl (lv_room (Nat.le_of_ble_eq_true rfl)) dX6_breaks_5 ⟨Nat.le_of_ble_eq_true rfl, Nat.le_of_ble_eq_true rfl⟩) [1, 2] [0] rfl (wr := [(O, ob 6 [.ref h, .ref dh, .ref th, .ref HH, .ref IM, .ref SG, .ref P, .ref ca])]) rfl (by decide) (by decide) (fun r0 w0 H locs hq S => ?_)
  obtain ⟨rfl, rfl⟩ := hq
  have S : ST g A ss H locs [(O, ob 6 [.ref h, .ref dh, .ref th, .ref HH, .ref IM, .ref SG, .ref P, .ref ca]), (h, ob 2 [.ref q, .int (nI n), .int (nI ww)]), (q, aI g 32 f)] := S
  refine br_neB (tgt := 13) hx hb dX6_breaks_8 (by decide) (fun c_1 => ?_) (fun c_1 => ?_)
  · -- 8 T
    rw [exists_eq hn, hbad] at c_1; cases c_1
  · -- 8 F
    refine lv_iconst (v := (-1)) hx hb dX6_breaks_11 (by decide) ?_
    exact ret_I C S hr dX6_breaks_12 ⟨(by first | rfl | simp only [if_neg (Bool.eq_false_iff.mp c_1)]), (by first | rfl | simp only [if_neg (Bool.eq_false_iff.mp c_1)])⟩

theorem inX6_breakss_X6 : ∀ w ∈ wsX60, w ∈ wsX6_breaks := by decide +kernel
set_option maxRecDepth 100000 in
set_option maxHeartbeats 4000000 in
theorem kX6_breakss (l : Launch) (g : GG) (O : Nat) (dh : Nat) (th : Nat) (HH : Nat) (IM : Nat) (SG : Nat) (ca : Nat) (h : Nat) (P : Nat) (q : Nat) (f : Nat → Int32) (n : Nat) (ww : Nat) (j : Nat) (hn : n ≤ 8) (hww : ww < 256) (hj : j < n) (hbit : ww.testBit j = false) : KI l g yX6_breaks wsX6_breaks 2 42 [.ref O, .int (nI j)] [(O, ob 6 [.ref h, .ref dh, .ref th, .ref HH, .ref IM, .ref SG, .ref P, .ref ca]), (h, ob 2 [.ref q, .int (nI n), .int (nI ww)]), (q, aI g 32 f)] (fun (r : Int32) (w' : va_W) => r = (-2) ∧ w' = [(O, ob 6 [.ref h, .ref dh, .ref th, .ref HH, .ref IM, .ref SG, .ref P, .ref ca]), (h, ob 2 [.ref q, .int (nI n), .int (nI ww)]), (q, aI g 32 f)]) := by
  refine kI_of (cc := cX6_breaks) (maxL := 2) (by decide) rfl (Nat.le_of_ble_eq_true rfl) ?_
  intro pp ee ss mm bel mth cd A ls C S hr hl
  obtain ⟨hx, hb, hml, hown, hts⟩ := id C.1
  have hl : lv_has ls 2 [(0, .ref O), (1, .int (nI j))] := hl
  obtain ⟨H, hH⟩ : ∃ H, H = ss.heap := ⟨_, rfl⟩
  obtain ⟨locs, hL0⟩ : ∃ L : List Loc, L = [] := ⟨_, rfl⟩
  rw [← hH, ← hL0] at S ⊢
  have hex : sX2_exists n (nI j) = true := by rw [exists_eq hn]; exact ok_nI hj (by omega)
  refine lv_aload_n hx hb dX6_breaks_0 rfl (lv_at hl 0 rfl) ?_
  refine top_get C S inX6_breakss_X6 rfl 0 rfl 0 (by decide) (by decide +kernel) rfl rfl dX6_breaks_1 ?_
  refine lv_iload_n hx hb dX6_breaks_4 rfl (lv_at hl 1 rfl) ?_
  refine after_I (wc := [(h, ob 2 [.ref q, .int (nI n), .int (nI ww)]), (q, aI g 32 f)]) (y := yX2_exists) C S (va_runV (As := [.int (nI j)]) (rest := []) C.1 (kX2_exists l g h q f n ww (nI j) H.size) (cwV 1 hts gX6_breaks_X2_exists rfl rfl rfl (by decide +kernel) ⟨Nat.le_of_ble_eq_true rfl, Nat.le_of_ble_eq_true rfl⟩) (preV_at C S 1 rfl rfl [1, 2] rfl (by decide)) rfl rfl hl.1 rfl (lv_room (Nat.le_of_ble_eq_true rfl)) dX6_breaks_5 ⟨Nat.le_of_ble_eq_true rfl, Nat.le_of_ble_eq_true rfl⟩) [1, 2] [0] rfl (wr := [(O, ob 6 [.ref h, .ref dh, .ref th, .ref HH, .ref IM, .ref SG, .ref P, .ref ca])]) rfl (by decide) (by decide) (fun r0 w0 H locs hq S => ?_)
  obtain ⟨rfl, rfl⟩ := hq
  have S : ST g A ss H locs [(O, ob 6 [.ref h, .ref dh, .ref th, .ref HH, .ref IM, .ref SG, .ref P, .ref ca]), (h, ob 2 [.ref q, .int (nI n), .int (nI ww)]), (q, aI g 32 f)] := S
  refine br_neB (tgt := 13) hx hb dX6_breaks_8 (by decide) (fun c_1 => ?_) (fun c_1 => ?_)
  · -- 8 T
    refine lv_aload_n hx hb dX6_breaks_13 rfl (lv_at hl 0 rfl) ?_
    refine top_get C S inX6_breakss_X6 rfl 0 rfl 0 (by decide) (by decide +kernel) rfl rfl dX6_breaks_14 ?_
    refine lv_iload_n hx hb dX6_breaks_17 rfl (lv_at hl 1 rfl) ?_
    refine after_I (wc := [(h, ob 2 [.ref q, .int (nI n), .int (nI ww)]), (q, aI g 32 f)]) (y := yX2_isWhole) C S (va_runV (As := [.int (nI j)]) (rest := []) C.1 (kX2_isWhole l g h q f n ww j (by first | assumption | omega) (by first | assumption | omega) H.size) (cwV 1 hts gX6_breaks_X2_isWhole rfl rfl rfl (by decide +kernel) ⟨Nat.le_of_ble_eq_true rfl, Nat.le_of_ble_eq_true rfl⟩) (preV_at C S 1 rfl rfl [1, 2] rfl (by decide)) rfl rfl hl.1 rfl (lv_room (Nat.le_of_ble_eq_true rfl)) dX6_breaks_18 ⟨Nat.le_of_ble_eq_true rfl, Nat.le_of_ble_eq_true rfl⟩) [1, 2] [0] rfl (wr := [(O, ob 6 [.ref h, .ref dh, .ref th, .ref HH, .ref IM, .ref SG, .ref P, .ref ca])]) rfl (by decide) (by decide) (fun r0 w0 H locs hq S => ?_)
    obtain ⟨rfl, rfl⟩ := hq
    have S : ST g A ss H locs [(O, ob 6 [.ref h, .ref dh, .ref th, .ref HH, .ref IM, .ref SG, .ref P, .ref ca]), (h, ob 2 [.ref q, .int (nI n), .int (nI ww)]), (q, aI g 32 f)] := S
    refine br_neB (tgt := 27) hx hb dX6_breaks_21 (by decide) (fun c_2 => ?_) (fun c_2 => ?_)
    · -- 21 T
      rw [hbit] at c_2; cases c_2
    · -- 21 F
      refine lv_bipush (v := (-2)) hx hb dX6_breaks_24 (by decide) ?_
      exact ret_I C S hr dX6_breaks_26 ⟨(by first | rfl | simp only [if_pos c_1, if_neg (Bool.eq_false_iff.mp c_2)]), (by first | rfl | simp only [if_pos c_1, if_neg (Bool.eq_false_iff.mp c_2)])⟩
  · -- 8 F
    rw [hex] at c_1; cases c_1

theorem inX6_breaksg_X2 : ∀ w ∈ wsX20, w ∈ wsX6_breaks := by decide +kernel
theorem inX6_breaksg_X6 : ∀ w ∈ wsX60, w ∈ wsX6_breaks := by decide +kernel
set_option maxRecDepth 100000 in
set_option maxHeartbeats 4000000 in
theorem kX6_breaksg (l : Launch) (g : GG) (O : Nat) (dh : Nat) (th : Nat) (HH : Nat) (IM : Nat) (SG : Nat) (ca : Nat) (h : Nat) (P : Nat) (q : Nat) (f : Nat → Int32) (n : Nat) (ww : Nat) (rg : Nat) (ro : Nat → Option Nat) (a0 : Nat) (b0 : Nat) (a1 : Nat) (b1 : Nat) (a2 : Nat) (b2 : Nat) (a3 : Nat) (b3 : Nat) (a4 : Nat) (b4 : Nat) (a5 : Nat) (b5 : Nat) (fs : Nat → Nat → Int32) (ns : Nat → Nat) (wbs : Nat → Nat) (k : Nat) (z : Nat) (j : Nat) (hn : n ≤ 8) (hww : ww < 256) (hj : j < n) (hbit : ww.testBit j = true) (hro : ro 0 = some a0 ∧ ro 1 = some a1 ∧ ro 2 = some a2 ∧ ro 3 = some a3 ∧ ro 4 = some a4 ∧ ro 5 = some a5) (hk : k < 6) (hz : z ≤ 6) : KI l g yX6_breaks wsX6_breaks 3 106 [.ref O, .int (nI j)] [(O, ob 6 [.ref h, .ref dh, .ref th, .ref HH, .ref IM, .ref SG, .ref P, .ref ca]), (h, ob 2 [.ref q, .int (nI n), .int (nI ww)]), (q, aI g 32 f), (HH, ob 0 [.ref rg, .int (nI k), .int (nI z)]), (rg, aO g 6 ro), (a0, ob 2 [.ref b0, .int (nI (ns 0)), .int (nI (wbs 0))]), (b0, aI g 32 (fs 0)), (a1, ob 2 [.ref b1, .int (nI (ns 1)), .int (nI (wbs 1))]), (b1, aI g 32 (fs 1)), (a2, ob 2 [.ref b2, .int (nI (ns 2)), .int (nI (wbs 2))]), (b2, aI g 32 (fs 2)), (a3, ob 2 [.ref b3, .int (nI (ns 3)), .int (nI (wbs 3))]), (b3, aI g 32 (fs 3)), (a4, ob 2 [.ref b4, .int (nI (ns 4)), .int (nI (wbs 4))]), (b4, aI g 32 (fs 4)), (a5, ob 2 [.ref b5, .int (nI (ns 5)), .int (nI (wbs 5))]), (b5, aI g 32 (fs 5))] (fun (r : Int32) (w' : va_W) => r = (nI (pop (clr ww j))) ∧ ∃ (f' : Nat → Int32), (∀ j, j < 32 → f' j = f j) ∧ w' = [(O, ob 6 [.ref h, .ref dh, .ref th, .ref HH, .ref IM, .ref SG, .ref P, .ref ca]), (h, ob 2 [.ref q, .int (nI n), .int (nI (clr ww j))]), (q, aI g 32 f), (HH, ob 0 [.ref rg, .int (nI (nxt k)), .int (nI (min (z + 1) 6))]), (rg, aO g 6 ro), (a0, ob 2 [.ref b0, .int (nI (updA ns k n 0)), .int (nI (updA wbs k ww 0))]), (b0, aI g 32 (updA fs k f' 0)), (a1, ob 2 [.ref b1, .int (nI (updA ns k n 1)), .int (nI (updA wbs k ww 1))]), (b1, aI g 32 (updA fs k f' 1)), (a2, ob 2 [.ref b2, .int (nI (updA ns k n 2)), .int (nI (updA wbs k ww 2))]), (b2, aI g 32 (updA fs k f' 2)), (a3, ob 2 [.ref b3, .int (nI (updA ns k n 3)), .int (nI (updA wbs k ww 3))]), (b3, aI g 32 (updA fs k f' 3)), (a4, ob 2 [.ref b4, .int (nI (updA ns k n 4)), .int (nI (updA wbs k ww 4))]), (b4, aI g 32 (updA fs k f' 4)), (a5, ob 2 [.ref b5, .int (nI (updA ns k n 5)), .int (nI (updA wbs k ww 5))]), (b5, aI g 32 (updA fs k f' 5))]) := by
  refine kI_of (cc := cX6_breaks) (maxL := 2) (by decide) rfl (Nat.le_of_ble_eq_true rfl) ?_
  intro pp ee ss mm bel mth cd A ls C S hr hl
  obtain ⟨hx, hb, hml, hown, hts⟩ := id C.1
  have hl : lv_has ls 2 [(0, .ref O), (1, .int (nI j))] := hl
  obtain ⟨H, hH⟩ : ∃ H, H = ss.heap := ⟨_, rfl⟩
  obtain ⟨locs, hL0⟩ : ∃ L : List Loc, L = [] := ⟨_, rfl⟩
  rw [← hH, ← hL0] at S ⊢
  have hex : sX2_exists n (nI j) = true := by rw [exists_eq hn]; exact ok_nI hj (by omega)
  have hnw : clr ww j < 256 := Nat.lt_of_le_of_lt (clr_le _ _) hww
  refine lv_aload_n hx hb dX6_breaks_0 rfl (lv_at hl 0 rfl) ?_
  refine top_get C S inX6_breaksg_X6 rfl 0 rfl 0 (by decide) (by decide +kernel) rfl rfl dX6_breaks_1 ?_
  refine lv_iload_n hx hb dX6_breaks_4 rfl (lv_at hl 1 rfl) ?_
  refine after_I (wc := [(h, ob 2 [.ref q, .int (nI n), .int (nI ww)]), (q, aI g 32 f)]) (y := yX2_exists) C S (va_runV (As := [.int (nI j)]) (rest := []) C.1 (kX2_exists l g h q f n ww (nI j) H.size) (cwV 1 hts gX6_breaks_X2_exists rfl rfl rfl (by decide +kernel) ⟨Nat.le_of_ble_eq_true rfl, Nat.le_of_ble_eq_true rfl⟩) (preV_at C S 1 rfl rfl [1, 2] rfl (by decide)) rfl rfl hl.1 rfl (lv_room (Nat.le_of_ble_eq_true rfl)) dX6_breaks_5 ⟨Nat.le_of_ble_eq_true rfl, Nat.le_of_ble_eq_true rfl⟩) [1, 2] [0, 3, 4, 5, 6, 7, 8, 9, 10, 11, 12, 13, 14, 15, 16] rfl (wr := [(O, ob 6 [.ref h, .ref dh, .ref th, .ref HH, .ref IM, .ref SG, .ref P, .ref ca]), (HH, ob 0 [.ref rg, .int (nI k), .int (nI z)]), (rg, aO g 6 ro), (a0, ob 2 [.ref b0, .int (nI (ns 0)), .int (nI (wbs 0))]), (b0, aI g 32 (fs 0)), (a1, ob 2 [.ref b1, .int (nI (ns 1)), .int (nI (wbs 1))]), (b1, aI g 32 (fs 1)), (a2, ob 2 [.ref b2, .int (nI (ns 2)), .int (nI (wbs 2))]), (b2, aI g 32 (fs 2)), (a3, ob 2 [.ref b3, .int (nI (ns 3)), .int (nI (wbs 3))]), (b3, aI g 32 (fs 3)), (a4, ob 2 [.ref b4, .int (nI (ns 4)), .int (nI (wbs 4))]), (b4, aI g 32 (fs 4)), (a5, ob 2 [.ref b5, .int (nI (ns 5)), .int (nI (wbs 5))]), (b5, aI g 32 (fs 5))]) rfl (by decide) (by decide) (fun r0 w0 H locs hq S => ?_)
  obtain ⟨rfl, rfl⟩ := hq
  have S : ST g A ss H locs [(O, ob 6 [.ref h, .ref dh, .ref th, .ref HH, .ref IM, .ref SG, .ref P, .ref ca]), (h, ob 2 [.ref q, .int (nI n), .int (nI ww)]), (q, aI g 32 f), (HH, ob 0 [.ref rg, .int (nI k), .int (nI z)]), (rg, aO g 6 ro), (a0, ob 2 [.ref b0, .int (nI (ns 0)), .int (nI (wbs 0))]), (b0, aI g 32 (fs 0)), (a1, ob 2 [.ref b1, .int (nI (ns 1)), .int (nI (wbs 1))]), (b1, aI g 32 (fs 1)), (a2, ob 2 [.ref b2, .int (nI (ns 2)), .int (nI (wbs 2))]), (b2, aI g 32 (fs 2)), (a3, ob 2 [.ref b3, .int (nI (ns 3)), .int (nI (wbs 3))]), (b3, aI g 32 (fs 3)), (a4, ob 2 [.ref b4, .int (nI (ns 4)), .int (nI (wbs 4))]), (b4, aI g 32 (fs 4)), (a5, ob 2 [.ref b5, .int (nI (ns 5)), .int (nI (wbs 5))]), (b5, aI g 32 (fs 5))] := ST.sub S [0, 15, 16, 1, 2, 3, 4, 5, 6, 7, 8, 9, 10, 11, 12, 13, 14] (by decide) rfl
  refine br_neB (tgt := 13) hx hb dX6_breaks_8 (by decide) (fun c_1 => ?_) (fun c_1 => ?_)
  · -- 8 T
    refine lv_aload_n hx hb dX6_breaks_13 rfl (lv_at hl 0 rfl) ?_
    refine top_get C S inX6_breaksg_X6 rfl 0 rfl 0 (by decide) (by decide +kernel) rfl rfl dX6_breaks_14 ?_
    refine lv_iload_n hx hb dX6_breaks_17 rfl (lv_at hl 1 rfl) ?_
    refine after_I (wc := [(h, ob 2 [.ref q, .int (nI n), .int (nI ww)]), (q, aI g 32 f)]) (y := yX2_isWhole) C S (va_runV (As := [.int (nI j)]) (rest := []) C.1 (kX2_isWhole l g h q f n ww j (by first | assumption | omega) (by first | assumption | omega) H.size) (cwV 1 hts gX6_breaks_X2_isWhole rfl rfl rfl (by decide +kernel) ⟨Nat.le_of_ble_eq_true rfl, Nat.le_of_ble_eq_true rfl⟩) (preV_at C S 1 rfl rfl [1, 2] rfl (by decide)) rfl rfl hl.1 rfl (lv_room (Nat.le_of_ble_eq_true rfl)) dX6_breaks_18 ⟨Nat.le_of_ble_eq_true rfl, Nat.le_of_ble_eq_true rfl⟩) [1, 2] [0, 3, 4, 5, 6, 7, 8, 9, 10, 11, 12, 13, 14, 15, 16] rfl (wr := [(O, ob 6 [.ref h, .ref dh, .ref th, .ref HH, .ref IM, .ref SG, .ref P, .ref ca]), (HH, ob 0 [.ref rg, .int (nI k), .int (nI z)]), (rg, aO g 6 ro), (a0, ob 2 [.ref b0, .int (nI (ns 0)), .int (nI (wbs 0))]), (b0, aI g 32 (fs 0)), (a1, ob 2 [.ref b1, .int (nI (ns 1)), .int (nI (wbs 1))]), (b1, aI g 32 (fs 1)), (a2, ob 2 [.ref b2, .int (nI (ns 2)), .int (nI (wbs 2))]), (b2, aI g 32 (fs 2)), (a3, ob 2 [.ref b3, .int (nI (ns 3)), .int (nI (wbs 3))]), (b3, aI g 32 (fs 3)), (a4, ob 2 [.ref b4, .int (nI (ns 4)), .int (nI (wbs 4))]), (b4, aI g 32 (fs 4)), (a5, ob 2 [.ref b5, .int (nI (ns 5)), .int (nI (wbs 5))]), (b5, aI g 32 (fs 5))]) rfl (by decide) (by decide) (fun r0 w0 H locs hq S => ?_)
    obtain ⟨rfl, rfl⟩ := hq
    have S : ST g A ss H locs [(O, ob 6 [.ref h, .ref dh, .ref th, .ref HH, .ref IM, .ref SG, .ref P, .ref ca]), (h, ob 2 [.ref q, .int (nI n), .int (nI ww)]), (q, aI g 32 f), (HH, ob 0 [.ref rg, .int (nI k), .int (nI z)]), (rg, aO g 6 ro), (a0, ob 2 [.ref b0, .int (nI (ns 0)), .int (nI (wbs 0))]), (b0, aI g 32 (fs 0)), (a1, ob 2 [.ref b1, .int (nI (ns 1)), .int (nI (wbs 1))]), (b1, aI g 32 (fs 1)), (a2, ob 2 [.ref b2, .int (nI (ns 2)), .int (nI (wbs 2))]), (b2, aI g 32 (fs 2)), (a3, ob 2 [.ref b3, .int (nI (ns 3)), .int (nI (wbs 3))]), (b3, aI g 32 (fs 3)), (a4, ob 2 [.ref b4, .int (nI (ns 4)), .int (nI (wbs 4))]), (b4, aI g 32 (fs 4)), (a5, ob 2 [.ref b5, .int (nI (ns 5)), .int (nI (wbs 5))]), (b5, aI g 32 (fs 5))] := ST.sub S [0, 15, 16, 1, 2, 3, 4, 5, 6, 7, 8, 9, 10, 11, 12, 13, 14] (by decide) rfl
    refine br_neB (tgt := 27) hx hb dX6_breaks_21 (by decide) (fun c_2 => ?_) (fun c_2 => ?_)
    · -- 21 T
      refine lv_aload_n hx hb dX6_breaks_27 rfl (lv_at hl 0 rfl) ?_
      refine top_get C S inX6_breaksg_X6 rfl 0 rfl 3 (by decide) (by decide +kernel) rfl rfl dX6_breaks_28 ?_
      refine lv_aload_n hx hb dX6_breaks_31 rfl (lv_at hl 0 rfl) ?_
      refine top_get C S inX6_breaksg_X6 rfl 0 rfl 0 (by decide) (by decide +kernel) rfl rfl dX6_breaks_32 ?_
      refine after_V (wc := [(HH, ob 0 [.ref rg, .int (nI k), .int (nI z)]), (rg, aO g 6 ro), (a0, ob 2 [.ref b0, .int (nI (ns 0)), .int (nI (wbs 0))]), (b0, aI g 32 (fs 0)), (a1, ob 2 [.ref b1, .int (nI (ns 1)), .int (nI (wbs 1))]), (b1, aI g 32 (fs 1)), (a2, ob 2 [.ref b2, .int (nI (ns 2)), .int (nI (wbs 2))]), (b2, aI g 32 (fs 2)), (a3, ob 2 [.ref b3, .int (nI (ns 3)), .int (nI (wbs 3))]), (b3, aI g 32 (fs 3)), (a4, ob 2 [.ref b4, .int (nI (ns 4)), .int (nI (wbs 4))]), (b4, aI g 32 (fs 4)), (a5, ob 2 [.ref b5, .int (nI (ns 5)), .int (nI (wbs 5))]), (b5, aI g 32 (fs 5)), (h, ob 2 [.ref q, .int (nI n), .int (nI ww)]), (q, aI g 32 f)]) (y := yX0_push) C S (va_runV (As := [.ref h]) (rest := []) C.1 (kX0_push l g HH rg ro a0 b0 a1 b1 a2 b2 a3 b3 a4 b4 a5 b5 fs ns wbs k z h q f n ww (by first | assumption | omega) (by first | assumption | omega) (by first | assumption | omega) H.size) (cwV 1 hts gX6_breaks_X0_push rfl rfl rfl (by decide +kernel) ⟨Nat.le_of_ble_eq_true rfl, Nat.le_of_ble_eq_true rfl⟩) (preV_at C S 3 rfl rfl [3, 4, 5, 6, 7, 8, 9, 10, 11, 12, 13, 14, 15, 16, 1, 2] rfl (by decide)) rfl rfl hl.1 rfl (lv_room (Nat.le_of_ble_eq_true rfl)) dX6_breaks_35 ⟨Nat.le_of_ble_eq_true rfl, Nat.le_of_ble_eq_true rfl⟩) [3, 4, 5, 6, 7, 8, 9, 10, 11, 12, 13, 14, 15, 16, 1, 2] [0] rfl (wr := [(O, ob 6 [.ref h, .ref dh, .ref th, .ref HH, .ref IM, .ref SG, .ref P, .ref ca])]) rfl (by decide) (by decide) (fun w0 H locs hq S => ?_)
      obtain ⟨f9, hf9, rfl⟩ := hq
      have S : ST g A ss H locs [(O, ob 6 [.ref h, .ref dh, .ref th, .ref HH, .ref IM, .ref SG, .ref P, .ref ca]), (h, ob 2 [.ref q, .int (nI n), .int (nI ww)]), (q, aI g 32 f), (HH, ob 0 [.ref rg, .int (nI (nxt k)), .int (nI (min (z + 1) 6))]), (rg, aO g 6 ro), (a0, ob 2 [.ref b0, .int (nI (updA ns k n 0)), .int (nI (updA wbs k ww 0))]), (b0, aI g 32 (updA fs k f9 0)), (a1, ob 2 [.ref b1, .int (nI (updA ns k n 1)), .int (nI (updA wbs k ww 1))]), (b1, aI g 32 (updA fs k f9 1)), (a2, ob 2 [.ref b2, .int (nI (updA ns k n 2)), .int (nI (updA wbs k ww 2))]), (b2, aI g 32 (updA fs k f9 2)), (a3, ob 2 [.ref b3, .int (nI (updA ns k n 3)), .int (nI (updA wbs k ww 3))]), (b3, aI g 32 (updA fs k f9 3)), (a4, ob 2 [.ref b4, .int (nI (updA ns k n 4)), .int (nI (updA wbs k ww 4))]), (b4, aI g 32 (updA fs k f9 4)), (a5, ob 2 [.ref b5, .int (nI (updA ns k n 5)), .int (nI (updA wbs k ww 5))]), (b5, aI g 32 (updA fs k f9 5))] := ST.sub S [0, 15, 16, 1, 2, 3, 4, 5, 6, 7, 8, 9, 10, 11, 12, 13, 14] (by decide) rfl
      refine lv_aload_n hx hb dX6_breaks_38 rfl (lv_at hl 0 rfl) ?_
      refine top_get C S inX6_breaksg_X6 rfl 0 rfl 0 (by decide) (by decide +kernel) rfl rfl dX6_breaks_39 ?_
      refine lv_dup hx hb dX6_breaks_42 rfl ?_
      refine top_getN C S inX6_breaksg_X2 rfl 1 rfl 2 (by decide) (by decide +kernel) rfl dX6_breaks_43 ?_
      refine lv_iconst (v := 1) hx hb dX6_breaks_46 (by decide) ?_
      refine lv_iload_n hx hb dX6_breaks_47 rfl (lv_at hl 1 rfl) ?_
      refine lv_ishl hx hb dX6_breaks_48 ?_
      refine top_eq (y := nI (2 ^ j)) (shl_1 (by omega)) ?_
      refine lv_iconst (v := (-1)) hx hb dX6_breaks_49 (by decide) ?_
      refine lv_ixor hx hb dX6_breaks_50 ?_
      refine lv_iand hx hb dX6_breaks_51 ?_
      refine top_eq (y := nI (clr ww j)) (clr_N hww (by omega)) ?_
      refine top_putN (ty := .int) C S inX6_breaksg_X2 tyX2 tyX2_ok nmX2 rfl 1 rfl 2 (by decide) (by decide +kernel) rfl (tyX2_ok 2 (by decide)) rfl rfl (Nat.le_of_ble_eq_true rfl) dX6_breaks_52 (fun H locs S => ?_)
      have S : ST g A ss H locs [(O, ob 6 [.ref h, .ref dh, .ref th, .ref HH, .ref IM, .ref SG, .ref P, .ref ca]), (h, ob 2 [.ref q, .int (nI n), .int (nI (clr ww j))]), (q, aI g 32 f), (HH, ob 0 [.ref rg, .int (nI (nxt k)), .int (nI (min (z + 1) 6))]), (rg, aO g 6 ro), (a0, ob 2 [.ref b0, .int (nI (updA ns k n 0)), .int (nI (updA wbs k ww 0))]), (b0, aI g 32 (updA fs k f9 0)), (a1, ob 2 [.ref b1, .int (nI (updA ns k n 1)), .int (nI (updA wbs k ww 1))]), (b1, aI g 32 (updA fs k f9 1)), (a2, ob 2 [.ref b2, .int (nI (updA ns k n 2)), .int (nI (updA wbs k ww 2))]), (b2, aI g 32 (updA fs k f9 2)), (a3, ob 2 [.ref b3, .int (nI (updA ns k n 3)), .int (nI (updA wbs k ww 3))]), (b3, aI g 32 (updA fs k f9 3)), (a4, ob 2 [.ref b4, .int (nI (updA ns k n 4)), .int (nI (updA wbs k ww 4))]), (b4, aI g 32 (updA fs k f9 4)), (a5, ob 2 [.ref b5, .int (nI (updA ns k n 5)), .int (nI (updA wbs k ww 5))]), (b5, aI g 32 (updA fs k f9 5))] := S
      refine lv_aload_n hx hb dX6_breaks_55 rfl (lv_at hl 0 rfl) ?_
      refine top_get C S inX6_breaksg_X6 rfl 0 rfl 0 (by decide) (by decide +kernel) rfl rfl dX6_breaks_56 ?_
      refine top_getN C S inX6_breaksg_X2 rfl 1 rfl 2 (by decide) (by decide +kernel) rfl dX6_breaks_59 ?_
      refine after_I (wc := []) (y := yJ6_bitCount_0f7a4) C S (va_runS (As := [.int (nI (clr ww j))]) (rest := []) C.1 (kJ6_bitCount_0f7a4 l g (clr ww j) (by first | assumption | omega) H.size) (va_cwS 1 hts gX6_breaks_J6_bitCount_0f7a4 rfl rfl rfl (by decide +kernel) ⟨Nat.le_of_ble_eq_true rfl, Nat.le_of_ble_eq_true rfl⟩) (preS_at C S [] rfl (by decide)) rfl rfl hl.1 rfl (lv_room (Nat.le_of_ble_eq_true rfl)) dX6_breaks_62 ⟨Nat.le_of_ble_eq_true rfl, Nat.le_of_ble_eq_true rfl⟩) [] [0, 1, 2, 3, 4, 5, 6, 7, 8, 9, 10, 11, 12, 13, 14, 15, 16] rfl (wr := [(O, ob 6 [.ref h, .ref dh, .ref th, .ref HH, .ref IM, .ref SG, .ref P, .ref ca]), (h, ob 2 [.ref q, .int (nI n), .int (nI (clr ww j))]), (q, aI g 32 f), (HH, ob 0 [.ref rg, .int (nI (nxt k)), .int (nI (min (z + 1) 6))]), (rg, aO g 6 ro), (a0, ob 2 [.ref b0, .int (nI (updA ns k n 0)), .int (nI (updA wbs k ww 0))]), (b0, aI g 32 (updA fs k f9 0)), (a1, ob 2 [.ref b1, .int (nI (updA ns k n 1)), .int (nI (updA wbs k ww 1))]), (b1, aI g 32 (updA fs k f9 1)), (a2, ob 2 [.ref b2, .int (nI (updA ns k n 2)), .int (nI (updA wbs k ww 2))]), (b2, aI g 32 (updA fs k f9 2)), (a3, ob 2 [.ref b3, .int (nI (updA ns k n 3)), .int (nI (updA wbs k ww 3))]), (b3, aI g 32 (updA fs k f9 3)), (a4, ob 2 [.ref b4, .int (nI (updA ns k n 4)), .int (nI (updA wbs k ww 4))]), (b4, aI g 32 (updA fs k f9 4)), (a5, ob 2 [.ref b5, .int (nI (updA ns k n 5)), .int (nI (updA wbs k ww 5))]), (b5, aI g 32 (updA fs k f9 5))]) rfl (by decide) (by decide) (fun r0 w0 H locs hq S => ?_)
      obtain ⟨rfl, rfl⟩ := hq
      have S : ST g A ss H locs [(O, ob 6 [.ref h, .ref dh, .ref th, .ref HH, .ref IM, .ref SG, .ref P, .ref ca]), (h, ob 2 [.ref q, .int (nI n), .int (nI (clr ww j))]), (q, aI g 32 f), (HH, ob 0 [.ref rg, .int (nI (nxt k)), .int (nI (min (z + 1) 6))]), (rg, aO g 6 ro), (a0, ob 2 [.ref b0, .int (nI (updA ns k n 0)), .int (nI (updA wbs k ww 0))]), (b0, aI g 32 (updA fs k f9 0)), (a1, ob 2 [.ref b1, .int (nI (updA ns k n 1)), .int (nI (updA wbs k ww 1))]), (b1, aI g 32 (updA fs k f9 1)), (a2, ob 2 [.ref b2, .int (nI (updA ns k n 2)), .int (nI (updA wbs k ww 2))]), (b2, aI g 32 (updA fs k f9 2)), (a3, ob 2 [.ref b3, .int (nI (updA ns k n 3)), .int (nI (updA wbs k ww 3))]), (b3, aI g 32 (updA fs k f9 3)), (a4, ob 2 [.ref b4, .int (nI (updA ns k n 4)), .int (nI (updA wbs k ww 4))]), (b4, aI g 32 (updA fs k f9 4)), (a5, ob 2 [.ref b5, .int (nI (updA ns k n 5)), .int (nI (updA wbs k ww 5))]), (b5, aI g 32 (updA fs k f9 5))] := S
      exact ret_I C S hr dX6_breaks_65 ⟨(by first | rfl | simp only [if_pos c_1, if_pos c_2]), f9, (hf9), (by first | rfl | simp only [if_pos c_1, if_pos c_2])⟩
    · -- 21 F
      rw [hbit] at c_2; cases c_2
  · -- 8 F
    rw [hex] at c_1; cases c_1

theorem inX6_mendsb_X6 : ∀ w ∈ wsX60, w ∈ wsX6_mends := by decide +kernel
set_option maxRecDepth 100000 in
set_option maxHeartbeats 4000000 in
theorem kX6_mendsb (l : Launch) (g : GG) (O : Nat) (dh : Nat) (th : Nat) (HH : Nat) (IM : Nat) (SG : Nat) (ca : Nat) (h : Nat) (P : Nat) (q : Nat) (f : Nat → Int32) (n : Nat) (ww : Nat) (x : Int32) (hn : n ≤ 8) (hbad : okB x n = false) : KI l g yX6_mends wsX6_mends 1 21 [.ref O, .int x] [(O, ob 6 [.ref h, .ref dh, .ref th, .ref HH, .ref IM, .ref SG, .ref P, .ref ca]), (h, ob 2 [.ref q, .int (nI n), .int (nI ww)]), (q, aI g 32 f)] (fun (r : Int32) (w' : va_W) => r = (-1) ∧ w' = [(O, ob 6 [.ref h, .ref dh, .ref th, .ref HH, .ref IM, .ref SG, .ref P, .ref ca]), (h, ob 2 [.ref q, .int (nI n), .int (nI ww)]), (q, aI g 32 f)]) := by
  refine kI_of (cc := cX6_mends) (maxL := 2) (by decide) rfl (Nat.le_of_ble_eq_true rfl) ?_
  intro pp ee ss mm bel mth cd A ls C S hr hl
  obtain ⟨hx, hb, hml, hown, hts⟩ := id C.1
  have hl : lv_has ls 2 [(0, .ref O), (1, .int x)] := hl
  obtain ⟨H, hH⟩ : ∃ H, H = ss.heap := ⟨_, rfl⟩
  obtain ⟨locs, hL0⟩ : ∃ L : List Loc, L = [] := ⟨_, rfl⟩
  rw [← hH, ← hL0] at S ⊢
  refine lv_aload_n hx hb dX6_mends_0 rfl (lv_at hl 0 rfl) ?_
  refine top_get C S inX6_mendsb_X6 rfl 0 rfl 0 (by decide) (by decide +kernel) rfl rfl dX6_mends_1 ?_
  refine lv_iload_n hx hb dX6_mends_4 rfl (lv_at hl 1 rfl) ?_
  refine after_I (wc := [(h, ob 2 [.ref q, .int (nI n), .int (nI ww)]), (q, aI g 32 f)]) (y := yX2_exists) C S (va_runV (As := [.int x]) (rest := []) C.1 (kX2_exists l g h q f n ww x H.size) (cwV 1 hts gX6_mends_X2_exists rfl rfl rfl (by decide +kernel) ⟨Nat.le_of_ble_eq_true rfl, Nat.le_of_ble_eq_true rfl⟩) (preV_at C S 1 rfl rfl [1, 2] rfl (by decide)) rfl rfl hl.1 rfl (lv_room (Nat.le_of_ble_eq_true rfl)) dX6_mends_5 ⟨Nat.le_of_ble_eq_true rfl, Nat.le_of_ble_eq_true rfl⟩) [1, 2] [0] rfl (wr := [(O, ob 6 [.ref h, .ref dh, .ref th, .ref HH, .ref IM, .ref SG, .ref P, .ref ca])]) rfl (by decide) (by decide) (fun r0 w0 H locs hq S => ?_)
  obtain ⟨rfl, rfl⟩ := hq
  have S : ST g A ss H locs [(O, ob 6 [.ref h, .ref dh, .ref th, .ref HH, .ref IM, .ref SG, .ref P, .ref ca]), (h, ob 2 [.ref q, .int (nI n), .int (nI ww)]), (q, aI g 32 f)] := S
  refine br_neB (tgt := 13) hx hb dX6_mends_8 (by decide) (fun c_1 => ?_) (fun c_1 => ?_)
  · -- 8 T
    rw [exists_eq hn, hbad] at c_1; cases c_1
  · -- 8 F
    refine lv_iconst (v := (-1)) hx hb dX6_mends_11 (by decide) ?_
    exact ret_I C S hr dX6_mends_12 ⟨(by first | rfl | simp only [if_neg (Bool.eq_false_iff.mp c_1)]), (by first | rfl | simp only [if_neg (Bool.eq_false_iff.mp c_1)])⟩

theorem inX6_mendss_X6 : ∀ w ∈ wsX60, w ∈ wsX6_mends := by decide +kernel
set_option maxRecDepth 100000 in
set_option maxHeartbeats 4000000 in
theorem kX6_mendss (l : Launch) (g : GG) (O : Nat) (dh : Nat) (th : Nat) (HH : Nat) (IM : Nat) (SG : Nat) (ca : Nat) (h : Nat) (P : Nat) (q : Nat) (f : Nat → Int32) (n : Nat) (ww : Nat) (j : Nat) (hn : n ≤ 8) (hww : ww < 256) (hj : j < n) (hbit : ww.testBit j = true) : KI l g yX6_mends wsX6_mends 2 42 [.ref O, .int (nI j)] [(O, ob 6 [.ref h, .ref dh, .ref th, .ref HH, .ref IM, .ref SG, .ref P, .ref ca]), (h, ob 2 [.ref q, .int (nI n), .int (nI ww)]), (q, aI g 32 f)] (fun (r : Int32) (w' : va_W) => r = (-2) ∧ w' = [(O, ob 6 [.ref h, .ref dh, .ref th, .ref HH, .ref IM, .ref SG, .ref P, .ref ca]), (h, ob 2 [.ref q, .int (nI n), .int (nI ww)]), (q, aI g 32 f)]) := by
  refine kI_of (cc := cX6_mends) (maxL := 2) (by decide) rfl (Nat.le_of_ble_eq_true rfl) ?_
  intro pp ee ss mm bel mth cd A ls C S hr hl
  obtain ⟨hx, hb, hml, hown, hts⟩ := id C.1
  have hl : lv_has ls 2 [(0, .ref O), (1, .int (nI j))] := hl
  obtain ⟨H, hH⟩ : ∃ H, H = ss.heap := ⟨_, rfl⟩
  obtain ⟨locs, hL0⟩ : ∃ L : List Loc, L = [] := ⟨_, rfl⟩
  rw [← hH, ← hL0] at S ⊢
  have hex : sX2_exists n (nI j) = true := by rw [exists_eq hn]; exact ok_nI hj (by omega)
  refine lv_aload_n hx hb dX6_mends_0 rfl (lv_at hl 0 rfl) ?_
  refine top_get C S inX6_mendss_X6 rfl 0 rfl 0 (by decide) (by decide +kernel) rfl rfl dX6_mends_1 ?_
  refine lv_iload_n hx hb dX6_mends_4 rfl (lv_at hl 1 rfl) ?_
  refine after_I (wc := [(h, ob 2 [.ref q, .int (nI n), .int (nI ww)]), (q, aI g 32 f)]) (y := yX2_exists) C S (va_runV (As := [.int (nI j)]) (rest := []) C.1 (kX2_exists l g h q f n ww (nI j) H.size) (cwV 1 hts gX6_mends_X2_exists rfl rfl rfl (by decide +kernel) ⟨Nat.le_of_ble_eq_true rfl, Nat.le_of_ble_eq_true rfl⟩) (preV_at C S 1 rfl rfl [1, 2] rfl (by decide)) rfl rfl hl.1 rfl (lv_room (Nat.le_of_ble_eq_true rfl)) dX6_mends_5 ⟨Nat.le_of_ble_eq_true rfl, Nat.le_of_ble_eq_true rfl⟩) [1, 2] [0] rfl (wr := [(O, ob 6 [.ref h, .ref dh, .ref th, .ref HH, .ref IM, .ref SG, .ref P, .ref ca])]) rfl (by decide) (by decide) (fun r0 w0 H locs hq S => ?_)
  obtain ⟨rfl, rfl⟩ := hq
  have S : ST g A ss H locs [(O, ob 6 [.ref h, .ref dh, .ref th, .ref HH, .ref IM, .ref SG, .ref P, .ref ca]), (h, ob 2 [.ref q, .int (nI n), .int (nI ww)]), (q, aI g 32 f)] := S
  refine br_neB (tgt := 13) hx hb dX6_mends_8 (by decide) (fun c_1 => ?_) (fun c_1 => ?_)
  · -- 8 T
    refine lv_aload_n hx hb dX6_mends_13 rfl (lv_at hl 0 rfl) ?_
    refine top_get C S inX6_mendss_X6 rfl 0 rfl 0 (by decide) (by decide +kernel) rfl rfl dX6_mends_14 ?_
    refine lv_iload_n hx hb dX6_mends_17 rfl (lv_at hl 1 rfl) ?_
    refine after_I (wc := [(h, ob 2 [.ref q, .int (nI n), .int (nI ww)]), (q, aI g 32 f)]) (y := yX2_isWhole) C S (va_runV (As := [.int (nI j)]) (rest := []) C.1 (kX2_isWhole l g h q f n ww j (by first | assumption | omega) (by first | assumption | omega) H.size) (cwV 1 hts gX6_mends_X2_isWhole rfl rfl rfl (by decide +kernel) ⟨Nat.le_of_ble_eq_true rfl, Nat.le_of_ble_eq_true rfl⟩) (preV_at C S 1 rfl rfl [1, 2] rfl (by decide)) rfl rfl hl.1 rfl (lv_room (Nat.le_of_ble_eq_true rfl)) dX6_mends_18 ⟨Nat.le_of_ble_eq_true rfl, Nat.le_of_ble_eq_true rfl⟩) [1, 2] [0] rfl (wr := [(O, ob 6 [.ref h, .ref dh, .ref th, .ref HH, .ref IM, .ref SG, .ref P, .ref ca])]) rfl (by decide) (by decide) (fun r0 w0 H locs hq S => ?_)
    obtain ⟨rfl, rfl⟩ := hq
    have S : ST g A ss H locs [(O, ob 6 [.ref h, .ref dh, .ref th, .ref HH, .ref IM, .ref SG, .ref P, .ref ca]), (h, ob 2 [.ref q, .int (nI n), .int (nI ww)]), (q, aI g 32 f)] := S
    refine br_eqB (tgt := 27) hx hb dX6_mends_21 (by decide) (fun c_2 => ?_) (fun c_2 => ?_)
    · -- 21 T
      rw [hbit] at c_2; cases c_2
    · -- 21 F
      refine lv_bipush (v := (-2)) hx hb dX6_mends_24 (by decide) ?_
      exact ret_I C S hr dX6_mends_26 ⟨(by first | rfl | simp only [if_pos c_1, if_pos c_2]), (by first | rfl | simp only [if_pos c_1, if_pos c_2])⟩
  · -- 8 F
    rw [hex] at c_1; cases c_1

theorem inX6_mendsg_X2 : ∀ w ∈ wsX20, w ∈ wsX6_mends := by decide +kernel
theorem inX6_mendsg_X6 : ∀ w ∈ wsX60, w ∈ wsX6_mends := by decide +kernel
set_option maxRecDepth 100000 in
set_option maxHeartbeats 4000000 in
theorem kX6_mendsg (l : Launch) (g : GG) (O : Nat) (dh : Nat) (th : Nat) (HH : Nat) (IM : Nat) (SG : Nat) (ca : Nat) (h : Nat) (P : Nat) (q : Nat) (f : Nat → Int32) (n : Nat) (ww : Nat) (rg : Nat) (ro : Nat → Option Nat) (a0 : Nat) (b0 : Nat) (a1 : Nat) (b1 : Nat) (a2 : Nat) (b2 : Nat) (a3 : Nat) (b3 : Nat) (a4 : Nat) (b4 : Nat) (a5 : Nat) (b5 : Nat) (fs : Nat → Nat → Int32) (ns : Nat → Nat) (wbs : Nat → Nat) (k : Nat) (z : Nat) (j : Nat) (hn : n ≤ 8) (hww : ww < 256) (hj : j < n) (hbit : ww.testBit j = false) (hro : ro 0 = some a0 ∧ ro 1 = some a1 ∧ ro 2 = some a2 ∧ ro 3 = some a3 ∧ ro 4 = some a4 ∧ ro 5 = some a5) (hk : k < 6) (hz : z ≤ 6) : KI l g yX6_mends wsX6_mends 3 106 [.ref O, .int (nI j)] [(O, ob 6 [.ref h, .ref dh, .ref th, .ref HH, .ref IM, .ref SG, .ref P, .ref ca]), (h, ob 2 [.ref q, .int (nI n), .int (nI ww)]), (q, aI g 32 f), (HH, ob 0 [.ref rg, .int (nI k), .int (nI z)]), (rg, aO g 6 ro), (a0, ob 2 [.ref b0, .int (nI (ns 0)), .int (nI (wbs 0))]), (b0, aI g 32 (fs 0)), (a1, ob 2 [.ref b1, .int (nI (ns 1)), .int (nI (wbs 1))]), (b1, aI g 32 (fs 1)), (a2, ob 2 [.ref b2, .int (nI (ns 2)), .int (nI (wbs 2))]), (b2, aI g 32 (fs 2)), (a3, ob 2 [.ref b3, .int (nI (ns 3)), .int (nI (wbs 3))]), (b3, aI g 32 (fs 3)), (a4, ob 2 [.ref b4, .int (nI (ns 4)), .int (nI (wbs 4))]), (b4, aI g 32 (fs 4)), (a5, ob 2 [.ref b5, .int (nI (ns 5)), .int (nI (wbs 5))]), (b5, aI g 32 (fs 5))] (fun (r : Int32) (w' : va_W) => r = (nI (pop (ww ||| 2 ^ j))) ∧ ∃ (f' : Nat → Int32), (∀ j, j < 32 → f' j = f j) ∧ w' = [(O, ob 6 [.ref h, .ref dh, .ref th, .ref HH, .ref IM, .ref SG, .ref P, .ref ca]), (h, ob 2 [.ref q, .int (nI n), .int (nI (ww ||| 2 ^ j))]), (q, aI g 32 f), (HH, ob 0 [.ref rg, .int (nI (nxt k)), .int (nI (min (z + 1) 6))]), (rg, aO g 6 ro), (a0, ob 2 [.ref b0, .int (nI (updA ns k n 0)), .int (nI (updA wbs k ww 0))]), (b0, aI g 32 (updA fs k f' 0)), (a1, ob 2 [.ref b1, .int (nI (updA ns k n 1)), .int (nI (updA wbs k ww 1))]), (b1, aI g 32 (updA fs k f' 1)), (a2, ob 2 [.ref b2, .int (nI (updA ns k n 2)), .int (nI (updA wbs k ww 2))]), (b2, aI g 32 (updA fs k f' 2)), (a3, ob 2 [.ref b3, .int (nI (updA ns k n 3)), .int (nI (updA wbs k ww 3))]), (b3, aI g 32 (updA fs k f' 3)), (a4, ob 2 [.ref b4, .int (nI (updA ns k n 4)), .int (nI (updA wbs k ww 4))]), (b4, aI g 32 (updA fs k f' 4)), (a5, ob 2 [.ref b5, .int (nI (updA ns k n 5)), .int (nI (updA wbs k ww 5))]), (b5, aI g 32 (updA fs k f' 5))]) := by
  refine kI_of (cc := cX6_mends) (maxL := 2) (by decide) rfl (Nat.le_of_ble_eq_true rfl) ?_
  intro pp ee ss mm bel mth cd A ls C S hr hl
  obtain ⟨hx, hb, hml, hown, hts⟩ := id C.1
  have hl : lv_has ls 2 [(0, .ref O), (1, .int (nI j))] := hl
  obtain ⟨H, hH⟩ : ∃ H, H = ss.heap := ⟨_, rfl⟩
  obtain ⟨locs, hL0⟩ : ∃ L : List Loc, L = [] := ⟨_, rfl⟩
  rw [← hH, ← hL0] at S ⊢
  have hex : sX2_exists n (nI j) = true := by rw [exists_eq hn]; exact ok_nI hj (by omega)
  have hnw : ww ||| 2 ^ j < 256 := Nat.or_lt_two_pow (n := 8) hww (Nat.pow_lt_pow_right (by decide) (by omega))
  refine lv_aload_n hx hb dX6_mends_0 rfl (lv_at hl 0 rfl) ?_
  refine top_get C S inX6_mendsg_X6 rfl 0 rfl 0 (by decide) (by decide +kernel) rfl rfl dX6_mends_1 ?_
  refine lv_iload_n hx hb dX6_mends_4 rfl (lv_at hl 1 rfl) ?_
  refine after_I (wc := [(h, ob 2 [.ref q, .int (nI n), .int (nI ww)]), (q, aI g 32 f)]) (y := yX2_exists) C S (va_runV (As := [.int (nI j)]) (rest := []) C.1 (kX2_exists l g h q f n ww (nI j) H.size) (cwV 1 hts gX6_mends_X2_exists rfl rfl rfl (by decide +kernel) ⟨Nat.le_of_ble_eq_true rfl, Nat.le_of_ble_eq_true rfl⟩) (preV_at C S 1 rfl rfl [1, 2] rfl (by decide)) rfl rfl hl.1 rfl (lv_room (Nat.le_of_ble_eq_true rfl)) dX6_mends_5 ⟨Nat.le_of_ble_eq_true rfl, Nat.le_of_ble_eq_true rfl⟩) [1, 2] [0, 3, 4, 5, 6, 7, 8, 9, 10, 11, 12, 13, 14, 15, 16] rfl (wr := [(O, ob 6 [.ref h, .ref dh, .ref th, .ref HH, .ref IM, .ref SG, .ref P, .ref ca]), (HH, ob 0 [.ref rg, .int (nI k), .int (nI z)]), (rg, aO g 6 ro), (a0, ob 2 [.ref b0, .int (nI (ns 0)), .int (nI (wbs 0))]), (b0, aI g 32 (fs 0)), (a1, ob 2 [.ref b1, .int (nI (ns 1)), .int (nI (wbs 1))]), (b1, aI g 32 (fs 1)), (a2, ob 2 [.ref b2, .int (nI (ns 2)), .int (nI (wbs 2))]), (b2, aI g 32 (fs 2)), (a3, ob 2 [.ref b3, .int (nI (ns 3)), .int (nI (wbs 3))]), (b3, aI g 32 (fs 3)), (a4, ob 2 [.ref b4, .int (nI (ns 4)), .int (nI (wbs 4))]), (b4, aI g 32 (fs 4)), (a5, ob 2 [.ref b5, .int (nI (ns 5)), .int (nI (wbs 5))]), (b5, aI g 32 (fs 5))]) rfl (by decide) (by decide) (fun r0 w0 H locs hq S => ?_)
  obtain ⟨rfl, rfl⟩ := hq
  have S : ST g A ss H locs [(O, ob 6 [.ref h, .ref dh, .ref th, .ref HH, .ref IM, .ref SG, .ref P, .ref ca]), (h, ob 2 [.ref q, .int (nI n), .int (nI ww)]), (q, aI g 32 f), (HH, ob 0 [.ref rg, .int (nI k), .int (nI z)]), (rg, aO g 6 ro), (a0, ob 2 [.ref b0, .int (nI (ns 0)), .int (nI (wbs 0))]), (b0, aI g 32 (fs 0)), (a1, ob 2 [.ref b1, .int (nI (ns 1)), .int (nI (wbs 1))]), (b1, aI g 32 (fs 1)), (a2, ob 2 [.ref b2, .int (nI (ns 2)), .int (nI (wbs 2))]), (b2, aI g 32 (fs 2)), (a3, ob 2 [.ref b3, .int (nI (ns 3)), .int (nI (wbs 3))]), (b3, aI g 32 (fs 3)), (a4, ob 2 [.ref b4, .int (nI (ns 4)), .int (nI (wbs 4))]), (b4, aI g 32 (fs 4)), (a5, ob 2 [.ref b5, .int (nI (ns 5)), .int (nI (wbs 5))]), (b5, aI g 32 (fs 5))] := ST.sub S [0, 15, 16, 1, 2, 3, 4, 5, 6, 7, 8, 9, 10, 11, 12, 13, 14] (by decide) rfl
  refine br_neB (tgt := 13) hx hb dX6_mends_8 (by decide) (fun c_1 => ?_) (fun c_1 => ?_)
  · -- 8 T
    refine lv_aload_n hx hb dX6_mends_13 rfl (lv_at hl 0 rfl) ?_
    refine top_get C S inX6_mendsg_X6 rfl 0 rfl 0 (by decide) (by decide +kernel) rfl rfl dX6_mends_14 ?_
    refine lv_iload_n hx hb dX6_mends_17 rfl (lv_at hl 1 rfl) ?_
    refine after_I (wc := [(h, ob 2 [.ref q, .int (nI n), .int (nI ww)]), (q, aI g 32 f)]) (y := yX2_isWhole) C S (va_runV (As := [.int (nI j)]) (rest := []) C.1 (kX2_isWhole l g h q f n ww j (by first | assumption | omega) (by first | assumption | omega) H.size) (cwV 1 hts gX6_mends_X2_isWhole rfl rfl rfl (by decide +kernel) ⟨Nat.le_of_ble_eq_true rfl, Nat.le_of_ble_eq_true rfl⟩) (preV_at C S 1 rfl rfl [1, 2] rfl (by decide)) rfl rfl hl.1 rfl (lv_room (Nat.le_of_ble_eq_true rfl)) dX6_mends_18 ⟨Nat.le_of_ble_eq_true rfl, Nat.le_of_ble_eq_true rfl⟩) [1, 2] [0, 3, 4, 5, 6, 7, 8, 9, 10, 11, 12, 13, 14, 15, 16] rfl (wr := [(O, ob 6 [.ref h, .ref dh, .ref th, .ref HH, .ref IM, .ref SG, .ref P, .ref ca]), (HH, ob 0 [.ref rg, .int (nI k), .int (nI z)]), (rg, aO g 6 ro), (a0, ob 2 [.ref b0, .int (nI (ns 0)), .int (nI (wbs 0))]), (b0, aI g 32 (fs 0)), (a1, ob 2 [.ref b1, .int (nI (ns 1)), .int (nI (wbs 1))]), (b1, aI g 32 (fs 1)), (a2, ob 2 [.ref b2, .int (nI (ns 2)), .int (nI (wbs 2))]), (b2, aI g 32 (fs 2)), (a3, ob 2 [.ref b3, .int (nI (ns 3)), .int (nI (wbs 3))]), (b3, aI g 32 (fs 3)), (a4, ob 2 [.ref b4, .int (nI (ns 4)), .int (nI (wbs 4))]), (b4, aI g 32 (fs 4)), (a5, ob 2 [.ref b5, .int (nI (ns 5)), .int (nI (wbs 5))]), (b5, aI g 32 (fs 5))]) rfl (by decide) (by decide) (fun r0 w0 H locs hq S => ?_)
    obtain ⟨rfl, rfl⟩ := hq
    have S : ST g A ss H locs [(O, ob 6 [.ref h, .ref dh, .ref th, .ref HH, .ref IM, .ref SG, .ref P, .ref ca]), (h, ob 2 [.ref q, .int (nI n), .int (nI ww)]), (q, aI g 32 f), (HH, ob 0 [.ref rg, .int (nI k), .int (nI z)]), (rg, aO g 6 ro), (a0, ob 2 [.ref b0, .int (nI (ns 0)), .int (nI (wbs 0))]), (b0, aI g 32 (fs 0)), (a1, ob 2 [.ref b1, .int (nI (ns 1)), .int (nI (wbs 1))]), (b1, aI g 32 (fs 1)), (a2, ob 2 [.ref b2, .int (nI (ns 2)), .int (nI (wbs 2))]), (b2, aI g 32 (fs 2)), (a3, ob 2 [.ref b3, .int (nI (ns 3)), .int (nI (wbs 3))]), (b3, aI g 32 (fs 3)), (a4, ob 2 [.ref b4, .int (nI (ns 4)), .int (nI (wbs 4))]), (b4, aI g 32 (fs 4)), (a5, ob 2 [.ref b5, .int (nI (ns 5)), .int (nI (wbs 5))]), (b5, aI g 32 (fs 5))] := ST.sub S [0, 15, 16, 1, 2, 3, 4, 5, 6, 7, 8, 9, 10, 11, 12, 13, 14] (by decide) rfl
    refine br_eqB (tgt := 27) hx hb dX6_mends_21 (by decide) (fun c_2 => ?_) (fun c_2 => ?_)
    · -- 21 T
      refine lv_aload_n hx hb dX6_mends_27 rfl (lv_at hl 0 rfl) ?_
      refine top_get C S inX6_mendsg_X6 rfl 0 rfl 3 (by decide) (by decide +kernel) rfl rfl dX6_mends_28 ?_
      refine lv_aload_n hx hb dX6_mends_31 rfl (lv_at hl 0 rfl) ?_
      refine top_get C S inX6_mendsg_X6 rfl 0 rfl 0 (by decide) (by decide +kernel) rfl rfl dX6_mends_32 ?_
      refine after_V (wc := [(HH, ob 0 [.ref rg, .int (nI k), .int (nI z)]), (rg, aO g 6 ro), (a0, ob 2 [.ref b0, .int (nI (ns 0)), .int (nI (wbs 0))]), (b0, aI g 32 (fs 0)), (a1, ob 2 [.ref b1, .int (nI (ns 1)), .int (nI (wbs 1))]), (b1, aI g 32 (fs 1)), (a2, ob 2 [.ref b2, .int (nI (ns 2)), .int (nI (wbs 2))]), (b2, aI g 32 (fs 2)), (a3, ob 2 [.ref b3, .int (nI (ns 3)), .int (nI (wbs 3))]), (b3, aI g 32 (fs 3)), (a4, ob 2 [.ref b4, .int (nI (ns 4)), .int (nI (wbs 4))]), (b4, aI g 32 (fs 4)), (a5, ob 2 [.ref b5, .int (nI (ns 5)), .int (nI (wbs 5))]), (b5, aI g 32 (fs 5)), (h, ob 2 [.ref q, .int (nI n), .int (nI ww)]), (q, aI g 32 f)]) (y := yX0_push) C S (va_runV (As := [.ref h]) (rest := []) C.1 (kX0_push l g HH rg ro a0 b0 a1 b1 a2 b2 a3 b3 a4 b4 a5 b5 fs ns wbs k z h q f n ww (by first | assumption | omega) (by first | assumption | omega) (by first | assumption | omega) H.size) (cwV 1 hts gX6_mends_X0_push rfl rfl rfl (by decide +kernel) ⟨Nat.le_of_ble_eq_true rfl, Nat.le_of_ble_eq_true rfl⟩) (preV_at C S 3 rfl rfl [3, 4, 5, 6, 7, 8, 9, 10, 11, 12, 13, 14, 15, 16, 1, 2] rfl (by decide)) rfl rfl hl.1 rfl (lv_room (Nat.le_of_ble_eq_true rfl)) dX6_mends_35 ⟨Nat.le_of_ble_eq_true rfl, Nat.le_of_ble_eq_true rfl⟩) [3, 4, 5, 6, 7, 8, 9, 10, 11, 12, 13, 14, 15, 16, 1, 2] [0] rfl (wr := [(O, ob 6 [.ref h, .ref dh, .ref th, .ref HH, .ref IM, .ref SG, .ref P, .ref ca])]) rfl (by decide) (by decide) (fun w0 H locs hq S => ?_)
      obtain ⟨f9, hf9, rfl⟩ := hq
      have S : ST g A ss H locs [(O, ob 6 [.ref h, .ref dh, .ref th, .ref HH, .ref IM, .ref SG, .ref P, .ref ca]), (h, ob 2 [.ref q, .int (nI n), .int (nI ww)]), (q, aI g 32 f), (HH, ob 0 [.ref rg, .int (nI (nxt k)), .int (nI (min (z + 1) 6))]), (rg, aO g 6 ro), (a0, ob 2 [.ref b0, .int (nI (updA ns k n 0)), .int (nI (updA wbs k ww 0))]), (b0, aI g 32 (updA fs k f9 0)), (a1, ob 2 [.ref b1, .int (nI (updA ns k n 1)), .int (nI (updA wbs k ww 1))]), (b1, aI g 32 (updA fs k f9 1)), (a2, ob 2 [.ref b2, .int (nI (updA ns k n 2)), .int (nI (updA wbs k ww 2))]), (b2, aI g 32 (updA fs k f9 2)), (a3, ob 2 [.ref b3, .int (nI (updA ns k n 3)), .int (nI (updA wbs k ww 3))]), (b3, aI g 32 (updA fs k f9 3)), (a4, ob 2 [.ref b4, .int (nI (updA ns k n 4)), .int (nI (updA wbs k ww 4))]), (b4, aI g 32 (updA fs k f9 4)), (a5, ob 2 [.ref b5, .int (nI (updA ns k n 5)), .int (nI (updA wbs k ww 5))]), (b5, aI g 32 (updA fs k f9 5))] := ST.sub S [0, 15, 16, 1, 2, 3, 4, 5, 6, 7, 8, 9, 10, 11, 12, 13, 14] (by decide) rfl
      refine lv_aload_n hx hb dX6_mends_38 rfl (lv_at hl 0 rfl) ?_
      refine top_get C S inX6_mendsg_X6 rfl 0 rfl 0 (by decide) (by decide +kernel) rfl rfl dX6_mends_39 ?_
      refine lv_dup hx hb dX6_mends_42 rfl ?_
      refine top_getN C S inX6_mendsg_X2 rfl 1 rfl 2 (by decide) (by decide +kernel) rfl dX6_mends_43 ?_
      refine lv_iconst (v := 1) hx hb dX6_mends_46 (by decide) ?_
      refine lv_iload_n hx hb dX6_mends_47 rfl (lv_at hl 1 rfl) ?_
      refine lv_ishl hx hb dX6_mends_48 ?_
      refine top_eq (y := nI (2 ^ j)) (shl_1 (by omega)) ?_
      refine lv_ior hx hb dX6_mends_49 ?_
      refine top_eq (y := nI (ww ||| 2 ^ j)) (fa_or _ _) ?_
      refine top_putN (ty := .int) C S inX6_mendsg_X2 tyX2 tyX2_ok nmX2 rfl 1 rfl 2 (by decide) (by decide +kernel) rfl (tyX2_ok 2 (by decide)) rfl rfl (Nat.le_of_ble_eq_true rfl) dX6_mends_50 (fun H locs S => ?_)
      have S : ST g A ss H locs [(O, ob 6 [.ref h, .ref dh, .ref th, .ref HH, .ref IM, .ref SG, .ref P, .ref ca]), (h, ob 2 [.ref q, .int (nI n), .int (nI (ww ||| 2 ^ j))]), (q, aI g 32 f), (HH, ob 0 [.ref rg, .int (nI (nxt k)), .int (nI (min (z + 1) 6))]), (rg, aO g 6 ro), (a0, ob 2 [.ref b0, .int (nI (updA ns k n 0)), .int (nI (updA wbs k ww 0))]), (b0, aI g 32 (updA fs k f9 0)), (a1, ob 2 [.ref b1, .int (nI (updA ns k n 1)), .int (nI (updA wbs k ww 1))]), (b1, aI g 32 (updA fs k f9 1)), (a2, ob 2 [.ref b2, .int (nI (updA ns k n 2)), .int (nI (updA wbs k ww 2))]), (b2, aI g 32 (updA fs k f9 2)), (a3, ob 2 [.ref b3, .int (nI (updA ns k n 3)), .int (nI (updA wbs k ww 3))]), (b3, aI g 32 (updA fs k f9 3)), (a4, ob 2 [.ref b4, .int (nI (updA ns k n 4)), .int (nI (updA wbs k ww 4))]), (b4, aI g 32 (updA fs k f9 4)), (a5, ob 2 [.ref b5, .int (nI (updA ns k n 5)), .int (nI (updA wbs k ww 5))]), (b5, aI g 32 (updA fs k f9 5))] := S
      refine lv_aload_n hx hb dX6_mends_53 rfl (lv_at hl 0 rfl) ?_
      refine top_get C S inX6_mendsg_X6 rfl 0 rfl 0 (by decide) (by decide +kernel) rfl rfl dX6_mends_54 ?_
      refine top_getN C S inX6_mendsg_X2 rfl 1 rfl 2 (by decide) (by decide +kernel) rfl dX6_mends_57 ?_
      refine after_I (wc := []) (y := yJ6_bitCount_0f7a4) C S (va_runS (As := [.int (nI (ww ||| 2 ^ j))]) (rest := []) C.1 (kJ6_bitCount_0f7a4 l g (ww ||| 2 ^ j) (by first | assumption | omega) H.size) (va_cwS 1 hts gX6_mends_J6_bitCount_0f7a4 rfl rfl rfl (by decide +kernel) ⟨Nat.le_of_ble_eq_true rfl, Nat.le_of_ble_eq_true rfl⟩) (preS_at C S [] rfl (by decide)) rfl rfl hl.1 rfl (lv_room (Nat.le_of_ble_eq_true rfl)) dX6_mends_60 ⟨Nat.le_of_ble_eq_true rfl, Nat.le_of_ble_eq_true rfl⟩) [] [0, 1, 2, 3, 4, 5, 6, 7, 8, 9, 10, 11, 12, 13, 14, 15, 16] rfl (wr := [(O, ob 6 [.ref h, .ref dh, .ref th, .ref HH, .ref IM, .ref SG, .ref P, .ref ca]), (h, ob 2 [.ref q, .int (nI n), .int (nI (ww ||| 2 ^ j))]), (q, aI g 32 f), (HH, ob 0 [.ref rg, .int (nI (nxt k)), .int (nI (min (z + 1) 6))]), (rg, aO g 6 ro), (a0, ob 2 [.ref b0, .int (nI (updA ns k n 0)), .int (nI (updA wbs k ww 0))]), (b0, aI g 32 (updA fs k f9 0)), (a1, ob 2 [.ref b1, .int (nI (updA ns k n 1)), .int (nI (updA wbs k ww 1))]), (b1, aI g 32 (updA fs k f9 1)), (a2, ob 2 [.ref b2, .int (nI (updA ns k n 2)), .int (nI (updA wbs k ww 2))]), (b2, aI g 32 (updA fs k f9 2)), (a3, ob 2 [.ref b3, .int (nI (updA ns k n 3)), .int (nI (updA wbs k ww 3))]), (b3, aI g 32 (updA fs k f9 3)), (a4, ob 2 [.ref b4, .int (nI (updA ns k n 4)), .int (nI (updA wbs k ww 4))]), (b4, aI g 32 (updA fs k f9 4)), (a5, ob 2 [.ref b5, .int (nI (updA ns k n 5)), .int (nI (updA wbs k ww 5))]), (b5, aI g 32 (updA fs k f9 5))]) rfl (by decide) (by decide) (fun r0 w0 H locs hq S => ?_)
      obtain ⟨rfl, rfl⟩ := hq
      have S : ST g A ss H locs [(O, ob 6 [.ref h, .ref dh, .ref th, .ref HH, .ref IM, .ref SG, .ref P, .ref ca]), (h, ob 2 [.ref q, .int (nI n), .int (nI (ww ||| 2 ^ j))]), (q, aI g 32 f), (HH, ob 0 [.ref rg, .int (nI (nxt k)), .int (nI (min (z + 1) 6))]), (rg, aO g 6 ro), (a0, ob 2 [.ref b0, .int (nI (updA ns k n 0)), .int (nI (updA wbs k ww 0))]), (b0, aI g 32 (updA fs k f9 0)), (a1, ob 2 [.ref b1, .int (nI (updA ns k n 1)), .int (nI (updA wbs k ww 1))]), (b1, aI g 32 (updA fs k f9 1)), (a2, ob 2 [.ref b2, .int (nI (updA ns k n 2)), .int (nI (updA wbs k ww 2))]), (b2, aI g 32 (updA fs k f9 2)), (a3, ob 2 [.ref b3, .int (nI (updA ns k n 3)), .int (nI (updA wbs k ww 3))]), (b3, aI g 32 (updA fs k f9 3)), (a4, ob 2 [.ref b4, .int (nI (updA ns k n 4)), .int (nI (updA wbs k ww 4))]), (b4, aI g 32 (updA fs k f9 4)), (a5, ob 2 [.ref b5, .int (nI (updA ns k n 5)), .int (nI (updA wbs k ww 5))]), (b5, aI g 32 (updA fs k f9 5))] := S
      exact ret_I C S hr dX6_mends_63 ⟨(by first | rfl | simp only [if_pos c_1, if_neg (Bool.eq_false_iff.mp c_2)]), f9, (hf9), (by first | rfl | simp only [if_pos c_1, if_neg (Bool.eq_false_iff.mp c_2)])⟩
    · -- 21 F
      rw [hbit] at c_2; cases c_2
  · -- 8 F
    rw [hex] at c_1; cases c_1

theorem inX6_cambersb_X6 : ∀ w ∈ wsX60, w ∈ wsX6_cambers := by decide +kernel
set_option maxRecDepth 100000 in
set_option maxHeartbeats 4000000 in
theorem kX6_cambersb (l : Launch) (g : GG) (O : Nat) (dh : Nat) (th : Nat) (HH : Nat) (IM : Nat) (SG : Nat) (ca : Nat) (h : Nat) (P : Nat) (q : Nat) (f : Nat → Int32) (n : Nat) (ww : Nat) (x : Int32) (y : Int32) (hn : n ≤ 8) (hbad : okB x n = false) : KI l g yX6_cambers wsX6_cambers 1 21 [.ref O, .int x, .int y] [(O, ob 6 [.ref h, .ref dh, .ref th, .ref HH, .ref IM, .ref SG, .ref P, .ref ca]), (h, ob 2 [.ref q, .int (nI n), .int (nI ww)]), (q, aI g 32 f)] (fun (r : Int32) (w' : va_W) => r = (-1) ∧ w' = [(O, ob 6 [.ref h, .ref dh, .ref th, .ref HH, .ref IM, .ref SG, .ref P, .ref ca]), (h, ob 2 [.ref q, .int (nI n), .int (nI ww)]), (q, aI g 32 f)]) := by
  refine kI_of (cc := cX6_cambers) (maxL := 4) (by decide) rfl (Nat.le_of_ble_eq_true rfl) ?_
  intro pp ee ss mm bel mth cd A ls C S hr hl
  obtain ⟨hx, hb, hml, hown, hts⟩ := id C.1
  have hl : lv_has ls 4 [(0, .ref O), (1, .int x), (2, .int y)] := hl
  obtain ⟨H, hH⟩ : ∃ H, H = ss.heap := ⟨_, rfl⟩
  obtain ⟨locs, hL0⟩ : ∃ L : List Loc, L = [] := ⟨_, rfl⟩
  rw [← hH, ← hL0] at S ⊢
  refine lv_aload_n hx hb dX6_cambers_0 rfl (lv_at hl 0 rfl) ?_
  refine top_get C S inX6_cambersb_X6 rfl 0 rfl 0 (by decide) (by decide +kernel) rfl rfl dX6_cambers_1 ?_
  refine lv_iload_n hx hb dX6_cambers_4 rfl (lv_at hl 1 rfl) ?_
  refine after_I (wc := [(h, ob 2 [.ref q, .int (nI n), .int (nI ww)]), (q, aI g 32 f)]) (y := yX2_exists) C S (va_runV (As := [.int x]) (rest := []) C.1 (kX2_exists l g h q f n ww x H.size) (cwV 1 hts gX6_cambers_X2_exists rfl rfl rfl (by decide +kernel) ⟨Nat.le_of_ble_eq_true rfl, Nat.le_of_ble_eq_true rfl⟩) (preV_at C S 1 rfl rfl [1, 2] rfl (by decide)) rfl rfl hl.1 rfl (lv_room (Nat.le_of_ble_eq_true rfl)) dX6_cambers_5 ⟨Nat.le_of_ble_eq_true rfl, Nat.le_of_ble_eq_true rfl⟩) [1, 2] [0] rfl (wr := [(O, ob 6 [.ref h, .ref dh, .ref th, .ref HH, .ref IM, .ref SG, .ref P, .ref ca])]) rfl (by decide) (by decide) (fun r0 w0 H locs hq S => ?_)
  obtain ⟨rfl, rfl⟩ := hq
  have S : ST g A ss H locs [(O, ob 6 [.ref h, .ref dh, .ref th, .ref HH, .ref IM, .ref SG, .ref P, .ref ca]), (h, ob 2 [.ref q, .int (nI n), .int (nI ww)]), (q, aI g 32 f)] := S
  refine br_eqB (tgt := 29) hx hb dX6_cambers_8 (by decide) (fun c_1 => ?_) (fun c_1 => ?_)
  · -- 8 T
    refine lv_iconst (v := (-1)) hx hb dX6_cambers_29 (by decide) ?_
    exact ret_I C S hr dX6_cambers_30 ⟨(by first | rfl | simp only [if_neg (Bool.eq_false_iff.mp c_1)]), (by first | rfl | simp only [if_neg (Bool.eq_false_iff.mp c_1)])⟩
  · -- 8 F
    rw [exists_eq hn, hbad] at c_1; cases c_1

theorem inX6_cambersd_X6 : ∀ w ∈ wsX60, w ∈ wsX6_cambers := by decide +kernel
set_option maxRecDepth 100000 in
set_option maxHeartbeats 4000000 in
theorem kX6_cambersd (l : Launch) (g : GG) (O : Nat) (dh : Nat) (th : Nat) (HH : Nat) (IM : Nat) (SG : Nat) (ca : Nat) (h : Nat) (P : Nat) (q : Nat) (f : Nat → Int32) (n : Nat) (ww : Nat) (j : Nat) (y : Int32) (hn : n ≤ 8) (hj : j < n) (hbad : okB y 31 = false) : KI l g yX6_cambers wsX6_cambers 1 21 [.ref O, .int (nI j), .int y] [(O, ob 6 [.ref h, .ref dh, .ref th, .ref HH, .ref IM, .ref SG, .ref P, .ref ca]), (h, ob 2 [.ref q, .int (nI n), .int (nI ww)]), (q, aI g 32 f)] (fun (r : Int32) (w' : va_W) => r = (-1) ∧ w' = [(O, ob 6 [.ref h, .ref dh, .ref th, .ref HH, .ref IM, .ref SG, .ref P, .ref ca]), (h, ob 2 [.ref q, .int (nI n), .int (nI ww)]), (q, aI g 32 f)]) := by
  refine kI_of (cc := cX6_cambers) (maxL := 4) (by decide) rfl (Nat.le_of_ble_eq_true rfl) ?_
  intro pp ee ss mm bel mth cd A ls C S hr hl
  obtain ⟨hx, hb, hml, hown, hts⟩ := id C.1
  have hl : lv_has ls 4 [(0, .ref O), (1, .int (nI j)), (2, .int y)] := hl
  obtain ⟨H, hH⟩ : ∃ H, H = ss.heap := ⟨_, rfl⟩
  obtain ⟨locs, hL0⟩ : ∃ L : List Loc, L = [] := ⟨_, rfl⟩
  rw [← hH, ← hL0] at S ⊢
  have hex : sX2_exists n (nI j) = true := by rw [exists_eq hn]; exact ok_nI hj (by omega)
  refine lv_aload_n hx hb dX6_cambers_0 rfl (lv_at hl 0 rfl) ?_
  refine top_get C S inX6_cambersd_X6 rfl 0 rfl 0 (by decide) (by decide +kernel) rfl rfl dX6_cambers_1 ?_
  refine lv_iload_n hx hb dX6_cambers_4 rfl (lv_at hl 1 rfl) ?_
  refine after_I (wc := [(h, ob 2 [.ref q, .int (nI n), .int (nI ww)]), (q, aI g 32 f)]) (y := yX2_exists) C S (va_runV (As := [.int (nI j)]) (rest := []) C.1 (kX2_exists l g h q f n ww (nI j) H.size) (cwV 1 hts gX6_cambers_X2_exists rfl rfl rfl (by decide +kernel) ⟨Nat.le_of_ble_eq_true rfl, Nat.le_of_ble_eq_true rfl⟩) (preV_at C S 1 rfl rfl [1, 2] rfl (by decide)) rfl rfl hl.1 rfl (lv_room (Nat.le_of_ble_eq_true rfl)) dX6_cambers_5 ⟨Nat.le_of_ble_eq_true rfl, Nat.le_of_ble_eq_true rfl⟩) [1, 2] [0] rfl (wr := [(O, ob 6 [.ref h, .ref dh, .ref th, .ref HH, .ref IM, .ref SG, .ref P, .ref ca])]) rfl (by decide) (by decide) (fun r0 w0 H locs hq S => ?_)
  obtain ⟨rfl, rfl⟩ := hq
  have S : ST g A ss H locs [(O, ob 6 [.ref h, .ref dh, .ref th, .ref HH, .ref IM, .ref SG, .ref P, .ref ca]), (h, ob 2 [.ref q, .int (nI n), .int (nI ww)]), (q, aI g 32 f)] := S
  refine br_eqB (tgt := 29) hx hb dX6_cambers_8 (by decide) (fun c_1 => ?_) (fun c_1 => ?_)
  · -- 8 T
    rw [hex] at c_1; cases c_1
  · -- 8 F
    refine lv_iload_n hx hb dX6_cambers_11 rfl (lv_at hl 2 rfl) ?_
    obtain ⟨tLe, ztLe, htLe⟩ := C.2.2.1.2.1
    refine va_gets hx hb ztLe S.2.2 hown (hts (.fieldLink RX6 110 "StackedLeaves" "LEAST_NUMBER" "[I") (by decide +kernel)) (fun _ h9 => h9) dX6_cambers_12 ?_
    refine lv_iconst (v := 2) hx hb dX6_cambers_15 (by decide) ?_
    refine top_tab C S htLe (j := 2) rfl (by omega) dX6_cambers_16 ?_
    refine lv_icmp_lt (tgt := 29) hx hb dX6_cambers_17 (by decide) (fun c_2 => ?_) (fun c_2 => ?_)
    · -- 17 T
      refine lv_iconst (v := (-1)) hx hb dX6_cambers_29 (by decide) ?_
      exact ret_I C S hr dX6_cambers_30 ⟨(by first | rfl | simp only [if_pos c_1, if_pos c_2]), (by first | rfl | simp only [if_pos c_1, if_pos c_2])⟩
    · -- 17 F
      refine lv_iload_n hx hb dX6_cambers_20 rfl (lv_at hl 2 rfl) ?_
      obtain ⟨tMo, ztMo, htMo⟩ := C.2.2.1.2.2
      refine va_gets hx hb ztMo S.2.2 hown (hts (.fieldLink RX6 113 "StackedLeaves" "MOST_NUMBER" "[I") (by decide +kernel)) (fun _ h9 => h9) dX6_cambers_21 ?_
      refine lv_iconst (v := 2) hx hb dX6_cambers_24 (by decide) ?_
      refine top_tab C S htMo (j := 2) rfl (by omega) dX6_cambers_25 ?_
      refine lv_icmp_le (tgt := 31) hx hb dX6_cambers_26 (by decide) (fun c_3 => ?_) (fun c_3 => ?_)
      · -- 26 T
        exact absurd hbad (by obtain ⟨w9, h9, rfl⟩ := ok_le (k := 30) rfl (by decide) c_2 c_3; rw [ok_nI h9 (by decide)]; exact fun q9 => by cases q9)
      · -- 26 F
        refine lv_iconst (v := (-1)) hx hb dX6_cambers_29 (by decide) ?_
        exact ret_I C S hr dX6_cambers_30 ⟨(by first | rfl | simp only [if_pos c_1, if_neg c_2, if_neg c_3]), (by first | rfl | simp only [if_pos c_1, if_neg c_2, if_neg c_3])⟩

theorem inX6_camberss_X6 : ∀ w ∈ wsX60, w ∈ wsX6_cambers := by decide +kernel
set_option maxRecDepth 100000 in
set_option maxHeartbeats 4000000 in
theorem kX6_camberss (l : Launch) (g : GG) (O : Nat) (dh : Nat) (th : Nat) (HH : Nat) (IM : Nat) (SG : Nat) (ca : Nat) (h : Nat) (P : Nat) (q : Nat) (f : Nat → Int32) (n : Nat) (ww : Nat) (nu : Nat → Nat → Nat) (j : Nat) (d : Nat) (hn : n ≤ 8) (hf : ∀ a i, a < 4 → i < n → f (a * 8 + i) = nI (nu a i)) (hB : HB nu n) (hj : j < n) (hd : d < 31) (heq : nu 2 j = d) : KI l g yX6_cambers wsX6_cambers 1 22 [.ref O, .int (nI j), .int (nI d)] [(O, ob 6 [.ref h, .ref dh, .ref th, .ref HH, .ref IM, .ref SG, .ref P, .ref ca]), (h, ob 2 [.ref q, .int (nI n), .int (nI ww)]), (q, aI g 32 f)] (fun (r : Int32) (w' : va_W) => r = (-2) ∧ w' = [(O, ob 6 [.ref h, .ref dh, .ref th, .ref HH, .ref IM, .ref SG, .ref P, .ref ca]), (h, ob 2 [.ref q, .int (nI n), .int (nI ww)]), (q, aI g 32 f)]) := by
  refine kI_of (cc := cX6_cambers) (maxL := 4) (by decide) rfl (Nat.le_of_ble_eq_true rfl) ?_
  intro pp ee ss mm bel mth cd A ls C S hr hl
  obtain ⟨hx, hb, hml, hown, hts⟩ := id C.1
  have hl : lv_has ls 4 [(0, .ref O), (1, .int (nI j)), (2, .int (nI d))] := hl
  obtain ⟨H, hH⟩ : ∃ H, H = ss.heap := ⟨_, rfl⟩
  obtain ⟨locs, hL0⟩ : ∃ L : List Loc, L = [] := ⟨_, rfl⟩
  rw [← hH, ← hL0] at S ⊢
  have hex : sX2_exists n (nI j) = true := by rw [exists_eq hn]; exact ok_nI hj (by omega)
  have hcj := (hB j hj).2.2.1
  refine lv_aload_n hx hb dX6_cambers_0 rfl (lv_at hl 0 rfl) ?_
  refine top_get C S inX6_camberss_X6 rfl 0 rfl 0 (by decide) (by decide +kernel) rfl rfl dX6_cambers_1 ?_
  refine lv_iload_n hx hb dX6_cambers_4 rfl (lv_at hl 1 rfl) ?_
  refine after_I (wc := [(h, ob 2 [.ref q, .int (nI n), .int (nI ww)]), (q, aI g 32 f)]) (y := yX2_exists) C S (va_runV (As := [.int (nI j)]) (rest := []) C.1 (kX2_exists l g h q f n ww (nI j) H.size) (cwV 1 hts gX6_cambers_X2_exists rfl rfl rfl (by decide +kernel) ⟨Nat.le_of_ble_eq_true rfl, Nat.le_of_ble_eq_true rfl⟩) (preV_at C S 1 rfl rfl [1, 2] rfl (by decide)) rfl rfl hl.1 rfl (lv_room (Nat.le_of_ble_eq_true rfl)) dX6_cambers_5 ⟨Nat.le_of_ble_eq_true rfl, Nat.le_of_ble_eq_true rfl⟩) [1, 2] [0] rfl (wr := [(O, ob 6 [.ref h, .ref dh, .ref th, .ref HH, .ref IM, .ref SG, .ref P, .ref ca])]) rfl (by decide) (by decide) (fun r0 w0 H locs hq S => ?_)
  obtain ⟨rfl, rfl⟩ := hq
  have S : ST g A ss H locs [(O, ob 6 [.ref h, .ref dh, .ref th, .ref HH, .ref IM, .ref SG, .ref P, .ref ca]), (h, ob 2 [.ref q, .int (nI n), .int (nI ww)]), (q, aI g 32 f)] := S
  refine br_eqB (tgt := 29) hx hb dX6_cambers_8 (by decide) (fun c_1 => ?_) (fun c_1 => ?_)
  · -- 8 T
    rw [hex] at c_1; cases c_1
  · -- 8 F
    refine lv_iload_n hx hb dX6_cambers_11 rfl (lv_at hl 2 rfl) ?_
    obtain ⟨tLe, ztLe, htLe⟩ := C.2.2.1.2.1
    refine va_gets hx hb ztLe S.2.2 hown (hts (.fieldLink RX6 110 "StackedLeaves" "LEAST_NUMBER" "[I") (by decide +kernel)) (fun _ h9 => h9) dX6_cambers_12 ?_
    refine lv_iconst (v := 2) hx hb dX6_cambers_15 (by decide) ?_
    refine top_tab C S htLe (j := 2) rfl (by omega) dX6_cambers_16 ?_
    refine lv_icmp_lt (tgt := 29) hx hb dX6_cambers_17 (by decide) (fun c_2 => ?_) (fun c_2 => ?_)
    · -- 17 T
      exact absurd c_2 (nI_pos (by omega))
    · -- 17 F
      refine lv_iload_n hx hb dX6_cambers_20 rfl (lv_at hl 2 rfl) ?_
      obtain ⟨tMo, ztMo, htMo⟩ := C.2.2.1.2.2
      refine va_gets hx hb ztMo S.2.2 hown (hts (.fieldLink RX6 113 "StackedLeaves" "MOST_NUMBER" "[I") (by decide +kernel)) (fun _ h9 => h9) dX6_cambers_21 ?_
      refine lv_iconst (v := 2) hx hb dX6_cambers_24 (by decide) ?_
      refine top_tab C S htMo (j := 2) rfl (by omega) dX6_cambers_25 ?_
      refine lv_icmp_le (tgt := 31) hx hb dX6_cambers_26 (by decide) (fun c_3 => ?_) (fun c_3 => ?_)
      · -- 26 T
        refine lv_aload_n hx hb dX6_cambers_31 rfl (lv_at hl 0 rfl) ?_
        refine top_get C S inX6_camberss_X6 rfl 0 rfl 0 (by decide) (by decide +kernel) rfl rfl dX6_cambers_32 ?_
        refine lv_iconst (v := 2) hx hb dX6_cambers_35 (by decide) ?_
        refine lv_iload_n hx hb dX6_cambers_36 rfl (lv_at hl 1 rfl) ?_
        refine after_I (wc := [(h, ob 2 [.ref q, .int (nI n), .int (nI ww)]), (q, aI g 32 f)]) (y := yX2_number) C S (va_runV (As := [.int 2, .int (nI j)]) (rest := []) C.1 (kX2_number l g h q f n ww 2 j (by first | assumption | omega) (by first | assumption | omega) H.size) (cwV 2 hts gX6_cambers_X2_number rfl rfl rfl (by decide +kernel) ⟨Nat.le_of_ble_eq_true rfl, Nat.le_of_ble_eq_true rfl⟩) (preV_at C S 1 rfl rfl [1, 2] rfl (by decide)) rfl rfl hl.1 rfl (lv_room (Nat.le_of_ble_eq_true rfl)) dX6_cambers_37 ⟨Nat.le_of_ble_eq_true rfl, Nat.le_of_ble_eq_true rfl⟩) [1, 2] [0] rfl (wr := [(O, ob 6 [.ref h, .ref dh, .ref th, .ref HH, .ref IM, .ref SG, .ref P, .ref ca])]) rfl (by decide) (by decide) (fun r0 w0 H locs hq S => ?_)
        obtain ⟨rfl, rfl⟩ := hq
        have S : ST g A ss H locs [(O, ob 6 [.ref h, .ref dh, .ref th, .ref HH, .ref IM, .ref SG, .ref P, .ref ca]), (h, ob 2 [.ref q, .int (nI n), .int (nI ww)]), (q, aI g 32 f)] := S
        refine top_eq (y := nI (nu 2 j)) (hf _ _ (by omega) (by omega)) ?_
        refine lv_istore_n (lv' := [(3, .int (nI (nu 2 j))), (0, .ref O), (1, .int (nI j)), (2, .int (nI d))]) hx hb dX6_cambers_40 rfl hl (by decide) rfl (fun ls hl => ?_)
        refine lv_iload_n hx hb dX6_cambers_41 rfl (lv_at hl 0 rfl) ?_
        refine lv_iload_n hx hb dX6_cambers_42 rfl (lv_at hl 3 rfl) ?_
        refine bn_ine (tgt := 49) (a := nu 2 j) (b := d) hx hb rfl rfl (by omega) (by omega) dX6_cambers_43 (by decide) (fun c_4 => ?_) (fun c_4 => ?_)
        · -- 43 T
          exact absurd heq c_4
        · -- 43 F
          refine lv_bipush (v := (-2)) hx hb dX6_cambers_46 (by decide) ?_
          exact ret_I C S hr dX6_cambers_48 ⟨(by first | rfl | simp only [if_pos c_1, if_neg c_2, if_pos c_3, if_pos c_4]), (by first | rfl | simp only [if_pos c_1, if_neg c_2, if_pos c_3, if_pos c_4])⟩
      · -- 26 F
        exact absurd (show nI d ≤ nI 30 from nI_le (by omega) (by decide)) c_3

theorem inX6_cambersg_X6 : ∀ w ∈ wsX60, w ∈ wsX6_cambers := by decide +kernel
set_option maxRecDepth 100000 in
set_option maxHeartbeats 4000000 in
theorem kX6_cambersg (l : Launch) (g : GG) (O : Nat) (dh : Nat) (th : Nat) (HH : Nat) (IM : Nat) (SG : Nat) (ca : Nat) (h : Nat) (P : Nat) (q : Nat) (f : Nat → Int32) (n : Nat) (ww : Nat) (rg : Nat) (ro : Nat → Option Nat) (a0 : Nat) (b0 : Nat) (a1 : Nat) (b1 : Nat) (a2 : Nat) (b2 : Nat) (a3 : Nat) (b3 : Nat) (a4 : Nat) (b4 : Nat) (a5 : Nat) (b5 : Nat) (fs : Nat → Nat → Int32) (ns : Nat → Nat) (wbs : Nat → Nat) (k : Nat) (z : Nat) (nu : Nat → Nat → Nat) (j : Nat) (d : Nat) (hn : n ≤ 8) (hf : ∀ a i, a < 4 → i < n → f (a * 8 + i) = nI (nu a i)) (hB : HB nu n) (hj : j < n) (hd : d < 31) (hne : ¬ nu 2 j = d) (hro : ro 0 = some a0 ∧ ro 1 = some a1 ∧ ro 2 = some a2 ∧ ro 3 = some a3 ∧ ro 4 = some a4 ∧ ro 5 = some a5) (hk : k < 6) (hz : z ≤ 6) : KI l g yX6_cambers wsX6_cambers 3 106 [.ref O, .int (nI j), .int (nI d)] [(O, ob 6 [.ref h, .ref dh, .ref th, .ref HH, .ref IM, .ref SG, .ref P, .ref ca]), (h, ob 2 [.ref q, .int (nI n), .int (nI ww)]), (q, aI g 32 f), (HH, ob 0 [.ref rg, .int (nI k), .int (nI z)]), (rg, aO g 6 ro), (a0, ob 2 [.ref b0, .int (nI (ns 0)), .int (nI (wbs 0))]), (b0, aI g 32 (fs 0)), (a1, ob 2 [.ref b1, .int (nI (ns 1)), .int (nI (wbs 1))]), (b1, aI g 32 (fs 1)), (a2, ob 2 [.ref b2, .int (nI (ns 2)), .int (nI (wbs 2))]), (b2, aI g 32 (fs 2)), (a3, ob 2 [.ref b3, .int (nI (ns 3)), .int (nI (wbs 3))]), (b3, aI g 32 (fs 3)), (a4, ob 2 [.ref b4, .int (nI (ns 4)), .int (nI (wbs 4))]), (b4, aI g 32 (fs 4)), (a5, ob 2 [.ref b5, .int (nI (ns 5)), .int (nI (wbs 5))]), (b5, aI g 32 (fs 5))] (fun (r : Int32) (w' : va_W) => r = (nI (nu 2 j)) ∧ ∃ (f' : Nat → Int32), (∀ j, j < 32 → f' j = f j) ∧ w' = [(O, ob 6 [.ref h, .ref dh, .ref th, .ref HH, .ref IM, .ref SG, .ref P, .ref ca]), (h, ob 2 [.ref q, .int (nI n), .int (nI ww)]), (q, aI g 32 (upd f (2 * 8 + j) (nI d))), (HH, ob 0 [.ref rg, .int (nI (nxt k)), .int (nI (min (z + 1) 6))]), (rg, aO g 6 ro), (a0, ob 2 [.ref b0, .int (nI (updA ns k n 0)), .int (nI (updA wbs k ww 0))]), (b0, aI g 32 (updA fs k f' 0)), (a1, ob 2 [.ref b1, .int (nI (updA ns k n 1)), .int (nI (updA wbs k ww 1))]), (b1, aI g 32 (updA fs k f' 1)), (a2, ob 2 [.ref b2, .int (nI (updA ns k n 2)), .int (nI (updA wbs k ww 2))]), (b2, aI g 32 (updA fs k f' 2)), (a3, ob 2 [.ref b3, .int (nI (updA ns k n 3)), .int (nI (updA wbs k ww 3))]), (b3, aI g 32 (updA fs k f' 3)), (a4, ob 2 [.ref b4, .int (nI (updA ns k n 4)), .int (nI (updA wbs k ww 4))]), (b4, aI g 32 (updA fs k f' 4)), (a5, ob 2 [.ref b5, .int (nI (updA ns k n 5)), .int (nI (updA wbs k ww 5))]), (b5, aI g 32 (updA fs k f' 5))]) := by
  refine kI_of (cc := cX6_cambers) (maxL := 4) (by decide) rfl (Nat.le_of_ble_eq_true rfl) ?_
  intro pp ee ss mm bel mth cd A ls C S hr hl
  obtain ⟨hx, hb, hml, hown, hts⟩ := id C.1
  have hl : lv_has ls 4 [(0, .ref O), (1, .int (nI j)), (2, .int (nI d))] := hl
  obtain ⟨H, hH⟩ : ∃ H, H = ss.heap := ⟨_, rfl⟩
  obtain ⟨locs, hL0⟩ : ∃ L : List Loc, L = [] := ⟨_, rfl⟩
  rw [← hH, ← hL0] at S ⊢
  have hex : sX2_exists n (nI j) = true := by rw [exists_eq hn]; exact ok_nI hj (by omega)
  have hcj := (hB j hj).2.2.1
  refine lv_aload_n hx hb dX6_cambers_0 rfl (lv_at hl 0 rfl) ?_
  refine top_get C S inX6_cambersg_X6 rfl 0 rfl 0 (by decide) (by decide +kernel) rfl rfl dX6_cambers_1 ?_
  refine lv_iload_n hx hb dX6_cambers_4 rfl (lv_at hl 1 rfl) ?_
  refine after_I (wc := [(h, ob 2 [.ref q, .int (nI n), .int (nI ww)]), (q, aI g 32 f)]) (y := yX2_exists) C S (va_runV (As := [.int (nI j)]) (rest := []) C.1 (kX2_exists l g h q f n ww (nI j) H.size) (cwV 1 hts gX6_cambers_X2_exists rfl rfl rfl (by decide +kernel) ⟨Nat.le_of_ble_eq_true rfl, Nat.le_of_ble_eq_true rfl⟩) (preV_at C S 1 rfl rfl [1, 2] rfl (by decide)) rfl rfl hl.1 rfl (lv_room (Nat.le_of_ble_eq_true rfl)) dX6_cambers_5 ⟨Nat.le_of_ble_eq_true rfl, Nat.le_of_ble_eq_true rfl⟩) [1, 2] [0, 3, 4, 5, 6, 7, 8, 9, 10, 11, 12, 13, 14, 15, 16] rfl (wr := [(O, ob 6 [.ref h, .ref dh, .ref th, .ref HH, .ref IM, .ref SG, .ref P, .ref ca]), (HH, ob 0 [.ref rg, .int (nI k), .int (nI z)]), (rg, aO g 6 ro), (a0, ob 2 [.ref b0, .int (nI (ns 0)), .int (nI (wbs 0))]), (b0, aI g 32 (fs 0)), (a1, ob 2 [.ref b1, .int (nI (ns 1)), .int (nI (wbs 1))]), (b1, aI g 32 (fs 1)), (a2, ob 2 [.ref b2, .int (nI (ns 2)), .int (nI (wbs 2))]), (b2, aI g 32 (fs 2)), (a3, ob 2 [.ref b3, .int (nI (ns 3)), .int (nI (wbs 3))]), (b3, aI g 32 (fs 3)), (a4, ob 2 [.ref b4, .int (nI (ns 4)), .int (nI (wbs 4))]), (b4, aI g 32 (fs 4)), (a5, ob 2 [.ref b5, .int (nI (ns 5)), .int (nI (wbs 5))]), (b5, aI g 32 (fs 5))]) rfl (by decide) (by decide) (fun r0 w0 H locs hq S => ?_)
  obtain ⟨rfl, rfl⟩ := hq
  have S : ST g A ss H locs [(O, ob 6 [.ref h, .ref dh, .ref th, .ref HH, .ref IM, .ref SG, .ref P, .ref ca]), (h, ob 2 [.ref q, .int (nI n), .int (nI ww)]), (q, aI g 32 f), (HH, ob 0 [.ref rg, .int (nI k), .int (nI z)]), (rg, aO g 6 ro), (a0, ob 2 [.ref b0, .int (nI (ns 0)), .int (nI (wbs 0))]), (b0, aI g 32 (fs 0)), (a1, ob 2 [.ref b1, .int (nI (ns 1)), .int (nI (wbs 1))]), (b1, aI g 32 (fs 1)), (a2, ob 2 [.ref b2, .int (nI (ns 2)), .int (nI (wbs 2))]), (b2, aI g 32 (fs 2)), (a3, ob 2 [.ref b3, .int (nI (ns 3)), .int (nI (wbs 3))]), (b3, aI g 32 (fs 3)), (a4, ob 2 [.ref b4, .int (nI (ns 4)), .int (nI (wbs 4))]), (b4, aI g 32 (fs 4)), (a5, ob 2 [.ref b5, .int (nI (ns 5)), .int (nI (wbs 5))]), (b5, aI g 32 (fs 5))] := ST.sub S [0, 15, 16, 1, 2, 3, 4, 5, 6, 7, 8, 9, 10, 11, 12, 13, 14] (by decide) rfl
  refine br_eqB (tgt := 29) hx hb dX6_cambers_8 (by decide) (fun c_1 => ?_) (fun c_1 => ?_)
  · -- 8 T
    rw [hex] at c_1; cases c_1
  · -- 8 F
    refine lv_iload_n hx hb dX6_cambers_11 rfl (lv_at hl 2 rfl) ?_
    obtain ⟨tLe, ztLe, htLe⟩ := C.2.2.1.2.1
    refine va_gets hx hb ztLe S.2.2 hown (hts (.fieldLink RX6 110 "StackedLeaves" "LEAST_NUMBER" "[I") (by decide +kernel)) (fun _ h9 => h9) dX6_cambers_12 ?_
    refine lv_iconst (v := 2) hx hb dX6_cambers_15 (by decide) ?_
    refine top_tab C S htLe (j := 2) rfl (by omega) dX6_cambers_16 ?_
    refine lv_icmp_lt (tgt := 29) hx hb dX6_cambers_17 (by decide) (fun c_2 => ?_) (fun c_2 => ?_)
    · -- 17 T
      exact absurd c_2 (nI_pos (by omega))
    · -- 17 F
      refine lv_iload_n hx hb dX6_cambers_20 rfl (lv_at hl 2 rfl) ?_
      obtain ⟨tMo, ztMo, htMo⟩ := C.2.2.1.2.2
      refine va_gets hx hb ztMo S.2.2 hown (hts (.fieldLink RX6 113 "StackedLeaves" "MOST_NUMBER" "[I") (by decide +kernel)) (fun _ h9 => h9) dX6_cambers_21 ?_
      refine lv_iconst (v := 2) hx hb dX6_cambers_24 (by decide) ?_
      refine top_tab C S htMo (j := 2) rfl (by omega) dX6_cambers_25 ?_
      refine lv_icmp_le (tgt := 31) hx hb dX6_cambers_26 (by decide) (fun c_3 => ?_) (fun c_3 => ?_)
      · -- 26 T
        refine lv_aload_n hx hb dX6_cambers_31 rfl (lv_at hl 0 rfl) ?_
        refine top_get C S inX6_cambersg_X6 rfl 0 rfl 0 (by decide) (by decide +kernel) rfl rfl dX6_cambers_32 ?_
        refine lv_iconst (v := 2) hx hb dX6_cambers_35 (by decide) ?_
        refine lv_iload_n hx hb dX6_cambers_36 rfl (lv_at hl 1 rfl) ?_
        refine after_I (wc := [(h, ob 2 [.ref q, .int (nI n), .int (nI ww)]), (q, aI g 32 f)]) (y := yX2_number) C S (va_runV (As := [.int 2, .int (nI j)]) (rest := []) C.1 (kX2_number l g h q f n ww 2 j (by first | assumption | omega) (by first | assumption | omega) H.size) (cwV 2 hts gX6_cambers_X2_number rfl rfl rfl (by decide +kernel) ⟨Nat.le_of_ble_eq_true rfl, Nat.le_of_ble_eq_true rfl⟩) (preV_at C S 1 rfl rfl [1, 2] rfl (by decide)) rfl rfl hl.1 rfl (lv_room (Nat.le_of_ble_eq_true rfl)) dX6_cambers_37 ⟨Nat.le_of_ble_eq_true rfl, Nat.le_of_ble_eq_true rfl⟩) [1, 2] [0, 3, 4, 5, 6, 7, 8, 9, 10, 11, 12, 13, 14, 15, 16] rfl (wr := [(O, ob 6 [.ref h, .ref dh, .ref th, .ref HH, .ref IM, .ref SG, .ref P, .ref ca]), (HH, ob 0 [.ref rg, .int (nI k), .int (nI z)]), (rg, aO g 6 ro), (a0, ob 2 [.ref b0, .int (nI (ns 0)), .int (nI (wbs 0))]), (b0, aI g 32 (fs 0)), (a1, ob 2 [.ref b1, .int (nI (ns 1)), .int (nI (wbs 1))]), (b1, aI g 32 (fs 1)), (a2, ob 2 [.ref b2, .int (nI (ns 2)), .int (nI (wbs 2))]), (b2, aI g 32 (fs 2)), (a3, ob 2 [.ref b3, .int (nI (ns 3)), .int (nI (wbs 3))]), (b3, aI g 32 (fs 3)), (a4, ob 2 [.ref b4, .int (nI (ns 4)), .int (nI (wbs 4))]), (b4, aI g 32 (fs 4)), (a5, ob 2 [.ref b5, .int (nI (ns 5)), .int (nI (wbs 5))]), (b5, aI g 32 (fs 5))]) rfl (by decide) (by decide) (fun r0 w0 H locs hq S => ?_)
        obtain ⟨rfl, rfl⟩ := hq
        have S : ST g A ss H locs [(O, ob 6 [.ref h, .ref dh, .ref th, .ref HH, .ref IM, .ref SG, .ref P, .ref ca]), (h, ob 2 [.ref q, .int (nI n), .int (nI ww)]), (q, aI g 32 f), (HH, ob 0 [.ref rg, .int (nI k), .int (nI z)]), (rg, aO g 6 ro), (a0, ob 2 [.ref b0, .int (nI (ns 0)), .int (nI (wbs 0))]), (b0, aI g 32 (fs 0)), (a1, ob 2 [.ref b1, .int (nI (ns 1)), .int (nI (wbs 1))]), (b1, aI g 32 (fs 1)), (a2, ob 2 [.ref b2, .int (nI (ns 2)), .int (nI (wbs 2))]), (b2, aI g 32 (fs 2)), (a3, ob 2 [.ref b3, .int (nI (ns 3)), .int (nI (wbs 3))]), (b3, aI g 32 (fs 3)), (a4, ob 2 [.ref b4, .int (nI (ns 4)), .int (nI (wbs 4))]), (b4, aI g 32 (fs 4)), (a5, ob 2 [.ref b5, .int (nI (ns 5)), .int (nI (wbs 5))]), (b5, aI g 32 (fs 5))] := ST.sub S [0, 15, 16, 1, 2, 3, 4, 5, 6, 7, 8, 9, 10, 11, 12, 13, 14] (by decide) rfl
        refine top_eq (y := nI (nu 2 j)) (hf _ _ (by omega) (by omega)) ?_
        refine lv_istore_n (lv' := [(3, .int (nI (nu 2 j))), (0, .ref O), (1, .int (nI j)), (2, .int (nI d))]) hx hb dX6_cambers_40 rfl hl (by decide) rfl (fun ls hl => ?_)
        refine lv_iload_n hx hb dX6_cambers_41 rfl (lv_at hl 0 rfl) ?_
        refine lv_iload_n hx hb dX6_cambers_42 rfl (lv_at hl 3 rfl) ?_
        refine bn_ine (tgt := 49) (a := nu 2 j) (b := d) hx hb rfl rfl (by omega) (by omega) dX6_cambers_43 (by decide) (fun c_4 => ?_) (fun c_4 => ?_)
        · -- 43 T
          refine lv_aload_n hx hb dX6_cambers_49 rfl (lv_at hl 1 rfl) ?_
          refine top_get C S inX6_cambersg_X6 rfl 0 rfl 3 (by decide) (by decide +kernel) rfl rfl dX6_cambers_50 ?_
          refine lv_aload_n hx hb dX6_cambers_53 rfl (lv_at hl 1 rfl) ?_
          refine top_get C S inX6_cambersg_X6 rfl 0 rfl 0 (by decide) (by decide +kernel) rfl rfl dX6_cambers_54 ?_
          refine after_V (wc := [(HH, ob 0 [.ref rg, .int (nI k), .int (nI z)]), (rg, aO g 6 ro), (a0, ob 2 [.ref b0, .int (nI (ns 0)), .int (nI (wbs 0))]), (b0, aI g 32 (fs 0)), (a1, ob 2 [.ref b1, .int (nI (ns 1)), .int (nI (wbs 1))]), (b1, aI g 32 (fs 1)), (a2, ob 2 [.ref b2, .int (nI (ns 2)), .int (nI (wbs 2))]), (b2, aI g 32 (fs 2)), (a3, ob 2 [.ref b3, .int (nI (ns 3)), .int (nI (wbs 3))]), (b3, aI g 32 (fs 3)), (a4, ob 2 [.ref b4, .int (nI (ns 4)), .int (nI (wbs 4))]), (b4, aI g 32 (fs 4)), (a5, ob 2 [.ref b5, .int (nI (ns 5)), .int (nI (wbs 5))]), (b5, aI g 32 (fs 5)), (h, ob 2 [.ref q, .int (nI n), .int (nI ww)]), (q, aI g 32 f)]) (y := yX0_push) C S (va_runV (As := [.ref h]) (rest := []) C.1 (kX0_push l g HH rg ro a0 b0 a1 b1 a2 b2 a3 b3 a4 b4 a5 b5 fs ns wbs k z h q f n ww (by first | assumption | omega) (by first | assumption | omega) (by first | assumption | omega) H.size) (cwV 1 hts gX6_cambers_X0_push rfl rfl rfl (by decide +kernel) ⟨Nat.le_of_ble_eq_true rfl, Nat.le_of_ble_eq_true rfl⟩) (preV_at C S 3 rfl rfl [3, 4, 5, 6, 7, 8, 9, 10, 11, 12, 13, 14, 15, 16, 1, 2] rfl (by decide)) rfl rfl hl.1 rfl (lv_room (Nat.le_of_ble_eq_true rfl)) dX6_cambers_57 ⟨Nat.le_of_ble_eq_true rfl, Nat.le_of_ble_eq_true rfl⟩) [3, 4, 5, 6, 7, 8, 9, 10, 11, 12, 13, 14, 15, 16, 1, 2] [0] rfl (wr := [(O, ob 6 [.ref h, .ref dh, .ref th, .ref HH, .ref IM, .ref SG, .ref P, .ref ca])]) rfl (by decide) (by decide) (fun w0 H locs hq S => ?_)
          obtain ⟨f9, hf9, rfl⟩ := hq
          have S : ST g A ss H locs [(O, ob 6 [.ref h, .ref dh, .ref th, .ref HH, .ref IM, .ref SG, .ref P, .ref ca]), (h, ob 2 [.ref q, .int (nI n), .int (nI ww)]), (q, aI g 32 f), (HH, ob 0 [.ref rg, .int (nI (nxt k)), .int (nI (min (z + 1) 6))]), (rg, aO g 6 ro), (a0, ob 2 [.ref b0, .int (nI (updA ns k n 0)), .int (nI (updA wbs k ww 0))]), (b0, aI g 32 (updA fs k f9 0)), (a1, ob 2 [.ref b1, .int (nI (updA ns k n 1)), .int (nI (updA wbs k ww 1))]), (b1, aI g 32 (updA fs k f9 1)), (a2, ob 2 [.ref b2, .int (nI (updA ns k n 2)), .int (nI (updA wbs k ww 2))]), (b2, aI g 32 (updA fs k f9 2)), (a3, ob 2 [.ref b3, .int (nI (updA ns k n 3)), .int (nI (updA wbs k ww 3))]), (b3, aI g 32 (updA fs k f9 3)), (a4, ob 2 [.ref b4, .int (nI (updA ns k n 4)), .int (nI (updA wbs k ww 4))]), (b4, aI g 32 (updA fs k f9 4)), (a5, ob 2 [.ref b5, .int (nI (updA ns k n 5)), .int (nI (updA wbs k ww 5))]), (b5, aI g 32 (updA fs k f9 5))] := ST.sub S [0, 15, 16, 1, 2, 3, 4, 5, 6, 7, 8, 9, 10, 11, 12, 13, 14] (by decide) rfl
          refine lv_aload_n hx hb dX6_cambers_60 rfl (lv_at hl 1 rfl) ?_
          refine top_get C S inX6_cambersg_X6 rfl 0 rfl 0 (by decide) (by decide +kernel) rfl rfl dX6_cambers_61 ?_
          refine lv_iconst (v := 2) hx hb dX6_cambers_64 (by decide) ?_
          refine lv_iload_n hx hb dX6_cambers_65 rfl (lv_at hl 2 rfl) ?_
          refine lv_iload_n hx hb dX6_cambers_66 rfl (lv_at hl 3 rfl) ?_
          refine after_V (wc := [(h, ob 2 [.ref q, .int (nI n), .int (nI ww)]), (q, aI g 32 f)]) (y := yX2_put) C S (va_runV (As := [.int 2, .int (nI j), .int (nI d)]) (rest := []) C.1 (kX2_put l g h q f n ww 2 j (nI d) (by first | assumption | omega) (by first | assumption | omega) H.size) (cwV 3 hts gX6_cambers_X2_put rfl rfl rfl (by decide +kernel) ⟨Nat.le_of_ble_eq_true rfl, Nat.le_of_ble_eq_true rfl⟩) (preV_at C S 1 rfl rfl [1, 2] rfl (by decide)) rfl rfl hl.1 rfl (lv_room (Nat.le_of_ble_eq_true rfl)) dX6_cambers_67 ⟨Nat.le_of_ble_eq_true rfl, Nat.le_of_ble_eq_true rfl⟩) [1, 2] [0, 3, 4, 5, 6, 7, 8, 9, 10, 11, 12, 13, 14, 15, 16] rfl (wr := [(O, ob 6 [.ref h, .ref dh, .ref th, .ref HH, .ref IM, .ref SG, .ref P, .ref ca]), (HH, ob 0 [.ref rg, .int (nI (nxt k)), .int (nI (min (z + 1) 6))]), (rg, aO g 6 ro), (a0, ob 2 [.ref b0, .int (nI (updA ns k n 0)), .int (nI (updA wbs k ww 0))]), (b0, aI g 32 (updA fs k f9 0)), (a1, ob 2 [.ref b1, .int (nI (updA ns k n 1)), .int (nI (updA wbs k ww 1))]), (b1, aI g 32 (updA fs k f9 1)), (a2, ob 2 [.ref b2, .int (nI (updA ns k n 2)), .int (nI (updA wbs k ww 2))]), (b2, aI g 32 (updA fs k f9 2)), (a3, ob 2 [.ref b3, .int (nI (updA ns k n 3)), .int (nI (updA wbs k ww 3))]), (b3, aI g 32 (updA fs k f9 3)), (a4, ob 2 [.ref b4, .int (nI (updA ns k n 4)), .int (nI (updA wbs k ww 4))]), (b4, aI g 32 (updA fs k f9 4)), (a5, ob 2 [.ref b5, .int (nI (updA ns k n 5)), .int (nI (updA wbs k ww 5))]), (b5, aI g 32 (updA fs k f9 5))]) rfl (by decide) (by decide) (fun w0 H locs hq S => ?_)
          subst hq
          have S : ST g A ss H locs [(O, ob 6 [.ref h, .ref dh, .ref th, .ref HH, .ref IM, .ref SG, .ref P, .ref ca]), (h, ob 2 [.ref q, .int (nI n), .int (nI ww)]), (q, aI g 32 (upd f (2 * 8 + j) (nI d))), (HH, ob 0 [.ref rg, .int (nI (nxt k)), .int (nI (min (z + 1) 6))]), (rg, aO g 6 ro), (a0, ob 2 [.ref b0, .int (nI (updA ns k n 0)), .int (nI (updA wbs k ww 0))]), (b0, aI g 32 (updA fs k f9 0)), (a1, ob 2 [.ref b1, .int (nI (updA ns k n 1)), .int (nI (updA wbs k ww 1))]), (b1, aI g 32 (updA fs k f9 1)), (a2, ob 2 [.ref b2, .int (nI (updA ns k n 2)), .int (nI (updA wbs k ww 2))]), (b2, aI g 32 (updA fs k f9 2)), (a3, ob 2 [.ref b3, .int (nI (updA ns k n 3)), .int (nI (updA wbs k ww 3))]), (b3, aI g 32 (updA fs k f9 3)), (a4, ob 2 [.ref b4, .int (nI (updA ns k n 4)), .int (nI (updA wbs k ww 4))]), (b4, aI g 32 (updA fs k f9 4)), (a5, ob 2 [.ref b5, .int (nI (updA ns k n 5)), .int (nI (updA wbs k ww 5))]), (b5, aI g 32 (updA fs k f9 5))] := ST.sub S [0, 15, 16, 1, 2, 3, 4, 5, 6, 7, 8, 9, 10, 11, 12, 13, 14] (by decide) rfl
          refine lv_iload_n hx hb dX6_cambers_70 rfl (lv_at hl 0 rfl) ?_
          exact ret_I C S hr dX6_cambers_71 ⟨(by first | rfl | simp only [if_pos c_1, if_neg c_2, if_pos c_3, if_neg c_4]), f9, (hf9), (by first | rfl | simp only [if_pos c_1, if_neg c_2, if_pos c_3, if_neg c_4])⟩
        · -- 43 F
          exact absurd c_4 hne
      · -- 26 F
        exact absurd (show nI d ≤ nI 30 from nI_le (by omega) (by decide)) c_3

theorem inX6_undoe_X6 : ∀ w ∈ wsX60, w ∈ wsX6_undo := by decide +kernel
set_option maxRecDepth 100000 in
set_option maxHeartbeats 4000000 in
theorem kX6_undoe (l : Launch) (g : GG) (O : Nat) (dh : Nat) (th : Nat) (HH : Nat) (IM : Nat) (SG : Nat) (ca : Nat) (h : Nat) (P : Nat) (q : Nat) (f : Nat → Int32) (n : Nat) (ww : Nat) (rg : Nat) (ro : Nat → Option Nat) (a0 : Nat) (b0 : Nat) (a1 : Nat) (b1 : Nat) (a2 : Nat) (b2 : Nat) (a3 : Nat) (b3 : Nat) (a4 : Nat) (b4 : Nat) (a5 : Nat) (b5 : Nat) (fs : Nat → Nat → Int32) (ns : Nat → Nat) (wbs : Nat → Nat) (k : Nat) (z : Nat) (hro : ro 0 = some a0 ∧ ro 1 = some a1 ∧ ro 2 = some a2 ∧ ro 3 = some a3 ∧ ro 4 = some a4 ∧ ro 5 = some a5) (hk : k < 6) (hz0 : z = 0) : KI l g yX6_undo wsX6_undo 1 21 [.ref O] [(O, ob 6 [.ref h, .ref dh, .ref th, .ref HH, .ref IM, .ref SG, .ref P, .ref ca]), (h, ob 2 [.ref q, .int (nI n), .int (nI ww)]), (q, aI g 32 f), (HH, ob 0 [.ref rg, .int (nI k), .int (nI z)]), (rg, aO g 6 ro), (a0, ob 2 [.ref b0, .int (nI (ns 0)), .int (nI (wbs 0))]), (b0, aI g 32 (fs 0)), (a1, ob 2 [.ref b1, .int (nI (ns 1)), .int (nI (wbs 1))]), (b1, aI g 32 (fs 1)), (a2, ob 2 [.ref b2, .int (nI (ns 2)), .int (nI (wbs 2))]), (b2, aI g 32 (fs 2)), (a3, ob 2 [.ref b3, .int (nI (ns 3)), .int (nI (wbs 3))]), (b3, aI g 32 (fs 3)), (a4, ob 2 [.ref b4, .int (nI (ns 4)), .int (nI (wbs 4))]), (b4, aI g 32 (fs 4)), (a5, ob 2 [.ref b5, .int (nI (ns 5)), .int (nI (wbs 5))]), (b5, aI g 32 (fs 5))] (fun (r : Int32) (w' : va_W) => r = (-2) ∧ w' = [(O, ob 6 [.ref h, .ref dh, .ref th, .ref HH, .ref IM, .ref SG, .ref P, .ref ca]), (h, ob 2 [.ref q, .int (nI n), .int (nI ww)]), (q, aI g 32 f), (HH, ob 0 [.ref rg, .int (nI k), .int (nI z)]), (rg, aO g 6 ro), (a0, ob 2 [.ref b0, .int (nI (ns 0)), .int (nI (wbs 0))]), (b0, aI g 32 (fs 0)), (a1, ob 2 [.ref b1, .int (nI (ns 1)), .int (nI (wbs 1))]), (b1, aI g 32 (fs 1)), (a2, ob 2 [.ref b2, .int (nI (ns 2)), .int (nI (wbs 2))]), (b2, aI g 32 (fs 2)), (a3, ob 2 [.ref b3, .int (nI (ns 3)), .int (nI (wbs 3))]), (b3, aI g 32 (fs 3)), (a4, ob 2 [.ref b4, .int (nI (ns 4)), .int (nI (wbs 4))]), (b4, aI g 32 (fs 4)), (a5, ob 2 [.ref b5, .int (nI (ns 5)), .int (nI (wbs 5))]), (b5, aI g 32 (fs 5))]) := by
  refine kI_of (cc := cX6_undo) (maxL := 1) (by decide) rfl (Nat.le_of_ble_eq_true rfl) ?_
  intro pp ee ss mm bel mth cd A ls C S hr hl
  obtain ⟨hx, hb, hml, hown, hts⟩ := id C.1
  have hl : lv_has ls 1 [(0, .ref O)] := hl
  obtain ⟨H, hH⟩ : ∃ H, H = ss.heap := ⟨_, rfl⟩
  obtain ⟨locs, hL0⟩ : ∃ L : List Loc, L = [] := ⟨_, rfl⟩
  rw [← hH, ← hL0] at S ⊢
  refine lv_aload_n hx hb dX6_undo_0 rfl (lv_at hl 0 rfl) ?_
  refine top_get C S inX6_undoe_X6 rfl 0 rfl 3 (by decide) (by decide +kernel) rfl rfl dX6_undo_1 ?_
  refine lv_aload_n hx hb dX6_undo_4 rfl (lv_at hl 0 rfl) ?_
  refine top_get C S inX6_undoe_X6 rfl 0 rfl 0 (by decide) (by decide +kernel) rfl rfl dX6_undo_5 ?_
  refine after_I (wc := [(HH, ob 0 [.ref rg, .int (nI k), .int (nI z)]), (rg, aO g 6 ro), (a0, ob 2 [.ref b0, .int (nI (ns 0)), .int (nI (wbs 0))]), (b0, aI g 32 (fs 0)), (a1, ob 2 [.ref b1, .int (nI (ns 1)), .int (nI (wbs 1))]), (b1, aI g 32 (fs 1)), (a2, ob 2 [.ref b2, .int (nI (ns 2)), .int (nI (wbs 2))]), (b2, aI g 32 (fs 2)), (a3, ob 2 [.ref b3, .int (nI (ns 3)), .int (nI (wbs 3))]), (b3, aI g 32 (fs 3)), (a4, ob 2 [.ref b4, .int (nI (ns 4)), .int (nI (wbs 4))]), (b4, aI g 32 (fs 4)), (a5, ob 2 [.ref b5, .int (nI (ns 5)), .int (nI (wbs 5))]), (b5, aI g 32 (fs 5)), (h, ob 2 [.ref q, .int (nI n), .int (nI ww)]), (q, aI g 32 f)]) (y := yX0_popInto) C S (va_runV (As := [.ref h]) (rest := []) C.1 (kX0_popIntoe l g HH rg ro a0 b0 a1 b1 a2 b2 a3 b3 a4 b4 a5 b5 fs ns wbs k z h q f n ww (by first | assumption | omega) (by first | assumption | omega) (by first | assumption | omega) H.size) (cwV 1 hts gX6_undo_X0_popInto rfl rfl rfl (by decide +kernel) ⟨Nat.le_of_ble_eq_true rfl, Nat.le_of_ble_eq_true rfl⟩) (preV_at C S 3 rfl rfl [3, 4, 5, 6, 7, 8, 9, 10, 11, 12, 13, 14, 15, 16, 1, 2] rfl (by decide)) rfl rfl hl.1 rfl (lv_room (Nat.le_of_ble_eq_true rfl)) dX6_undo_8 ⟨Nat.le_of_ble_eq_true rfl, Nat.le_of_ble_eq_true rfl⟩) [3, 4, 5, 6, 7, 8, 9, 10, 11, 12, 13, 14, 15, 16, 1, 2] [0] rfl (wr := [(O, ob 6 [.ref h, .ref dh, .ref th, .ref HH, .ref IM, .ref SG, .ref P, .ref ca])]) rfl (by decide) (by decide) (fun r0 w0 H locs hq S => ?_)
  obtain ⟨rfl, rfl⟩ := hq
  have S : ST g A ss H locs [(O, ob 6 [.ref h, .ref dh, .ref th, .ref HH, .ref IM, .ref SG, .ref P, .ref ca]), (h, ob 2 [.ref q, .int (nI n), .int (nI ww)]), (q, aI g 32 f), (HH, ob 0 [.ref rg, .int (nI k), .int (nI z)]), (rg, aO g 6 ro), (a0, ob 2 [.ref b0, .int (nI (ns 0)), .int (nI (wbs 0))]), (b0, aI g 32 (fs 0)), (a1, ob 2 [.ref b1, .int (nI (ns 1)), .int (nI (wbs 1))]), (b1, aI g 32 (fs 1)), (a2, ob 2 [.ref b2, .int (nI (ns 2)), .int (nI (wbs 2))]), (b2, aI g 32 (fs 2)), (a3, ob 2 [.ref b3, .int (nI (ns 3)), .int (nI (wbs 3))]), (b3, aI g 32 (fs 3)), (a4, ob 2 [.ref b4, .int (nI (ns 4)), .int (nI (wbs 4))]), (b4, aI g 32 (fs 4)), (a5, ob 2 [.ref b5, .int (nI (ns 5)), .int (nI (wbs 5))]), (b5, aI g 32 (fs 5))] := ST.sub S [0, 15, 16, 1, 2, 3, 4, 5, 6, 7, 8, 9, 10, 11, 12, 13, 14] (by decide) rfl
  refine br_eqB (tgt := 24) hx hb dX6_undo_11 (by decide) (fun c_1 => ?_) (fun c_1 => ?_)
  · -- 11 T
    refine lv_bipush (v := (-2)) hx hb dX6_undo_24 (by decide) ?_
    exact ret_I C S hr dX6_undo_26 ⟨(by first | rfl | simp only [if_neg (Bool.eq_false_iff.mp c_1)]), (by first | rfl | simp only [if_neg (Bool.eq_false_iff.mp c_1)])⟩
  · -- 11 F
    cases c_1

theorem inX6_undop_X0 : ∀ w ∈ wsX00, w ∈ wsX6_undo := by decide +kernel
theorem inX6_undop_X6 : ∀ w ∈ wsX60, w ∈ wsX6_undo := by decide +kernel
set_option maxRecDepth 100000 in
set_option maxHeartbeats 4000000 in
theorem kX6_undop (l : Launch) (g : GG) (O : Nat) (dh : Nat) (th : Nat) (HH : Nat) (IM : Nat) (SG : Nat) (ca : Nat) (h : Nat) (P : Nat) (q : Nat) (f : Nat → Int32) (n : Nat) (ww : Nat) (rg : Nat) (ro : Nat → Option Nat) (a0 : Nat) (b0 : Nat) (a1 : Nat) (b1 : Nat) (a2 : Nat) (b2 : Nat) (a3 : Nat) (b3 : Nat) (a4 : Nat) (b4 : Nat) (a5 : Nat) (b5 : Nat) (fs : Nat → Nat → Int32) (ns : Nat → Nat) (wbs : Nat → Nat) (k : Nat) (z : Nat) (hro : ro 0 = some a0 ∧ ro 1 = some a1 ∧ ro 2 = some a2 ∧ ro 3 = some a3 ∧ ro 4 = some a4 ∧ ro 5 = some a5) (hk : k < 6) (hz0 : 0 < z) (hz6 : z ≤ 6) : KI l g yX6_undo wsX6_undo 3 106 [.ref O] [(O, ob 6 [.ref h, .ref dh, .ref th, .ref HH, .ref IM, .ref SG, .ref P, .ref ca]), (h, ob 2 [.ref q, .int (nI n), .int (nI ww)]), (q, aI g 32 f), (HH, ob 0 [.ref rg, .int (nI k), .int (nI z)]), (rg, aO g 6 ro), (a0, ob 2 [.ref b0, .int (nI (ns 0)), .int (nI (wbs 0))]), (b0, aI g 32 (fs 0)), (a1, ob 2 [.ref b1, .int (nI (ns 1)), .int (nI (wbs 1))]), (b1, aI g 32 (fs 1)), (a2, ob 2 [.ref b2, .int (nI (ns 2)), .int (nI (wbs 2))]), (b2, aI g 32 (fs 2)), (a3, ob 2 [.ref b3, .int (nI (ns 3)), .int (nI (wbs 3))]), (b3, aI g 32 (fs 3)), (a4, ob 2 [.ref b4, .int (nI (ns 4)), .int (nI (wbs 4))]), (b4, aI g 32 (fs 4)), (a5, ob 2 [.ref b5, .int (nI (ns 5)), .int (nI (wbs 5))]), (b5, aI g 32 (fs 5))] (fun (r : Int32) (w' : va_W) => r = (nI (z - 1)) ∧ ∃ (f' : Nat → Int32), (∀ j, j < 32 → f' j = fs (prv k) j) ∧ w' = [(O, ob 6 [.ref h, .ref dh, .ref th, .ref HH, .ref IM, .ref SG, .ref P, .ref ca]), (h, ob 2 [.ref q, .int (nI (ns (prv k))), .int (nI (wbs (prv k)))]), (q, aI g 32 f'), (HH, ob 0 [.ref rg, .int (nI (prv k)), .int (nI (z - 1))]), (rg, aO g 6 ro), (a0, ob 2 [.ref b0, .int (nI (ns 0)), .int (nI (wbs 0))]), (b0, aI g 32 (fs 0)), (a1, ob 2 [.ref b1, .int (nI (ns 1)), .int (nI (wbs 1))]), (b1, aI g 32 (fs 1)), (a2, ob 2 [.ref b2, .int (nI (ns 2)), .int (nI (wbs 2))]), (b2, aI g 32 (fs 2)), (a3, ob 2 [.ref b3, .int (nI (ns 3)), .int (nI (wbs 3))]), (b3, aI g 32 (fs 3)), (a4, ob 2 [.ref b4, .int (nI (ns 4)), .int (nI (wbs 4))]), (b4, aI g 32 (fs 4)), (a5, ob 2 [.ref b5, .int (nI (ns 5)), .int (nI (wbs 5))]), (b5, aI g 32 (fs 5))]) := by
  refine kI_of (cc := cX6_undo) (maxL := 1) (by decide) rfl (Nat.le_of_ble_eq_true rfl) ?_
  intro pp ee ss mm bel mth cd A ls C S hr hl
  obtain ⟨hx, hb, hml, hown, hts⟩ := id C.1
  have hl : lv_has ls 1 [(0, .ref O)] := hl
  obtain ⟨H, hH⟩ : ∃ H, H = ss.heap := ⟨_, rfl⟩
  obtain ⟨locs, hL0⟩ : ∃ L : List Loc, L = [] := ⟨_, rfl⟩
  rw [← hH, ← hL0] at S ⊢
  refine lv_aload_n hx hb dX6_undo_0 rfl (lv_at hl 0 rfl) ?_
  refine top_get C S inX6_undop_X6 rfl 0 rfl 3 (by decide) (by decide +kernel) rfl rfl dX6_undo_1 ?_
  refine lv_aload_n hx hb dX6_undo_4 rfl (lv_at hl 0 rfl) ?_
  refine top_get C S inX6_undop_X6 rfl 0 rfl 0 (by decide) (by decide +kernel) rfl rfl dX6_undo_5 ?_
  refine after_I (wc := [(HH, ob 0 [.ref rg, .int (nI k), .int (nI z)]), (rg, aO g 6 ro), (a0, ob 2 [.ref b0, .int (nI (ns 0)), .int (nI (wbs 0))]), (b0, aI g 32 (fs 0)), (a1, ob 2 [.ref b1, .int (nI (ns 1)), .int (nI (wbs 1))]), (b1, aI g 32 (fs 1)), (a2, ob 2 [.ref b2, .int (nI (ns 2)), .int (nI (wbs 2))]), (b2, aI g 32 (fs 2)), (a3, ob 2 [.ref b3, .int (nI (ns 3)), .int (nI (wbs 3))]), (b3, aI g 32 (fs 3)), (a4, ob 2 [.ref b4, .int (nI (ns 4)), .int (nI (wbs 4))]), (b4, aI g 32 (fs 4)), (a5, ob 2 [.ref b5, .int (nI (ns 5)), .int (nI (wbs 5))]), (b5, aI g 32 (fs 5)), (h, ob 2 [.ref q, .int (nI n), .int (nI ww)]), (q, aI g 32 f)]) (y := yX0_popInto) C S (va_runV (As := [.ref h]) (rest := []) C.1 (kX0_popIntop l g HH rg ro a0 b0 a1 b1 a2 b2 a3 b3 a4 b4 a5 b5 fs ns wbs k z h q f n ww (by first | assumption | omega) (by first | assumption | omega) (by first | assumption | omega) (by first | assumption | omega) H.size) (cwV 1 hts gX6_undo_X0_popInto rfl rfl rfl (by decide +kernel) ⟨Nat.le_of_ble_eq_true rfl, Nat.le_of_ble_eq_true rfl⟩) (preV_at C S 3 rfl rfl [3, 4, 5, 6, 7, 8, 9, 10, 11, 12, 13, 14, 15, 16, 1, 2] rfl (by decide)) rfl rfl hl.1 rfl (lv_room (Nat.le_of_ble_eq_true rfl)) dX6_undo_8 ⟨Nat.le_of_ble_eq_true rfl, Nat.le_of_ble_eq_true rfl⟩) [3, 4, 5, 6, 7, 8, 9, 10, 11, 12, 13, 14, 15, 16, 1, 2] [0] rfl (wr := [(O, ob 6 [.ref h, .ref dh, .ref th, .ref HH, .ref IM, .ref SG, .ref P, .ref ca])]) rfl (by decide) (by decide) (fun r0 w0 H locs hq S => ?_)
  obtain ⟨rfl, f9, hf9, rfl⟩ := hq
  have S : ST g A ss H locs [(O, ob 6 [.ref h, .ref dh, .ref th, .ref HH, .ref IM, .ref SG, .ref P, .ref ca]), (h, ob 2 [.ref q, .int (nI (ns (prv k))), .int (nI (wbs (prv k)))]), (q, aI g 32 f9), (HH, ob 0 [.ref rg, .int (nI (prv k)), .int (nI (z - 1))]), (rg, aO g 6 ro), (a0, ob 2 [.ref b0, .int (nI (ns 0)), .int (nI (wbs 0))]), (b0, aI g 32 (fs 0)), (a1, ob 2 [.ref b1, .int (nI (ns 1)), .int (nI (wbs 1))]), (b1, aI g 32 (fs 1)), (a2, ob 2 [.ref b2, .int (nI (ns 2)), .int (nI (wbs 2))]), (b2, aI g 32 (fs 2)), (a3, ob 2 [.ref b3, .int (nI (ns 3)), .int (nI (wbs 3))]), (b3, aI g 32 (fs 3)), (a4, ob 2 [.ref b4, .int (nI (ns 4)), .int (nI (wbs 4))]), (b4, aI g 32 (fs 4)), (a5, ob 2 [.ref b5, .int (nI (ns 5)), .int (nI (wbs 5))]), (b5, aI g 32 (fs 5))] := ST.sub S [0, 15, 16, 1, 2, 3, 4, 5, 6, 7, 8, 9, 10, 11, 12, 13, 14] (by decide) rfl
  refine br_eqB (tgt := 24) hx hb dX6_undo_11 (by decide) (fun c_1 => ?_) (fun c_1 => ?_)
  · -- 11 T
    cases c_1
  · -- 11 F
    refine lv_aload_n hx hb dX6_undo_14 rfl (lv_at hl 0 rfl) ?_
    refine top_get C S inX6_undop_X6 rfl 0 rfl 3 (by decide) (by decide +kernel) rfl rfl dX6_undo_15 ?_
    refine top_getN C S inX6_undop_X0 rfl 3 rfl 2 (by decide) (by decide +kernel) rfl dX6_undo_18 ?_
    refine lv_goto (tgt := 26) hx hb dX6_undo_21 (by decide) ?_
    exact ret_I C S hr dX6_undo_26 ⟨(by first | rfl | simp only [if_pos c_1]), f9, (hf9), (by first | rfl | simp only [if_pos c_1])⟩

set_option maxRecDepth 100000 in
set_option maxHeartbeats 4000000 in
theorem kX6_seesb (l : Launch) (g : GG) (O : Nat) (dh : Nat) (th : Nat) (HH : Nat) (IM : Nat) (SG : Nat) (ca : Nat) (h : Nat) (P : Nat) (x : Int32) (y : Int32) (hbad : okB x 1000 = false) : KI l g yX6_sees wsX6_sees 1 20 [.ref O, .int x, .int y] [(O, ob 6 [.ref h, .ref dh, .ref th, .ref HH, .ref IM, .ref SG, .ref P, .ref ca])] (fun (r : Int32) (w' : va_W) => r = (-1) ∧ w' = [(O, ob 6 [.ref h, .ref dh, .ref th, .ref HH, .ref IM, .ref SG, .ref P, .ref ca])]) := by
  refine kI_of (cc := cX6_sees) (maxL := 3) (by decide) rfl (Nat.le_of_ble_eq_true rfl) ?_
  intro pp ee ss mm bel mth cd A ls C S hr hl
  obtain ⟨hx, hb, hml, hown, hts⟩ := id C.1
  have hl : lv_has ls 3 [(0, .ref O), (1, .int x), (2, .int y)] := hl
  obtain ⟨H, hH⟩ : ∃ H, H = ss.heap := ⟨_, rfl⟩
  obtain ⟨locs, hL0⟩ : ∃ L : List Loc, L = [] := ⟨_, rfl⟩
  rw [← hH, ← hL0] at S ⊢
  refine lv_iload_n hx hb dX6_sees_0 rfl (lv_at hl 1 rfl) ?_
  refine after_I (wc := []) (y := yX6_isLoad) C S (va_runS (As := [.int x]) (rest := []) C.1 (kX6_isLoad l g x H.size) (va_cwS 1 hts gX6_sees_X6_isLoad rfl rfl rfl (by decide +kernel) ⟨Nat.le_of_ble_eq_true rfl, Nat.le_of_ble_eq_true rfl⟩) (preS_at C S [] rfl (by decide)) rfl rfl hl.1 rfl (lv_room (Nat.le_of_ble_eq_true rfl)) dX6_sees_1 ⟨Nat.le_of_ble_eq_true rfl, Nat.le_of_ble_eq_true rfl⟩) [] [0] rfl (wr := [(O, ob 6 [.ref h, .ref dh, .ref th, .ref HH, .ref IM, .ref SG, .ref P, .ref ca])]) rfl (by decide) (by decide) (fun r0 w0 H locs hq S => ?_)
  obtain ⟨rfl, rfl⟩ := hq
  have S : ST g A ss H locs [(O, ob 6 [.ref h, .ref dh, .ref th, .ref HH, .ref IM, .ref SG, .ref P, .ref ca])] := S
  refine br_eqB (tgt := 24) hx hb dX6_sees_4 (by decide) (fun c_1 => ?_) (fun c_1 => ?_)
  · -- 4 T
    refine lv_iconst (v := (-1)) hx hb dX6_sees_24 (by decide) ?_
    exact ret_I C S hr dX6_sees_25 ⟨(by first | rfl | simp only [if_neg (Bool.eq_false_iff.mp c_1)]), (by first | rfl | simp only [if_neg (Bool.eq_false_iff.mp c_1)])⟩
  · -- 4 F
    rw [isLoad_eq, hbad] at c_1; cases c_1

set_option maxRecDepth 100000 in
set_option maxHeartbeats 4000000 in
theorem kX6_seesd (l : Launch) (g : GG) (O : Nat) (dh : Nat) (th : Nat) (HH : Nat) (IM : Nat) (SG : Nat) (ca : Nat) (h : Nat) (P : Nat) (p : Nat) (y : Int32) (hp : p < 1000) (hy9 : ¬ y = (-9)) (hbad : okB y 10000 = false) : KI l g yX6_sees wsX6_sees 1 20 [.ref O, .int (nI p), .int y] [(O, ob 6 [.ref h, .ref dh, .ref th, .ref HH, .ref IM, .ref SG, .ref P, .ref ca])] (fun (r : Int32) (w' : va_W) => r = (-1) ∧ w' = [(O, ob 6 [.ref h, .ref dh, .ref th, .ref HH, .ref IM, .ref SG, .ref P, .ref ca])]) := by
  refine kI_of (cc := cX6_sees) (maxL := 3) (by decide) rfl (Nat.le_of_ble_eq_true rfl) ?_
  intro pp ee ss mm bel mth cd A ls C S hr hl
  obtain ⟨hx, hb, hml, hown, hts⟩ := id C.1
  have hl : lv_has ls 3 [(0, .ref O), (1, .int (nI p)), (2, .int y)] := hl
  obtain ⟨H, hH⟩ : ∃ H, H = ss.heap := ⟨_, rfl⟩
  obtain ⟨locs, hL0⟩ : ∃ L : List Loc, L = [] := ⟨_, rfl⟩
  rw [← hH, ← hL0] at S ⊢
  have hld : sX6_isLoad (nI p) = true := by rw [isLoad_eq]; exact ok_nI hp (by decide)
  refine lv_iload_n hx hb dX6_sees_0 rfl (lv_at hl 1 rfl) ?_
  refine after_I (wc := []) (y := yX6_isLoad) C S (va_runS (As := [.int (nI p)]) (rest := []) C.1 (kX6_isLoad l g (nI p) H.size) (va_cwS 1 hts gX6_sees_X6_isLoad rfl rfl rfl (by decide +kernel) ⟨Nat.le_of_ble_eq_true rfl, Nat.le_of_ble_eq_true rfl⟩) (preS_at C S [] rfl (by decide)) rfl rfl hl.1 rfl (lv_room (Nat.le_of_ble_eq_true rfl)) dX6_sees_1 ⟨Nat.le_of_ble_eq_true rfl, Nat.le_of_ble_eq_true rfl⟩) [] [0] rfl (wr := [(O, ob 6 [.ref h, .ref dh, .ref th, .ref HH, .ref IM, .ref SG, .ref P, .ref ca])]) rfl (by decide) (by decide) (fun r0 w0 H locs hq S => ?_)
  obtain ⟨rfl, rfl⟩ := hq
  have S : ST g A ss H locs [(O, ob 6 [.ref h, .ref dh, .ref th, .ref HH, .ref IM, .ref SG, .ref P, .ref ca])] := S
  refine br_eqB (tgt := 24) hx hb dX6_sees_4 (by decide) (fun c_1 => ?_) (fun c_1 => ?_)
  · -- 4 T
    rw [hld] at c_1; cases c_1
  · -- 4 F
    refine lv_iload_n hx hb dX6_sees_7 rfl (lv_at hl 2 rfl) ?_
    refine lv_bipush (v := (-9)) hx hb dX6_sees_8 (by decide) ?_
    refine lv_icmp_eq (tgt := 26) hx hb dX6_sees_10 (by decide) (fun c_2 => ?_) (fun c_2 => ?_)
    · -- 10 T
      exact absurd c_2 hy9
    · -- 10 F
      refine lv_iload_n hx hb dX6_sees_13 rfl (lv_at hl 2 rfl) ?_
      refine lv_if_lt (tgt := 24) hx hb dX6_sees_14 (by decide) (fun c_3 => ?_) (fun c_3 => ?_)
      · -- 14 T
        refine lv_iconst (v := (-1)) hx hb dX6_sees_24 (by decide) ?_
        exact ret_I C S hr dX6_sees_25 ⟨(by first | rfl | simp only [if_pos c_1, if_neg c_2, if_pos c_3]), (by first | rfl | simp only [if_pos c_1, if_neg c_2, if_pos c_3])⟩
      · -- 14 F
        refine lv_iload_n hx hb dX6_sees_17 rfl (lv_at hl 2 rfl) ?_
        refine lv_sipush (v := 9999) hx hb dX6_sees_18 (by decide) ?_
        refine lv_icmp_le (tgt := 26) hx hb dX6_sees_21 (by decide) (fun c_4 => ?_) (fun c_4 => ?_)
        · -- 21 T
          exact absurd hbad (by obtain ⟨w9, h9, rfl⟩ := ok_le (k := 9999) rfl (by decide) c_3 c_4; rw [ok_nI h9 (by decide)]; exact fun q9 => by cases q9)
        · -- 21 F
          refine lv_iconst (v := (-1)) hx hb dX6_sees_24 (by decide) ?_
          exact ret_I C S hr dX6_sees_25 ⟨(by first | rfl | simp only [if_pos c_1, if_neg c_2, if_neg c_3, if_neg c_4]), (by first | rfl | simp only [if_pos c_1, if_neg c_2, if_neg c_3, if_neg c_4])⟩

theorem inX6_seesf_X6 : ∀ w ∈ wsX60, w ∈ wsX6_sees := by decide +kernel
set_option maxRecDepth 100000 in
set_option maxHeartbeats 4000000 in
theorem kX6_seesf (l : Launch) (g : GG) (O : Nat) (dh : Nat) (th : Nat) (HH : Nat) (IM : Nat) (SG : Nat) (ca : Nat) (h : Nat) (P : Nat) (la : Nat) (ba : Nat) (lf : Nat → Int32) (bf : Nat → Int32) (sz : Nat) (p : Nat) (y : Int32) (hp : p < 1000) (hyok : y = (-9) ∨ okB y 10000 = true) (hsz : 6 ≤ sz) (hs6 : sz ≤ 6) : KI l g yX6_sees wsX6_sees 1 22 [.ref O, .int (nI p), .int y] [(O, ob 6 [.ref h, .ref dh, .ref th, .ref HH, .ref IM, .ref SG, .ref P, .ref ca]), (SG, ob 4 [.ref la, .ref ba, .int (nI sz)]), (la, aI g 6 lf), (ba, aI g 6 bf)] (fun (r : Int32) (w' : va_W) => r = (-3) ∧ w' = [(O, ob 6 [.ref h, .ref dh, .ref th, .ref HH, .ref IM, .ref SG, .ref P, .ref ca]), (SG, ob 4 [.ref la, .ref ba, .int (nI sz)]), (la, aI g 6 lf), (ba, aI g 6 bf)]) := by
  refine kI_of (cc := cX6_sees) (maxL := 3) (by decide) rfl (Nat.le_of_ble_eq_true rfl) ?_
  intro pp ee ss mm bel mth cd A ls C S hr hl
  obtain ⟨hx, hb, hml, hown, hts⟩ := id C.1
  have hl : lv_has ls 3 [(0, .ref O), (1, .int (nI p)), (2, .int y)] := hl
  obtain ⟨H, hH⟩ : ∃ H, H = ss.heap := ⟨_, rfl⟩
  obtain ⟨locs, hL0⟩ : ∃ L : List Loc, L = [] := ⟨_, rfl⟩
  rw [← hH, ← hL0] at S ⊢
  have hld : sX6_isLoad (nI p) = true := by rw [isLoad_eq]; exact ok_nI hp (by decide)
  refine lv_iload_n hx hb dX6_sees_0 rfl (lv_at hl 1 rfl) ?_
  refine after_I (wc := []) (y := yX6_isLoad) C S (va_runS (As := [.int (nI p)]) (rest := []) C.1 (kX6_isLoad l g (nI p) H.size) (va_cwS 1 hts gX6_sees_X6_isLoad rfl rfl rfl (by decide +kernel) ⟨Nat.le_of_ble_eq_true rfl, Nat.le_of_ble_eq_true rfl⟩) (preS_at C S [] rfl (by decide)) rfl rfl hl.1 rfl (lv_room (Nat.le_of_ble_eq_true rfl)) dX6_sees_1 ⟨Nat.le_of_ble_eq_true rfl, Nat.le_of_ble_eq_true rfl⟩) [] [0, 1, 2, 3] rfl (wr := [(O, ob 6 [.ref h, .ref dh, .ref th, .ref HH, .ref IM, .ref SG, .ref P, .ref ca]), (SG, ob 4 [.ref la, .ref ba, .int (nI sz)]), (la, aI g 6 lf), (ba, aI g 6 bf)]) rfl (by decide) (by decide) (fun r0 w0 H locs hq S => ?_)
  obtain ⟨rfl, rfl⟩ := hq
  have S : ST g A ss H locs [(O, ob 6 [.ref h, .ref dh, .ref th, .ref HH, .ref IM, .ref SG, .ref P, .ref ca]), (SG, ob 4 [.ref la, .ref ba, .int (nI sz)]), (la, aI g 6 lf), (ba, aI g 6 bf)] := S
  refine br_eqB (tgt := 24) hx hb dX6_sees_4 (by decide) (fun c_1 => ?_) (fun c_1 => ?_)
  · -- 4 T
    rw [hld] at c_1; cases c_1
  · -- 4 F
    refine lv_iload_n hx hb dX6_sees_7 rfl (lv_at hl 2 rfl) ?_
    refine lv_bipush (v := (-9)) hx hb dX6_sees_8 (by decide) ?_
    refine lv_icmp_eq (tgt := 26) hx hb dX6_sees_10 (by decide) (fun c_2 => ?_) (fun c_2 => ?_)
    · -- 10 T
      refine lv_aload_n hx hb dX6_sees_26 rfl (lv_at hl 0 rfl) ?_
      refine top_get C S inX6_seesf_X6 rfl 0 rfl 5 (by decide) (by decide +kernel) rfl rfl dX6_sees_27 ?_
      refine lv_iload_n hx hb dX6_sees_30 rfl (lv_at hl 1 rfl) ?_
      refine lv_iload_n hx hb dX6_sees_31 rfl (lv_at hl 2 rfl) ?_
      refine after_I (wc := [(SG, ob 4 [.ref la, .ref ba, .int (nI sz)]), (la, aI g 6 lf), (ba, aI g 6 bf)]) (y := yX4_append) C S (va_runV (As := [.int (nI p), .int y]) (rest := []) C.1 (kX4_appendn l g SG la ba lf bf sz (nI p) y (by first | assumption | omega) (by first | assumption | omega) H.size) (cwV 2 hts gX6_sees_X4_append rfl rfl rfl (by decide +kernel) ⟨Nat.le_of_ble_eq_true rfl, Nat.le_of_ble_eq_true rfl⟩) (preV_at C S 1 rfl rfl [1, 2, 3] rfl (by decide)) rfl rfl hl.1 rfl (lv_room (Nat.le_of_ble_eq_true rfl)) dX6_sees_32 ⟨Nat.le_of_ble_eq_true rfl, Nat.le_of_ble_eq_true rfl⟩) [1, 2, 3] [0] rfl (wr := [(O, ob 6 [.ref h, .ref dh, .ref th, .ref HH, .ref IM, .ref SG, .ref P, .ref ca])]) rfl (by decide) (by decide) (fun r0 w0 H locs hq S => ?_)
      obtain ⟨rfl, rfl⟩ := hq
      have S : ST g A ss H locs [(O, ob 6 [.ref h, .ref dh, .ref th, .ref HH, .ref IM, .ref SG, .ref P, .ref ca]), (SG, ob 4 [.ref la, .ref ba, .int (nI sz)]), (la, aI g 6 lf), (ba, aI g 6 bf)] := S
      refine br_eqB (tgt := 48) hx hb dX6_sees_35 (by decide) (fun c_3 => ?_) (fun c_3 => ?_)
      · -- 35 T
        refine lv_bipush (v := (-3)) hx hb dX6_sees_48 (by decide) ?_
        exact ret_I C S hr dX6_sees_50 ⟨(by first | rfl | simp only [if_pos c_1, if_pos c_2, if_neg (Bool.eq_false_iff.mp c_3)]), (by first | rfl | simp only [if_pos c_1, if_pos c_2, if_neg (Bool.eq_false_iff.mp c_3)])⟩
      · -- 35 F
        cases c_3
    · -- 10 F
      refine lv_iload_n hx hb dX6_sees_13 rfl (lv_at hl 2 rfl) ?_
      refine lv_if_lt (tgt := 24) hx hb dX6_sees_14 (by decide) (fun c_4 => ?_) (fun c_4 => ?_)
      · -- 14 T
        exact absurd hyok (by rw [ok_neg c_4]; simp [c_2])
      · -- 14 F
        refine lv_iload_n hx hb dX6_sees_17 rfl (lv_at hl 2 rfl) ?_
        refine lv_sipush (v := 9999) hx hb dX6_sees_18 (by decide) ?_
        refine lv_icmp_le (tgt := 26) hx hb dX6_sees_21 (by decide) (fun c_5 => ?_) (fun c_5 => ?_)
        · -- 21 T
          refine lv_aload_n hx hb dX6_sees_26 rfl (lv_at hl 0 rfl) ?_
          refine top_get C S inX6_seesf_X6 rfl 0 rfl 5 (by decide) (by decide +kernel) rfl rfl dX6_sees_27 ?_
          refine lv_iload_n hx hb dX6_sees_30 rfl (lv_at hl 1 rfl) ?_
          refine lv_iload_n hx hb dX6_sees_31 rfl (lv_at hl 2 rfl) ?_
          refine after_I (wc := [(SG, ob 4 [.ref la, .ref ba, .int (nI sz)]), (la, aI g 6 lf), (ba, aI g 6 bf)]) (y := yX4_append) C S (va_runV (As := [.int (nI p), .int y]) (rest := []) C.1 (kX4_appendn l g SG la ba lf bf sz (nI p) y (by first | assumption | omega) (by first | assumption | omega) H.size) (cwV 2 hts gX6_sees_X4_append rfl rfl rfl (by decide +kernel) ⟨Nat.le_of_ble_eq_true rfl, Nat.le_of_ble_eq_true rfl⟩) (preV_at C S 1 rfl rfl [1, 2, 3] rfl (by decide)) rfl rfl hl.1 rfl (lv_room (Nat.le_of_ble_eq_true rfl)) dX6_sees_32 ⟨Nat.le_of_ble_eq_true rfl, Nat.le_of_ble_eq_true rfl⟩) [1, 2, 3] [0] rfl (wr := [(O, ob 6 [.ref h, .ref dh, .ref th, .ref HH, .ref IM, .ref SG, .ref P, .ref ca])]) rfl (by decide) (by decide) (fun r0 w0 H locs hq S => ?_)
          obtain ⟨rfl, rfl⟩ := hq
          have S : ST g A ss H locs [(O, ob 6 [.ref h, .ref dh, .ref th, .ref HH, .ref IM, .ref SG, .ref P, .ref ca]), (SG, ob 4 [.ref la, .ref ba, .int (nI sz)]), (la, aI g 6 lf), (ba, aI g 6 bf)] := S
          refine br_eqB (tgt := 48) hx hb dX6_sees_35 (by decide) (fun c_6 => ?_) (fun c_6 => ?_)
          · -- 35 T
            refine lv_bipush (v := (-3)) hx hb dX6_sees_48 (by decide) ?_
            exact ret_I C S hr dX6_sees_50 ⟨(by first | rfl | simp only [if_pos c_1, if_neg c_2, if_neg c_4, if_pos c_5, if_neg (Bool.eq_false_iff.mp c_6)]), (by first | rfl | simp only [if_pos c_1, if_neg c_2, if_neg c_4, if_pos c_5, if_neg (Bool.eq_false_iff.mp c_6)])⟩
          · -- 35 F
            cases c_6
        · -- 21 F
          exact absurd hyok (by rw [ok_nle (k := 9999) rfl (by decide) c_5]; simp [c_2])

theorem inX6_seesg_X4 : ∀ w ∈ wsX40, w ∈ wsX6_sees := by decide +kernel
theorem inX6_seesg_X6 : ∀ w ∈ wsX60, w ∈ wsX6_sees := by decide +kernel
set_option maxRecDepth 100000 in
set_option maxHeartbeats 4000000 in
theorem kX6_seesg (l : Launch) (g : GG) (O : Nat) (dh : Nat) (th : Nat) (HH : Nat) (IM : Nat) (SG : Nat) (ca : Nat) (h : Nat) (P : Nat) (la : Nat) (ba : Nat) (lf : Nat → Int32) (bf : Nat → Int32) (sz : Nat) (p : Nat) (y : Int32) (hp : p < 1000) (hyok : y = (-9) ∨ okB y 10000 = true) (hsz : sz < 6) : KI l g yX6_sees wsX6_sees 1 22 [.ref O, .int (nI p), .int y] [(O, ob 6 [.ref h, .ref dh, .ref th, .ref HH, .ref IM, .ref SG, .ref P, .ref ca]), (SG, ob 4 [.ref la, .ref ba, .int (nI sz)]), (la, aI g 6 lf), (ba, aI g 6 bf)] (fun (r : Int32) (w' : va_W) => r = (nI (sz + 1)) ∧ w' = [(O, ob 6 [.ref h, .ref dh, .ref th, .ref HH, .ref IM, .ref SG, .ref P, .ref ca]), (SG, ob 4 [.ref la, .ref ba, .int (nI (sz + 1))]), (la, aI g 6 (upd lf sz (nI p))), (ba, aI g 6 (upd bf sz y))]) := by
  refine kI_of (cc := cX6_sees) (maxL := 3) (by decide) rfl (Nat.le_of_ble_eq_true rfl) ?_
  intro pp ee ss mm bel mth cd A ls C S hr hl
  obtain ⟨hx, hb, hml, hown, hts⟩ := id C.1
  have hl : lv_has ls 3 [(0, .ref O), (1, .int (nI p)), (2, .int y)] := hl
  obtain ⟨H, hH⟩ : ∃ H, H = ss.heap := ⟨_, rfl⟩
  obtain ⟨locs, hL0⟩ : ∃ L : List Loc, L = [] := ⟨_, rfl⟩
  rw [← hH, ← hL0] at S ⊢
  have hld : sX6_isLoad (nI p) = true := by rw [isLoad_eq]; exact ok_nI hp (by decide)
  refine lv_iload_n hx hb dX6_sees_0 rfl (lv_at hl 1 rfl) ?_
  refine after_I (wc := []) (y := yX6_isLoad) C S (va_runS (As := [.int (nI p)]) (rest := []) C.1 (kX6_isLoad l g (nI p) H.size) (va_cwS 1 hts gX6_sees_X6_isLoad rfl rfl rfl (by decide +kernel) ⟨Nat.le_of_ble_eq_true rfl, Nat.le_of_ble_eq_true rfl⟩) (preS_at C S [] rfl (by decide)) rfl rfl hl.1 rfl (lv_room (Nat.le_of_ble_eq_true rfl)) dX6_sees_1 ⟨Nat.le_of_ble_eq_true rfl, Nat.le_of_ble_eq_true rfl⟩) [] [0, 1, 2, 3] rfl (wr := [(O, ob 6 [.ref h, .ref dh, .ref th, .ref HH, .ref IM, .ref SG, .ref P, .ref ca]), (SG, ob 4 [.ref la, .ref ba, .int (nI sz)]), (la, aI g 6 lf), (ba, aI g 6 bf)]) rfl (by decide) (by decide) (fun r0 w0 H locs hq S => ?_)
  obtain ⟨rfl, rfl⟩ := hq
  have S : ST g A ss H locs [(O, ob 6 [.ref h, .ref dh, .ref th, .ref HH, .ref IM, .ref SG, .ref P, .ref ca]), (SG, ob 4 [.ref la, .ref ba, .int (nI sz)]), (la, aI g 6 lf), (ba, aI g 6 bf)] := S
  refine br_eqB (tgt := 24) hx hb dX6_sees_4 (by decide) (fun c_1 => ?_) (fun c_1 => ?_)
  · -- 4 T
    rw [hld] at c_1; cases c_1
  · -- 4 F
    refine lv_iload_n hx hb dX6_sees_7 rfl (lv_at hl 2 rfl) ?_
    refine lv_bipush (v := (-9)) hx hb dX6_sees_8 (by decide) ?_
    refine lv_icmp_eq (tgt := 26) hx hb dX6_sees_10 (by decide) (fun c_2 => ?_) (fun c_2 => ?_)
    · -- 10 T
      refine lv_aload_n hx hb dX6_sees_26 rfl (lv_at hl 0 rfl) ?_
      refine top_get C S inX6_seesg_X6 rfl 0 rfl 5 (by decide) (by decide +kernel) rfl rfl dX6_sees_27 ?_
      refine lv_iload_n hx hb dX6_sees_30 rfl (lv_at hl 1 rfl) ?_
      refine lv_iload_n hx hb dX6_sees_31 rfl (lv_at hl 2 rfl) ?_
      refine after_I (wc := [(SG, ob 4 [.ref la, .ref ba, .int (nI sz)]), (la, aI g 6 lf), (ba, aI g 6 bf)]) (y := yX4_append) C S (va_runV (As := [.int (nI p), .int y]) (rest := []) C.1 (kX4_appendy l g SG la ba lf bf sz (nI p) y (by first | assumption | omega) H.size) (cwV 2 hts gX6_sees_X4_append rfl rfl rfl (by decide +kernel) ⟨Nat.le_of_ble_eq_true rfl, Nat.le_of_ble_eq_true rfl⟩) (preV_at C S 1 rfl rfl [1, 2, 3] rfl (by decide)) rfl rfl hl.1 rfl (lv_room (Nat.le_of_ble_eq_true rfl)) dX6_sees_32 ⟨Nat.le_of_ble_eq_true rfl, Nat.le_of_ble_eq_true rfl⟩) [1, 2, 3] [0] rfl (wr := [(O, ob 6 [.ref h, .ref dh, .ref th, .ref HH, .ref IM, .ref SG, .ref P, .ref ca])]) rfl (by decide) (by decide) (fun r0 w0 H locs hq S => ?_)
      obtain ⟨rfl, rfl⟩ := hq
      have S : ST g A ss H locs [(O, ob 6 [.ref h, .ref dh, .ref th, .ref HH, .ref IM, .ref SG, .ref P, .ref ca]), (SG, ob 4 [.ref la, .ref ba, .int (nI (sz + 1))]), (la, aI g 6 (upd lf sz (nI p))), (ba, aI g 6 (upd bf sz y))] := S
      refine br_eqB (tgt := 48) hx hb dX6_sees_35 (by decide) (fun c_3 => ?_) (fun c_3 => ?_)
      · -- 35 T
        cases c_3
      · -- 35 F
        refine lv_aload_n hx hb dX6_sees_38 rfl (lv_at hl 0 rfl) ?_
        refine top_get C S inX6_seesg_X6 rfl 0 rfl 5 (by decide) (by decide +kernel) rfl rfl dX6_sees_39 ?_
        refine top_getN C S inX6_seesg_X4 rfl 1 rfl 2 (by decide) (by decide +kernel) rfl dX6_sees_42 ?_
        refine lv_goto (tgt := 50) hx hb dX6_sees_45 (by decide) ?_
        exact ret_I C S hr dX6_sees_50 ⟨(by first | rfl | simp only [if_pos c_1, if_pos c_2, if_pos c_3]), (by first | rfl | simp only [if_pos c_1, if_pos c_2, if_pos c_3])⟩
    · -- 10 F
      refine lv_iload_n hx hb dX6_sees_13 rfl (lv_at hl 2 rfl) ?_
      refine lv_if_lt (tgt := 24) hx hb dX6_sees_14 (by decide) (fun c_4 => ?_) (fun c_4 => ?_)
      · -- 14 T
        exact absurd hyok (by rw [ok_neg c_4]; simp [c_2])
      · -- 14 F
        refine lv_iload_n hx hb dX6_sees_17 rfl (lv_at hl 2 rfl) ?_
        refine lv_sipush (v := 9999) hx hb dX6_sees_18 (by decide) ?_
        refine lv_icmp_le (tgt := 26) hx hb dX6_sees_21 (by decide) (fun c_5 => ?_) (fun c_5 => ?_)
        · -- 21 T
          refine lv_aload_n hx hb dX6_sees_26 rfl (lv_at hl 0 rfl) ?_
          refine top_get C S inX6_seesg_X6 rfl 0 rfl 5 (by decide) (by decide +kernel) rfl rfl dX6_sees_27 ?_
          refine lv_iload_n hx hb dX6_sees_30 rfl (lv_at hl 1 rfl) ?_
          refine lv_iload_n hx hb dX6_sees_31 rfl (lv_at hl 2 rfl) ?_
          refine after_I (wc := [(SG, ob 4 [.ref la, .ref ba, .int (nI sz)]), (la, aI g 6 lf), (ba, aI g 6 bf)]) (y := yX4_append) C S (va_runV (As := [.int (nI p), .int y]) (rest := []) C.1 (kX4_appendy l g SG la ba lf bf sz (nI p) y (by first | assumption | omega) H.size) (cwV 2 hts gX6_sees_X4_append rfl rfl rfl (by decide +kernel) ⟨Nat.le_of_ble_eq_true rfl, Nat.le_of_ble_eq_true rfl⟩) (preV_at C S 1 rfl rfl [1, 2, 3] rfl (by decide)) rfl rfl hl.1 rfl (lv_room (Nat.le_of_ble_eq_true rfl)) dX6_sees_32 ⟨Nat.le_of_ble_eq_true rfl, Nat.le_of_ble_eq_true rfl⟩) [1, 2, 3] [0] rfl (wr := [(O, ob 6 [.ref h, .ref dh, .ref th, .ref HH, .ref IM, .ref SG, .ref P, .ref ca])]) rfl (by decide) (by decide) (fun r0 w0 H locs hq S => ?_)
          obtain ⟨rfl, rfl⟩ := hq
          have S : ST g A ss H locs [(O, ob 6 [.ref h, .ref dh, .ref th, .ref HH, .ref IM, .ref SG, .ref P, .ref ca]), (SG, ob 4 [.ref la, .ref ba, .int (nI (sz + 1))]), (la, aI g 6 (upd lf sz (nI p))), (ba, aI g 6 (upd bf sz y))] := S
          refine br_eqB (tgt := 48) hx hb dX6_sees_35 (by decide) (fun c_6 => ?_) (fun c_6 => ?_)
          · -- 35 T
            cases c_6
          · -- 35 F
            refine lv_aload_n hx hb dX6_sees_38 rfl (lv_at hl 0 rfl) ?_
            refine top_get C S inX6_seesg_X6 rfl 0 rfl 5 (by decide) (by decide +kernel) rfl rfl dX6_sees_39 ?_
            refine top_getN C S inX6_seesg_X4 rfl 1 rfl 2 (by decide) (by decide +kernel) rfl dX6_sees_42 ?_
            refine lv_goto (tgt := 50) hx hb dX6_sees_45 (by decide) ?_
            exact ret_I C S hr dX6_sees_50 ⟨(by first | rfl | simp only [if_pos c_1, if_neg c_2, if_neg c_4, if_pos c_5, if_pos c_6]), (by first | rfl | simp only [if_pos c_1, if_neg c_2, if_neg c_4, if_pos c_5, if_pos c_6])⟩
        · -- 21 F
          exact absurd hyok (by rw [ok_nle (k := 9999) rfl (by decide) c_5]; simp [c_2])

set_option maxRecDepth 100000 in
set_option maxHeartbeats 4000000 in
theorem kX6_keepb (l : Launch) (g : GG) (O : Nat) (dh : Nat) (th : Nat) (HH : Nat) (IM : Nat) (SG : Nat) (ca : Nat) (h : Nat) (P : Nat) (x : Int32) (hbad : okB x 2 = false) : KI l g yX6_keep wsX6_keep 0 0 [.ref O, .int x] [(O, ob 6 [.ref h, .ref dh, .ref th, .ref HH, .ref IM, .ref SG, .ref P, .ref ca])] (fun (r : Int32) (w' : va_W) => r = (-1) ∧ w' = [(O, ob 6 [.ref h, .ref dh, .ref th, .ref HH, .ref IM, .ref SG, .ref P, .ref ca])]) := by
  refine kI_of (cc := cX6_keep) (maxL := 2) (by decide) rfl (Nat.le_of_ble_eq_true rfl) ?_
  intro pp ee ss mm bel mth cd A ls C S hr hl
  obtain ⟨hx, hb, hml, hown, hts⟩ := id C.1
  have hl : lv_has ls 2 [(0, .ref O), (1, .int x)] := hl
  obtain ⟨H, hH⟩ : ∃ H, H = ss.heap := ⟨_, rfl⟩
  obtain ⟨locs, hL0⟩ : ∃ L : List Loc, L = [] := ⟨_, rfl⟩
  rw [← hH, ← hL0] at S ⊢
  refine lv_iload_n hx hb dX6_keep_0 rfl (lv_at hl 1 rfl) ?_
  refine lv_if_lt (tgt := 9) hx hb dX6_keep_1 (by decide) (fun c_1 => ?_) (fun c_1 => ?_)
  · -- 1 T
    refine lv_iconst (v := (-1)) hx hb dX6_keep_9 (by decide) ?_
    exact ret_I C S hr dX6_keep_10 ⟨(by first | rfl | simp only [if_pos c_1]), (by first | rfl | simp only [if_pos c_1])⟩
  · -- 1 F
    refine lv_iload_n hx hb dX6_keep_4 rfl (lv_at hl 1 rfl) ?_
    refine lv_iconst (v := 2) hx hb dX6_keep_5 (by decide) ?_
    refine lv_icmp_lt (tgt := 11) hx hb dX6_keep_6 (by decide) (fun c_2 => ?_) (fun c_2 => ?_)
    · -- 6 T
      exact absurd hbad (by obtain ⟨w9, h9, rfl⟩ := ok_lt2 c_1 c_2; rw [ok_nI h9 (by decide)]; exact fun q9 => by cases q9)
    · -- 6 F
      refine lv_iconst (v := (-1)) hx hb dX6_keep_9 (by decide) ?_
      exact ret_I C S hr dX6_keep_10 ⟨(by first | rfl | simp only [if_neg c_1, if_neg c_2]), (by first | rfl | simp only [if_neg c_1, if_neg c_2])⟩

theorem inX6_keepg_X2 : ∀ w ∈ wsX20, w ∈ wsX6_keep := by decide +kernel
theorem inX6_keepg_X6 : ∀ w ∈ wsX60, w ∈ wsX6_keep := by decide +kernel
set_option maxRecDepth 100000 in
set_option maxHeartbeats 4000000 in
theorem kX6_keepg (l : Launch) (g : GG) (O : Nat) (dh : Nat) (th : Nat) (HH : Nat) (IM : Nat) (SG : Nat) (ca : Nat) (h : Nat) (P : Nat) (q : Nat) (f : Nat → Int32) (n : Nat) (ww : Nat) (ig : Nat) (io : Nat → Option Nat) (c0 : Nat) (d0 : Nat) (c1 : Nat) (d1 : Nat) (gs : Nat → Nat → Int32) (ms : Nat → Nat) (vbs : Nat → Nat) (kb : Nat) (j : Nat) (hio : io 0 = some c0 ∧ io 1 = some c1) (hj : j < 2) (hkb : kb < 4) : KI l g yX6_keep wsX6_keep 3 107 [.ref O, .int (nI j)] [(O, ob 6 [.ref h, .ref dh, .ref th, .ref HH, .ref IM, .ref SG, .ref P, .ref ca]), (h, ob 2 [.ref q, .int (nI n), .int (nI ww)]), (q, aI g 32 f), (IM, ob 1 [.ref ig, .int (nI kb)]), (ig, aO g 2 io), (c0, ob 2 [.ref d0, .int (nI (ms 0)), .int (nI (vbs 0))]), (d0, aI g 32 (gs 0)), (c1, ob 2 [.ref d1, .int (nI (ms 1)), .int (nI (vbs 1))]), (d1, aI g 32 (gs 1))] (fun (r : Int32) (w' : va_W) => r = (nI n) ∧ ∃ (f' : Nat → Int32), (∀ j9, j9 < 32 → f' j9 = f j9) ∧ w' = [(O, ob 6 [.ref h, .ref dh, .ref th, .ref HH, .ref IM, .ref SG, .ref P, .ref ca]), (h, ob 2 [.ref q, .int (nI n), .int (nI ww)]), (q, aI g 32 f), (IM, ob 1 [.ref ig, .int (nI (kb ||| 2 ^ j))]), (ig, aO g 2 io), (c0, ob 2 [.ref d0, .int (nI (updA ms j n 0)), .int (nI (updA vbs j ww 0))]), (d0, aI g 32 (updA gs j f' 0)), (c1, ob 2 [.ref d1, .int (nI (updA ms j n 1)), .int (nI (updA vbs j ww 1))]), (d1, aI g 32 (updA gs j f' 1))]) := by
  refine kI_of (cc := cX6_keep) (maxL := 2) (by decide) rfl (Nat.le_of_ble_eq_true rfl) ?_
  intro pp ee ss mm bel mth cd A ls C S hr hl
  obtain ⟨hx, hb, hml, hown, hts⟩ := id C.1
  have hl : lv_has ls 2 [(0, .ref O), (1, .int (nI j))] := hl
  obtain ⟨H, hH⟩ : ∃ H, H = ss.heap := ⟨_, rfl⟩
  obtain ⟨locs, hL0⟩ : ∃ L : List Loc, L = [] := ⟨_, rfl⟩
  rw [← hH, ← hL0] at S ⊢
  refine lv_iload_n hx hb dX6_keep_0 rfl (lv_at hl 1 rfl) ?_
  refine bn_zlt (tgt := 9) (a := j) hx hb rfl (by omega) dX6_keep_1 (by decide) (fun c_1 => ?_) (fun c_1 => ?_)
  · -- 1 T
    exact absurd c_1 (Nat.not_lt_zero _)
  · -- 1 F
    refine lv_iload_n hx hb dX6_keep_4 rfl (lv_at hl 1 rfl) ?_
    refine lv_iconst (v := 2) hx hb dX6_keep_5 (by decide) ?_
    refine bn_ilt (tgt := 11) (a := j) (b := 2) hx hb rfl rfl (by omega) (by omega) dX6_keep_6 (by decide) (fun c_2 => ?_) (fun c_2 => ?_)
    · -- 6 T
      refine lv_aload_n hx hb dX6_keep_11 rfl (lv_at hl 0 rfl) ?_
      refine top_get C S inX6_keepg_X6 rfl 0 rfl 4 (by decide) (by decide +kernel) rfl rfl dX6_keep_12 ?_
      refine lv_iload_n hx hb dX6_keep_15 rfl (lv_at hl 1 rfl) ?_
      refine lv_aload_n hx hb dX6_keep_16 rfl (lv_at hl 0 rfl) ?_
      refine top_get C S inX6_keepg_X6 rfl 0 rfl 0 (by decide) (by decide +kernel) rfl rfl dX6_keep_17 ?_
      refine after_V (wc := [(IM, ob 1 [.ref ig, .int (nI kb)]), (ig, aO g 2 io), (c0, ob 2 [.ref d0, .int (nI (ms 0)), .int (nI (vbs 0))]), (d0, aI g 32 (gs 0)), (c1, ob 2 [.ref d1, .int (nI (ms 1)), .int (nI (vbs 1))]), (d1, aI g 32 (gs 1)), (h, ob 2 [.ref q, .int (nI n), .int (nI ww)]), (q, aI g 32 f)]) (y := yX1_put) C S (va_runV (As := [.int (nI j), .ref h]) (rest := []) C.1 (kX1_put l g IM ig io c0 d0 c1 d1 gs ms vbs kb h q f n ww j (by first | assumption | omega) (by first | assumption | omega) (by first | assumption | omega) H.size) (cwV 2 hts gX6_keep_X1_put rfl rfl rfl (by decide +kernel) ⟨Nat.le_of_ble_eq_true rfl, Nat.le_of_ble_eq_true rfl⟩) (preV_at C S 3 rfl rfl [3, 4, 5, 6, 7, 8, 1, 2] rfl (by decide)) rfl rfl hl.1 rfl (lv_room (Nat.le_of_ble_eq_true rfl)) dX6_keep_20 ⟨Nat.le_of_ble_eq_true rfl, Nat.le_of_ble_eq_true rfl⟩) [3, 4, 5, 6, 7, 8, 1, 2] [0] rfl (wr := [(O, ob 6 [.ref h, .ref dh, .ref th, .ref HH, .ref IM, .ref SG, .ref P, .ref ca])]) rfl (by decide) (by decide) (fun w0 H locs hq S => ?_)
      obtain ⟨f9, hf9, rfl⟩ := hq
      have S : ST g A ss H locs [(O, ob 6 [.ref h, .ref dh, .ref th, .ref HH, .ref IM, .ref SG, .ref P, .ref ca]), (h, ob 2 [.ref q, .int (nI n), .int (nI ww)]), (q, aI g 32 f), (IM, ob 1 [.ref ig, .int (nI (kb ||| 2 ^ j))]), (ig, aO g 2 io), (c0, ob 2 [.ref d0, .int (nI (updA ms j n 0)), .int (nI (updA vbs j ww 0))]), (d0, aI g 32 (updA gs j f9 0)), (c1, ob 2 [.ref d1, .int (nI (updA ms j n 1)), .int (nI (updA vbs j ww 1))]), (d1, aI g 32 (updA gs j f9 1))] := ST.sub S [0, 7, 8, 1, 2, 3, 4, 5, 6] (by decide) rfl
      refine lv_aload_n hx hb dX6_keep_23 rfl (lv_at hl 0 rfl) ?_
      refine top_get C S inX6_keepg_X6 rfl 0 rfl 0 (by decide) (by decide +kernel) rfl rfl dX6_keep_24 ?_
      refine top_getN C S inX6_keepg_X2 rfl 1 rfl 1 (by decide) (by decide +kernel) rfl dX6_keep_27 ?_
      exact ret_I C S hr dX6_keep_30 ⟨(by first | rfl | simp only [if_neg c_1, if_pos c_2]), f9, (hf9), (by first | rfl | simp only [if_neg c_1, if_pos c_2])⟩
    · -- 6 F
      exact absurd hj c_2

set_option maxRecDepth 100000 in
set_option maxHeartbeats 4000000 in
theorem kX6_backb (l : Launch) (g : GG) (O : Nat) (dh : Nat) (th : Nat) (HH : Nat) (IM : Nat) (SG : Nat) (ca : Nat) (h : Nat) (P : Nat) (x : Int32) (hbad : okB x 2 = false) : KI l g yX6_back wsX6_back 0 0 [.ref O, .int x] [(O, ob 6 [.ref h, .ref dh, .ref th, .ref HH, .ref IM, .ref SG, .ref P, .ref ca])] (fun (r : Int32) (w' : va_W) => r = (-1) ∧ w' = [(O, ob 6 [.ref h, .ref dh, .ref th, .ref HH, .ref IM, .ref SG, .ref P, .ref ca])]) := by
  refine kI_of (cc := cX6_back) (maxL := 2) (by decide) rfl (Nat.le_of_ble_eq_true rfl) ?_
  intro pp ee ss mm bel mth cd A ls C S hr hl
  obtain ⟨hx, hb, hml, hown, hts⟩ := id C.1
  have hl : lv_has ls 2 [(0, .ref O), (1, .int x)] := hl
  obtain ⟨H, hH⟩ : ∃ H, H = ss.heap := ⟨_, rfl⟩
  obtain ⟨locs, hL0⟩ : ∃ L : List Loc, L = [] := ⟨_, rfl⟩
  rw [← hH, ← hL0] at S ⊢
  refine lv_iload_n hx hb dX6_back_0 rfl (lv_at hl 1 rfl) ?_
  refine lv_if_lt (tgt := 9) hx hb dX6_back_1 (by decide) (fun c_1 => ?_) (fun c_1 => ?_)
  · -- 1 T
    refine lv_iconst (v := (-1)) hx hb dX6_back_9 (by decide) ?_
    exact ret_I C S hr dX6_back_10 ⟨(by first | rfl | simp only [if_pos c_1]), (by first | rfl | simp only [if_pos c_1])⟩
  · -- 1 F
    refine lv_iload_n hx hb dX6_back_4 rfl (lv_at hl 1 rfl) ?_
    refine lv_iconst (v := 2) hx hb dX6_back_5 (by decide) ?_
    refine lv_icmp_lt (tgt := 11) hx hb dX6_back_6 (by decide) (fun c_2 => ?_) (fun c_2 => ?_)
    · -- 6 T
      exact absurd hbad (by obtain ⟨w9, h9, rfl⟩ := ok_lt2 c_1 c_2; rw [ok_nI h9 (by decide)]; exact fun q9 => by cases q9)
    · -- 6 F
      refine lv_iconst (v := (-1)) hx hb dX6_back_9 (by decide) ?_
      exact ret_I C S hr dX6_back_10 ⟨(by first | rfl | simp only [if_neg c_1, if_neg c_2]), (by first | rfl | simp only [if_neg c_1, if_neg c_2])⟩

theorem inX6_backs_X6 : ∀ w ∈ wsX60, w ∈ wsX6_back := by decide +kernel
set_option maxRecDepth 100000 in
set_option maxHeartbeats 4000000 in
theorem kX6_backs (l : Launch) (g : GG) (O : Nat) (dh : Nat) (th : Nat) (HH : Nat) (IM : Nat) (SG : Nat) (ca : Nat) (h : Nat) (P : Nat) (q : Nat) (f : Nat → Int32) (n : Nat) (ww : Nat) (ig : Nat) (io : Nat → Option Nat) (c0 : Nat) (d0 : Nat) (c1 : Nat) (d1 : Nat) (gs : Nat → Nat → Int32) (ms : Nat → Nat) (vbs : Nat → Nat) (kb : Nat) (j : Nat) (hj : j < 2) (hkb : kb < 4) (hno : kb.testBit j = false) : KI l g yX6_back wsX6_back 2 43 [.ref O, .int (nI j)] [(O, ob 6 [.ref h, .ref dh, .ref th, .ref HH, .ref IM, .ref SG, .ref P, .ref ca]), (h, ob 2 [.ref q, .int (nI n), .int (nI ww)]), (q, aI g 32 f), (IM, ob 1 [.ref ig, .int (nI kb)]), (ig, aO g 2 io), (c0, ob 2 [.ref d0, .int (nI (ms 0)), .int (nI (vbs 0))]), (d0, aI g 32 (gs 0)), (c1, ob 2 [.ref d1, .int (nI (ms 1)), .int (nI (vbs 1))]), (d1, aI g 32 (gs 1))] (fun (r : Int32) (w' : va_W) => r = (-2) ∧ w' = [(O, ob 6 [.ref h, .ref dh, .ref th, .ref HH, .ref IM, .ref SG, .ref P, .ref ca]), (h, ob 2 [.ref q, .int (nI n), .int (nI ww)]), (q, aI g 32 f), (IM, ob 1 [.ref ig, .int (nI kb)]), (ig, aO g 2 io), (c0, ob 2 [.ref d0, .int (nI (ms 0)), .int (nI (vbs 0))]), (d0, aI g 32 (gs 0)), (c1, ob 2 [.ref d1, .int (nI (ms 1)), .int (nI (vbs 1))]), (d1, aI g 32 (gs 1))]) := by
  refine kI_of (cc := cX6_back) (maxL := 2) (by decide) rfl (Nat.le_of_ble_eq_true rfl) ?_
  intro pp ee ss mm bel mth cd A ls C S hr hl
  obtain ⟨hx, hb, hml, hown, hts⟩ := id C.1
  have hl : lv_has ls 2 [(0, .ref O), (1, .int (nI j))] := hl
  obtain ⟨H, hH⟩ : ∃ H, H = ss.heap := ⟨_, rfl⟩
  obtain ⟨locs, hL0⟩ : ∃ L : List Loc, L = [] := ⟨_, rfl⟩
  rw [← hH, ← hL0] at S ⊢
  refine lv_iload_n hx hb dX6_back_0 rfl (lv_at hl 1 rfl) ?_
  refine bn_zlt (tgt := 9) (a := j) hx hb rfl (by omega) dX6_back_1 (by decide) (fun c_1 => ?_) (fun c_1 => ?_)
  · -- 1 T
    exact absurd c_1 (Nat.not_lt_zero _)
  · -- 1 F
    refine lv_iload_n hx hb dX6_back_4 rfl (lv_at hl 1 rfl) ?_
    refine lv_iconst (v := 2) hx hb dX6_back_5 (by decide) ?_
    refine bn_ilt (tgt := 11) (a := j) (b := 2) hx hb rfl rfl (by omega) (by omega) dX6_back_6 (by decide) (fun c_2 => ?_) (fun c_2 => ?_)
    · -- 6 T
      refine lv_aload_n hx hb dX6_back_11 rfl (lv_at hl 0 rfl) ?_
      refine top_get C S inX6_backs_X6 rfl 0 rfl 4 (by decide) (by decide +kernel) rfl rfl dX6_back_12 ?_
      refine lv_iload_n hx hb dX6_back_15 rfl (lv_at hl 1 rfl) ?_
      refine lv_aload_n hx hb dX6_back_16 rfl (lv_at hl 0 rfl) ?_
      refine top_get C S inX6_backs_X6 rfl 0 rfl 0 (by decide) (by decide +kernel) rfl rfl dX6_back_17 ?_
      refine after_I (wc := [(IM, ob 1 [.ref ig, .int (nI kb)]), (ig, aO g 2 io), (c0, ob 2 [.ref d0, .int (nI (ms 0)), .int (nI (vbs 0))]), (d0, aI g 32 (gs 0)), (c1, ob 2 [.ref d1, .int (nI (ms 1)), .int (nI (vbs 1))]), (d1, aI g 32 (gs 1)), (h, ob 2 [.ref q, .int (nI n), .int (nI ww)]), (q, aI g 32 f)]) (y := yX1_getInto) C S (va_runV (As := [.int (nI j), .ref h]) (rest := []) C.1 (kX1_getInton l g IM ig io c0 d0 c1 d1 gs ms vbs kb h q f n ww j (by first | assumption | omega) (by first | assumption | omega) (by first | assumption | omega) H.size) (cwV 2 hts gX6_back_X1_getInto rfl rfl rfl (by decide +kernel) ⟨Nat.le_of_ble_eq_true rfl, Nat.le_of_ble_eq_true rfl⟩) (preV_at C S 3 rfl rfl [3, 4, 5, 6, 7, 8, 1, 2] rfl (by decide)) rfl rfl hl.1 rfl (lv_room (Nat.le_of_ble_eq_true rfl)) dX6_back_20 ⟨Nat.le_of_ble_eq_true rfl, Nat.le_of_ble_eq_true rfl⟩) [3, 4, 5, 6, 7, 8, 1, 2] [0] rfl (wr := [(O, ob 6 [.ref h, .ref dh, .ref th, .ref HH, .ref IM, .ref SG, .ref P, .ref ca])]) rfl (by decide) (by decide) (fun r0 w0 H locs hq S => ?_)
      obtain ⟨rfl, rfl⟩ := hq
      have S : ST g A ss H locs [(O, ob 6 [.ref h, .ref dh, .ref th, .ref HH, .ref IM, .ref SG, .ref P, .ref ca]), (h, ob 2 [.ref q, .int (nI n), .int (nI ww)]), (q, aI g 32 f), (IM, ob 1 [.ref ig, .int (nI kb)]), (ig, aO g 2 io), (c0, ob 2 [.ref d0, .int (nI (ms 0)), .int (nI (vbs 0))]), (d0, aI g 32 (gs 0)), (c1, ob 2 [.ref d1, .int (nI (ms 1)), .int (nI (vbs 1))]), (d1, aI g 32 (gs 1))] := ST.sub S [0, 7, 8, 1, 2, 3, 4, 5, 6] (by decide) rfl
      refine br_neB (tgt := 29) hx hb dX6_back_23 (by decide) (fun c_3 => ?_) (fun c_3 => ?_)
      · -- 23 T
        cases c_3
      · -- 23 F
        refine lv_bipush (v := (-2)) hx hb dX6_back_26 (by decide) ?_
        exact ret_I C S hr dX6_back_28 ⟨(by first | rfl | simp only [if_neg c_1, if_pos c_2, if_neg (Bool.eq_false_iff.mp c_3)]), (by first | rfl | simp only [if_neg c_1, if_pos c_2, if_neg (Bool.eq_false_iff.mp c_3)])⟩
    · -- 6 F
      exact absurd hj c_2

theorem inX6_backg_X2 : ∀ w ∈ wsX20, w ∈ wsX6_back := by decide +kernel
theorem inX6_backg_X6 : ∀ w ∈ wsX60, w ∈ wsX6_back := by decide +kernel
set_option maxRecDepth 100000 in
set_option maxHeartbeats 4000000 in
theorem kX6_backg (l : Launch) (g : GG) (O : Nat) (dh : Nat) (th : Nat) (HH : Nat) (IM : Nat) (SG : Nat) (ca : Nat) (h : Nat) (P : Nat) (q : Nat) (f : Nat → Int32) (n : Nat) (ww : Nat) (ig : Nat) (io : Nat → Option Nat) (c0 : Nat) (d0 : Nat) (c1 : Nat) (d1 : Nat) (gs : Nat → Nat → Int32) (ms : Nat → Nat) (vbs : Nat → Nat) (kb : Nat) (rg : Nat) (ro : Nat → Option Nat) (k : Nat) (z : Nat) (j : Nat) (hio : io 0 = some c0 ∧ io 1 = some c1) (hj : j < 2) (hkb : kb < 4) (hyes : kb.testBit j = true) : KI l g yX6_back wsX6_back 3 107 [.ref O, .int (nI j)] [(O, ob 6 [.ref h, .ref dh, .ref th, .ref HH, .ref IM, .ref SG, .ref P, .ref ca]), (h, ob 2 [.ref q, .int (nI n), .int (nI ww)]), (q, aI g 32 f), (IM, ob 1 [.ref ig, .int (nI kb)]), (ig, aO g 2 io), (c0, ob 2 [.ref d0, .int (nI (ms 0)), .int (nI (vbs 0))]), (d0, aI g 32 (gs 0)), (c1, ob 2 [.ref d1, .int (nI (ms 1)), .int (nI (vbs 1))]), (d1, aI g 32 (gs 1)), (HH, ob 0 [.ref rg, .int (nI k), .int (nI z)]), (rg, aO g 6 ro)] (fun (r : Int32) (w' : va_W) => r = (nI (ms j)) ∧ ∃ (f' : Nat → Int32), (∀ j9, j9 < 32 → f' j9 = gs j j9) ∧ w' = [(O, ob 6 [.ref h, .ref dh, .ref th, .ref HH, .ref IM, .ref SG, .ref P, .ref ca]), (h, ob 2 [.ref q, .int (nI (ms j)), .int (nI (vbs j))]), (q, aI g 32 f'), (IM, ob 1 [.ref ig, .int (nI kb)]), (ig, aO g 2 io), (c0, ob 2 [.ref d0, .int (nI (ms 0)), .int (nI (vbs 0))]), (d0, aI g 32 (gs 0)), (c1, ob 2 [.ref d1, .int (nI (ms 1)), .int (nI (vbs 1))]), (d1, aI g 32 (gs 1)), (HH, ob 0 [.ref rg, .int (nI k), .int (nI 0)]), (rg, aO g 6 ro)]) := by
  refine kI_of (cc := cX6_back) (maxL := 2) (by decide) rfl (Nat.le_of_ble_eq_true rfl) ?_
  intro pp ee ss mm bel mth cd A ls C S hr hl
  obtain ⟨hx, hb, hml, hown, hts⟩ := id C.1
  have hl : lv_has ls 2 [(0, .ref O), (1, .int (nI j))] := hl
  obtain ⟨H, hH⟩ : ∃ H, H = ss.heap := ⟨_, rfl⟩
  obtain ⟨locs, hL0⟩ : ∃ L : List Loc, L = [] := ⟨_, rfl⟩
  rw [← hH, ← hL0] at S ⊢
  refine lv_iload_n hx hb dX6_back_0 rfl (lv_at hl 1 rfl) ?_
  refine bn_zlt (tgt := 9) (a := j) hx hb rfl (by omega) dX6_back_1 (by decide) (fun c_1 => ?_) (fun c_1 => ?_)
  · -- 1 T
    exact absurd c_1 (Nat.not_lt_zero _)
  · -- 1 F
    refine lv_iload_n hx hb dX6_back_4 rfl (lv_at hl 1 rfl) ?_
    refine lv_iconst (v := 2) hx hb dX6_back_5 (by decide) ?_
    refine bn_ilt (tgt := 11) (a := j) (b := 2) hx hb rfl rfl (by omega) (by omega) dX6_back_6 (by decide) (fun c_2 => ?_) (fun c_2 => ?_)
    · -- 6 T
      refine lv_aload_n hx hb dX6_back_11 rfl (lv_at hl 0 rfl) ?_
      refine top_get C S inX6_backg_X6 rfl 0 rfl 4 (by decide) (by decide +kernel) rfl rfl dX6_back_12 ?_
      refine lv_iload_n hx hb dX6_back_15 rfl (lv_at hl 1 rfl) ?_
      refine lv_aload_n hx hb dX6_back_16 rfl (lv_at hl 0 rfl) ?_
      refine top_get C S inX6_backg_X6 rfl 0 rfl 0 (by decide) (by decide +kernel) rfl rfl dX6_back_17 ?_
      refine after_I (wc := [(IM, ob 1 [.ref ig, .int (nI kb)]), (ig, aO g 2 io), (c0, ob 2 [.ref d0, .int (nI (ms 0)), .int (nI (vbs 0))]), (d0, aI g 32 (gs 0)), (c1, ob 2 [.ref d1, .int (nI (ms 1)), .int (nI (vbs 1))]), (d1, aI g 32 (gs 1)), (h, ob 2 [.ref q, .int (nI n), .int (nI ww)]), (q, aI g 32 f)]) (y := yX1_getInto) C S (va_runV (As := [.int (nI j), .ref h]) (rest := []) C.1 (kX1_getIntoy l g IM ig io c0 d0 c1 d1 gs ms vbs kb h q f n ww j (by first | assumption | omega) (by first | assumption | omega) (by first | assumption | omega) (by first | assumption | omega) H.size) (cwV 2 hts gX6_back_X1_getInto rfl rfl rfl (by decide +kernel) ⟨Nat.le_of_ble_eq_true rfl, Nat.le_of_ble_eq_true rfl⟩) (preV_at C S 3 rfl rfl [3, 4, 5, 6, 7, 8, 1, 2] rfl (by decide)) rfl rfl hl.1 rfl (lv_room (Nat.le_of_ble_eq_true rfl)) dX6_back_20 ⟨Nat.le_of_ble_eq_true rfl, Nat.le_of_ble_eq_true rfl⟩) [3, 4, 5, 6, 7, 8, 1, 2] [0, 9, 10] rfl (wr := [(O, ob 6 [.ref h, .ref dh, .ref th, .ref HH, .ref IM, .ref SG, .ref P, .ref ca]), (HH, ob 0 [.ref rg, .int (nI k), .int (nI z)]), (rg, aO g 6 ro)]) rfl (by decide) (by decide) (fun r0 w0 H locs hq S => ?_)
      obtain ⟨rfl, f9, hf9, rfl⟩ := hq
      have S : ST g A ss H locs [(O, ob 6 [.ref h, .ref dh, .ref th, .ref HH, .ref IM, .ref SG, .ref P, .ref ca]), (h, ob 2 [.ref q, .int (nI (ms j)), .int (nI (vbs j))]), (q, aI g 32 f9), (IM, ob 1 [.ref ig, .int (nI kb)]), (ig, aO g 2 io), (c0, ob 2 [.ref d0, .int (nI (ms 0)), .int (nI (vbs 0))]), (d0, aI g 32 (gs 0)), (c1, ob 2 [.ref d1, .int (nI (ms 1)), .int (nI (vbs 1))]), (d1, aI g 32 (gs 1)), (HH, ob 0 [.ref rg, .int (nI k), .int (nI z)]), (rg, aO g 6 ro)] := ST.sub S [0, 9, 10, 3, 4, 5, 6, 7, 8, 1, 2] (by decide) rfl
      refine br_neB (tgt := 29) hx hb dX6_back_23 (by decide) (fun c_3 => ?_) (fun c_3 => ?_)
      · -- 23 T
        refine lv_aload_n hx hb dX6_back_29 rfl (lv_at hl 0 rfl) ?_
        refine top_get C S inX6_backg_X6 rfl 0 rfl 3 (by decide) (by decide +kernel) rfl rfl dX6_back_30 ?_
        refine after_V (wc := [(HH, ob 0 [.ref rg, .int (nI k), .int (nI z)]), (rg, aO g 6 ro)]) (y := yX0_empty) C S (va_runV (As := []) (rest := []) C.1 (kX0_empty l g HH rg ro k z H.size) (cwV 0 hts gX6_back_X0_empty rfl rfl rfl (by decide +kernel) ⟨Nat.le_of_ble_eq_true rfl, Nat.le_of_ble_eq_true rfl⟩) (preV_at C S 9 rfl rfl [9, 10] rfl (by decide)) rfl rfl hl.1 rfl (lv_room (Nat.le_of_ble_eq_true rfl)) dX6_back_33 ⟨Nat.le_of_ble_eq_true rfl, Nat.le_of_ble_eq_true rfl⟩) [9, 10] [0, 1, 2, 3, 4, 5, 6, 7, 8] rfl (wr := [(O, ob 6 [.ref h, .ref dh, .ref th, .ref HH, .ref IM, .ref SG, .ref P, .ref ca]), (h, ob 2 [.ref q, .int (nI (ms j)), .int (nI (vbs j))]), (q, aI g 32 f9), (IM, ob 1 [.ref ig, .int (nI kb)]), (ig, aO g 2 io), (c0, ob 2 [.ref d0, .int (nI (ms 0)), .int (nI (vbs 0))]), (d0, aI g 32 (gs 0)), (c1, ob 2 [.ref d1, .int (nI (ms 1)), .int (nI (vbs 1))]), (d1, aI g 32 (gs 1))]) rfl (by decide) (by decide) (fun w0 H locs hq S => ?_)
        subst hq
        have S : ST g A ss H locs [(O, ob 6 [.ref h, .ref dh, .ref th, .ref HH, .ref IM, .ref SG, .ref P, .ref ca]), (h, ob 2 [.ref q, .int (nI (ms j)), .int (nI (vbs j))]), (q, aI g 32 f9), (IM, ob 1 [.ref ig, .int (nI kb)]), (ig, aO g 2 io), (c0, ob 2 [.ref d0, .int (nI (ms 0)), .int (nI (vbs 0))]), (d0, aI g 32 (gs 0)), (c1, ob 2 [.ref d1, .int (nI (ms 1)), .int (nI (vbs 1))]), (d1, aI g 32 (gs 1)), (HH, ob 0 [.ref rg, .int (nI k), .int (nI 0)]), (rg, aO g 6 ro)] := S
        refine lv_aload_n hx hb dX6_back_36 rfl (lv_at hl 0 rfl) ?_
        refine top_get C S inX6_backg_X6 rfl 0 rfl 0 (by decide) (by decide +kernel) rfl rfl dX6_back_37 ?_
        refine top_getN C S inX6_backg_X2 rfl 1 rfl 1 (by decide) (by decide +kernel) rfl dX6_back_40 ?_
        exact ret_I C S hr dX6_back_43 ⟨(by first | rfl | simp only [if_neg c_1, if_pos c_2, if_pos c_3]), f9, (hf9), (by first | rfl | simp only [if_neg c_1, if_pos c_2, if_pos c_3])⟩
      · -- 23 F
        cases c_3
    · -- 6 F
      exact absurd hj c_2
