set_option maxRecDepth 100000 in
set_option maxHeartbeats 4000000 in
theorem kX7_inz (l : Launch) (g : GG) (v : Int32) (m : Nat) (hm : m < 2 ^ 30) : KI l g yX7_in wsX7_in 0 0 [.int v, .int 0, .int (nI m)] [] (fun (r : Int32) (w' : va_W) => r = (bI (okB v (m + 1))) ∧ w' = []) := by
  refine kI_of (cc := cX7_in) (maxL := 3) (by decide) rfl (Nat.le_of_ble_eq_true rfl) ?_
  intro pp ee ss mm bel mth cd A ls C S hr hl
  obtain ⟨hx, hb, hml, hown, hts⟩ := id C.1
  have hl : lv_has ls 3 [(0, .int v), (1, .int 0), (2, .int (nI m))] := hl
  obtain ⟨H, hH⟩ : ∃ H, H = ss.heap := ⟨_, rfl⟩
  obtain ⟨locs, hL0⟩ : ∃ L : List Loc, L = [] := ⟨_, rfl⟩
  rw [← hH, ← hL0] at S ⊢
  refine lv_iload_n hx hb dX7_in_0 rfl (lv_at hl 0 rfl) ?_
  refine lv_iload_n hx hb dX7_in_1 rfl (lv_at hl 1 rfl) ?_
  refine lv_icmp_lt (tgt := 14) hx hb dX7_in_2 (by decide) (fun c_1 => ?_) (fun c_1 => ?_)
  · -- 2 T
    refine lv_iconst (v := 0) hx hb dX7_in_14 (by decide) ?_
    exact ret_Z (okB v (m + 1)) C S hr dX7_in_15 (by rw [ok_neg c_1]; rfl) ⟨(by rw [ok_neg c_1]; rfl), (rfl)⟩
  · -- 2 F
    refine lv_iload_n hx hb dX7_in_5 rfl (lv_at hl 0 rfl) ?_
    refine lv_iload_n hx hb dX7_in_6 rfl (lv_at hl 2 rfl) ?_
    refine lv_icmp_gt (tgt := 14) hx hb dX7_in_7 (by decide) (fun c_2 => ?_) (fun c_2 => ?_)
    · -- 7 T
      refine lv_iconst (v := 0) hx hb dX7_in_14 (by decide) ?_
      exact ret_Z (okB v (m + 1)) C S hr dX7_in_15 (by rw [ok_ngt rfl (by omega) c_2]; rfl) ⟨(by rw [ok_ngt rfl (by omega) c_2]; rfl), (rfl)⟩
    · -- 7 F
      refine lv_iconst (v := 1) hx hb dX7_in_10 (by decide) ?_
      refine lv_goto (tgt := 15) hx hb dX7_in_11 (by decide) ?_
      exact ret_Z (okB v (m + 1)) C S hr dX7_in_15 (by obtain ⟨j9, h9, rfl⟩ := ok_gt rfl (by omega) c_1 c_2; rw [ok_nI h9 (by omega)]; rfl) ⟨(by obtain ⟨j9, h9, rfl⟩ := ok_gt rfl (by omega) c_1 c_2; rw [ok_nI h9 (by omega)]; rfl), (rfl)⟩

set_option maxRecDepth 100000 in
set_option maxHeartbeats 4000000 in
theorem kX7_inn (l : Launch) (g : GG) (v : Nat) (a : Nat) (b : Nat) (hv : v < 2 ^ 31) (ha : a < 2 ^ 31) (hb1 : b < 2 ^ 31) : KI l g yX7_in wsX7_in 0 0 [.int (nI v), .int (nI a), .int (nI b)] [] (fun (r : Int32) (w' : va_W) => r = (bI (decide (a ≤ v ∧ v ≤ b))) ∧ w' = []) := by
  refine kI_of (cc := cX7_in) (maxL := 3) (by decide) rfl (Nat.le_of_ble_eq_true rfl) ?_
  intro pp ee ss mm bel mth cd A ls C S hr hl
  obtain ⟨hx, hb, hml, hown, hts⟩ := id C.1
  have hl : lv_has ls 3 [(0, .int (nI v)), (1, .int (nI a)), (2, .int (nI b))] := hl
  obtain ⟨H, hH⟩ : ∃ H, H = ss.heap := ⟨_, rfl⟩
  obtain ⟨locs, hL0⟩ : ∃ L : List Loc, L = [] := ⟨_, rfl⟩
  rw [← hH, ← hL0] at S ⊢
  refine lv_iload_n hx hb dX7_in_0 rfl (lv_at hl 0 rfl) ?_
  refine lv_iload_n hx hb dX7_in_1 rfl (lv_at hl 1 rfl) ?_
  refine bn_ilt (tgt := 14) (a := v) (b := a) hx hb rfl rfl (by omega) (by omega) dX7_in_2 (by decide) (fun c_1 => ?_) (fun c_1 => ?_)
  · -- 2 T
    refine lv_iconst (v := 0) hx hb dX7_in_14 (by decide) ?_
    exact ret_Z (decide (a ≤ v ∧ v ≤ b)) C S hr dX7_in_15 (by rw [decide_eq_false (by omega)]; rfl) ⟨(by rw [decide_eq_false (by omega)]; rfl), (rfl)⟩
  · -- 2 F
    refine lv_iload_n hx hb dX7_in_5 rfl (lv_at hl 0 rfl) ?_
    refine lv_iload_n hx hb dX7_in_6 rfl (lv_at hl 2 rfl) ?_
    refine bn_igt (tgt := 14) (a := v) (b := b) hx hb rfl rfl (by omega) (by omega) dX7_in_7 (by decide) (fun c_2 => ?_) (fun c_2 => ?_)
    · -- 7 T
      refine lv_iconst (v := 0) hx hb dX7_in_14 (by decide) ?_
      exact ret_Z (decide (a ≤ v ∧ v ≤ b)) C S hr dX7_in_15 (by rw [decide_eq_false (by omega)]; rfl) ⟨(by rw [decide_eq_false (by omega)]; rfl), (rfl)⟩
    · -- 7 F
      refine lv_iconst (v := 1) hx hb dX7_in_10 (by decide) ?_
      refine lv_goto (tgt := 15) hx hb dX7_in_11 (by decide) ?_
      exact ret_Z (decide (a ≤ v ∧ v ≤ b)) C S hr dX7_in_15 (by rw [decide_eq_true (by omega)]; rfl) ⟨(by rw [decide_eq_true (by omega)]; rfl), (rfl)⟩

set_option maxRecDepth 100000 in
set_option maxHeartbeats 4000000 in
theorem kX7_has (l : Launch) (g : GG) (ww : Nat) (i : Nat) (hw : ww < 512) (hi : i < 31) : KI l g yX7_has wsX7_has 0 0 [.int (nI ww), .int (nI i)] [] (fun (r : Int32) (w' : va_W) => r = (bI (ww.testBit i)) ∧ w' = []) := by
  refine kI_of (cc := cX7_has) (maxL := 2) (by decide) rfl (Nat.le_of_ble_eq_true rfl) ?_
  intro pp ee ss mm bel mth cd A ls C S hr hl
  obtain ⟨hx, hb, hml, hown, hts⟩ := id C.1
  have hl : lv_has ls 2 [(0, .int (nI ww)), (1, .int (nI i))] := hl
  obtain ⟨H, hH⟩ : ∃ H, H = ss.heap := ⟨_, rfl⟩
  obtain ⟨locs, hL0⟩ : ∃ L : List Loc, L = [] := ⟨_, rfl⟩
  rw [← hH, ← hL0] at S ⊢
  refine lv_iload_n hx hb dX7_has_0 rfl (lv_at hl 0 rfl) ?_
  refine lv_iload_n hx hb dX7_has_1 rfl (lv_at hl 1 rfl) ?_
  refine lv_ishr hx hb dX7_has_2 ?_
  refine lv_iconst (v := 1) hx hb dX7_has_3 (by decide) ?_
  refine lv_iand hx hb dX7_has_4 ?_
  refine lv_iconst (v := 1) hx hb dX7_has_5 (by decide) ?_
  refine lv_icmp_ne (tgt := 13) hx hb dX7_has_6 (by decide) (fun c_1 => ?_) (fun c_1 => ?_)
  · -- 6 T
    refine lv_iconst (v := 0) hx hb dX7_has_13 (by decide) ?_
    exact ret_Z (ww.testBit i) C S hr dX7_has_14 (by rw [show ww.testBit i = false from Bool.eq_false_iff.mpr (fun q9 => c_1 ((bit_1 (by omega) (by omega)).mpr q9))]; rfl) ⟨(by rw [show ww.testBit i = false from Bool.eq_false_iff.mpr (fun q9 => c_1 ((bit_1 (by omega) (by omega)).mpr q9))]; rfl), (rfl)⟩
  · -- 6 F
    refine lv_iconst (v := 1) hx hb dX7_has_9 (by decide) ?_
    refine lv_goto (tgt := 14) hx hb dX7_has_10 (by decide) ?_
    exact ret_Z (ww.testBit i) C S hr dX7_has_14 (by rw [(bit_1 (by omega) (by omega)).mp c_1]; rfl) ⟨(by rw [(bit_1 (by omega) (by omega)).mp c_1]; rfl), (rfl)⟩

theorem inX7_isLeaf_X7 : ∀ w ∈ wsX70, w ∈ wsX7_isLeaf := by decide +kernel
set_option maxRecDepth 100000 in
set_option maxHeartbeats 4000000 in
theorem kX7_isLeaf (l : Launch) (g : GG) (M : Nat) (nw : Nat) (dr : Nat) (pa : Nat) (im : Nat) (ke : Nat) (fl : Nat) (fq : Nat) (te : Nat) (ni : Nat) (re : Nat) (ma : Nat) (be : Nat) (ypa : Int32) (yfa : Int32) (yty : Int32) (yat : Int32) (yst : Int32) (yso : Int32) (yva : Int32) (yab : Int32) (ybl : Int32) (yis : Int32) (yra : Int32) (gn : Nat → Int32) (n : Nat) (x : Int32) (hn : n ≤ 8) (hg0 : gn 0 = nI n) (hn1 : 1 ≤ n) : KI l g yX7_isLeaf wsX7_isLeaf 1 22 [.ref M, .int x] [(M, ob 7 [.ref nw, .ref dr, .ref pa, .int ypa, .ref im, .ref ke, .ref fl, .ref fq, .int yfa, .ref te, .int yty, .int yat, .int yst, .int yso, .int yva, .ref ni, .ref re, .int yab, .int ybl, .int yis, .int yra, .ref ma, .ref be]), (nw, aI g 41 gn)] (fun (r : Int32) (w' : va_W) => r = (bI (okB x n)) ∧ w' = [(M, ob 7 [.ref nw, .ref dr, .ref pa, .int ypa, .ref im, .ref ke, .ref fl, .ref fq, .int yfa, .ref te, .int yty, .int yat, .int yst, .int yso, .int yva, .ref ni, .ref re, .int yab, .int ybl, .int yis, .int yra, .ref ma, .ref be]), (nw, aI g 41 gn)]) := by
  refine kI_of (cc := cX7_isLeaf) (maxL := 2) (by decide) rfl (Nat.le_of_ble_eq_true rfl) ?_
  intro pp ee ss mm bel mth cd A ls C S hr hl
  obtain ⟨hx, hb, hml, hown, hts⟩ := id C.1
  have hl : lv_has ls 2 [(0, .ref M), (1, .int x)] := hl
  obtain ⟨H, hH⟩ : ∃ H, H = ss.heap := ⟨_, rfl⟩
  obtain ⟨locs, hL0⟩ : ∃ L : List Loc, L = [] := ⟨_, rfl⟩
  rw [← hH, ← hL0] at S ⊢
  refine lv_iload_n hx hb dX7_isLeaf_0 rfl (lv_at hl 1 rfl) ?_
  refine lv_iconst (v := 0) hx hb dX7_isLeaf_1 (by decide) ?_
  refine lv_aload_n hx hb dX7_isLeaf_2 rfl (lv_at hl 0 rfl) ?_
  refine top_get C S inX7_isLeaf_X7 rfl 0 rfl 0 (by decide) (by decide +kernel) rfl rfl dX7_isLeaf_3 ?_
  refine lv_iconst (v := 0) hx hb dX7_isLeaf_6 (by decide) ?_
  refine top_ild C S 1 rfl (j := 0) rfl (by omega) (by decide) dX7_isLeaf_7 ?_
  refine top_eq (y := nI n) hg0 ?_
  refine lv_iconst (v := 1) hx hb dX7_isLeaf_8 (by decide) ?_
  refine lv_isub hx hb dX7_isLeaf_9 ?_
  refine top_eq (y := nI (n - 1)) (pk_sub (a := n) (b := 1) (by omega)) ?_
  refine after_I (wc := []) (y := yX7_in) C S (va_runS (As := [.int x, .int 0, .int (nI (n - 1))]) (rest := []) C.1 (kX7_inz l g x (n - 1) (by first | assumption | omega) H.size) (va_cwS 3 hts gX7_isLeaf_X7_in rfl rfl rfl (by decide +kernel) ⟨Nat.le_of_ble_eq_true rfl, Nat.le_of_ble_eq_true rfl⟩) (preS_at C S [] rfl (by decide)) rfl rfl hl.1 rfl (lv_room (Nat.le_of_ble_eq_true rfl)) dX7_isLeaf_10 ⟨Nat.le_of_ble_eq_true rfl, Nat.le_of_ble_eq_true rfl⟩) [] [0, 1] rfl (wr := [(M, ob 7 [.ref nw, .ref dr, .ref pa, .int ypa, .ref im, .ref ke, .ref fl, .ref fq, .int yfa, .ref te, .int yty, .int yat, .int yst, .int yso, .int yva, .ref ni, .ref re, .int yab, .int ybl, .int yis, .int yra, .ref ma, .ref be]), (nw, aI g 41 gn)]) rfl (by decide) (by decide) (fun r0 w0 H locs hq S => ?_)
  obtain ⟨rfl, rfl⟩ := hq
  have S : ST g A ss H locs [(M, ob 7 [.ref nw, .ref dr, .ref pa, .int ypa, .ref im, .ref ke, .ref fl, .ref fq, .int yfa, .ref te, .int yty, .int yat, .int yst, .int yso, .int yva, .ref ni, .ref re, .int yab, .int ybl, .int yis, .int yra, .ref ma, .ref be]), (nw, aI g 41 gn)] := S
  refine top_eq (y := bI (okB x n)) (by rw [show n - 1 + 1 = n by omega]) ?_
  exact ret_Z (okB x n) C S hr dX7_isLeaf_13 (rfl) ⟨(rfl), (rfl)⟩

theorem inX7_of_X7 : ∀ w ∈ wsX70, w ∈ wsX7_of := by decide +kernel
set_option maxRecDepth 100000 in
set_option maxHeartbeats 4000000 in
theorem kX7_of (l : Launch) (g : GG) (M : Nat) (nw : Nat) (dr : Nat) (pa : Nat) (im : Nat) (ke : Nat) (fl : Nat) (fq : Nat) (te : Nat) (ni : Nat) (re : Nat) (ma : Nat) (be : Nat) (ypa : Int32) (yfa : Int32) (yty : Int32) (yat : Int32) (yst : Int32) (yso : Int32) (yva : Int32) (yab : Int32) (ybl : Int32) (yis : Int32) (yra : Int32) (gn : Nat → Int32) (i : Nat) (w : Nat) (hi : i < 8) (hw1 : w ≤ 5) : KI l g yX7_of wsX7_of 0 0 [.ref M, .int (nI i), .int (nI w)] [(M, ob 7 [.ref nw, .ref dr, .ref pa, .int ypa, .ref im, .ref ke, .ref fl, .ref fq, .int yfa, .ref te, .int yty, .int yat, .int yst, .int yso, .int yva, .ref ni, .ref re, .int yab, .int ybl, .int yis, .int yra, .ref ma, .ref be]), (nw, aI g 41 gn)] (fun (r : Int32) (w' : va_W) => r = (gn (5 * i + w)) ∧ w' = [(M, ob 7 [.ref nw, .ref dr, .ref pa, .int ypa, .ref im, .ref ke, .ref fl, .ref fq, .int yfa, .ref te, .int yty, .int yat, .int yst, .int yso, .int yva, .ref ni, .ref re, .int yab, .int ybl, .int yis, .int yra, .ref ma, .ref be]), (nw, aI g 41 gn)]) := by
  refine kI_of (cc := cX7_of) (maxL := 3) (by decide) rfl (Nat.le_of_ble_eq_true rfl) ?_
  intro pp ee ss mm bel mth cd A ls C S hr hl
  obtain ⟨hx, hb, hml, hown, hts⟩ := id C.1
  have hl : lv_has ls 3 [(0, .ref M), (1, .int (nI i)), (2, .int (nI w))] := hl
  obtain ⟨H, hH⟩ : ∃ H, H = ss.heap := ⟨_, rfl⟩
  obtain ⟨locs, hL0⟩ : ∃ L : List Loc, L = [] := ⟨_, rfl⟩
  rw [← hH, ← hL0] at S ⊢
  refine lv_aload_n hx hb dX7_of_0 rfl (lv_at hl 0 rfl) ?_
  refine top_get C S inX7_of_X7 rfl 0 rfl 0 (by decide) (by decide +kernel) rfl rfl dX7_of_1 ?_
  refine lv_iconst (v := 5) hx hb dX7_of_4 (by decide) ?_
  refine lv_iload_n hx hb dX7_of_5 rfl (lv_at hl 1 rfl) ?_
  refine lv_imul hx hb dX7_of_6 ?_
  refine top_eq (y := nI (5 * i)) (pk_mul _ _) ?_
  refine lv_iload_n hx hb dX7_of_7 rfl (lv_at hl 2 rfl) ?_
  refine lv_iadd hx hb dX7_of_8 ?_
  refine top_eq (y := nI ((5 * i) + w)) (nI_add _ _) ?_
  refine top_ild C S 1 rfl (j := ((5 * i) + w)) rfl (by omega) (by decide) dX7_of_9 ?_
  exact ret_I C S hr dX7_of_10 ⟨(by first | rfl | simp only []), (by first | rfl | simp only [])⟩

set_option maxRecDepth 100000 in
set_option maxHeartbeats 4000000 in
theorem kX7_isWhole (l : Launch) (g : GG) (M : Nat) (nw : Nat) (dr : Nat) (pa : Nat) (im : Nat) (ke : Nat) (fl : Nat) (fq : Nat) (te : Nat) (ni : Nat) (re : Nat) (ma : Nat) (be : Nat) (ypa : Int32) (yfa : Int32) (yty : Int32) (yat : Int32) (yst : Int32) (yso : Int32) (yva : Int32) (yab : Int32) (ybl : Int32) (yis : Int32) (yra : Int32) (gn : Nat → Int32) (n : Nat) (ww : Nat) (i : Nat) (hn : n ≤ 8) (hg0 : gn 0 = nI n) (hgw : ∀ i, i < n → gn (5 * i + 5) = nI (ww.testBit i).toNat) (hi : i < n) : KI l g yX7_isWhole wsX7_isWhole 1 22 [.ref M, .int (nI i)] [(M, ob 7 [.ref nw, .ref dr, .ref pa, .int ypa, .ref im, .ref ke, .ref fl, .ref fq, .int yfa, .ref te, .int yty, .int yat, .int yst, .int yso, .int yva, .ref ni, .ref re, .int yab, .int ybl, .int yis, .int yra, .ref ma, .ref be]), (nw, aI g 41 gn)] (fun (r : Int32) (w' : va_W) => r = (bI (ww.testBit i)) ∧ w' = [(M, ob 7 [.ref nw, .ref dr, .ref pa, .int ypa, .ref im, .ref ke, .ref fl, .ref fq, .int yfa, .ref te, .int yty, .int yat, .int yst, .int yso, .int yva, .ref ni, .ref re, .int yab, .int ybl, .int yis, .int yra, .ref ma, .ref be]), (nw, aI g 41 gn)]) := by
  refine kI_of (cc := cX7_isWhole) (maxL := 2) (by decide) rfl (Nat.le_of_ble_eq_true rfl) ?_
  intro pp ee ss mm bel mth cd A ls C S hr hl
  obtain ⟨hx, hb, hml, hown, hts⟩ := id C.1
  have hl : lv_has ls 2 [(0, .ref M), (1, .int (nI i))] := hl
  obtain ⟨H, hH⟩ : ∃ H, H = ss.heap := ⟨_, rfl⟩
  obtain ⟨locs, hL0⟩ : ∃ L : List Loc, L = [] := ⟨_, rfl⟩
  rw [← hH, ← hL0] at S ⊢
  have hb9 := Bool.toNat_le (ww.testBit i)
  refine lv_aload_n hx hb dX7_isWhole_0 rfl (lv_at hl 0 rfl) ?_
  refine lv_iload_n hx hb dX7_isWhole_1 rfl (lv_at hl 1 rfl) ?_
  refine lv_iconst (v := 5) hx hb dX7_isWhole_2 (by decide) ?_
  refine after_I (wc := [(M, ob 7 [.ref nw, .ref dr, .ref pa, .int ypa, .ref im, .ref ke, .ref fl, .ref fq, .int yfa, .ref te, .int yty, .int yat, .int yst, .int yso, .int yva, .ref ni, .ref re, .int yab, .int ybl, .int yis, .int yra, .ref ma, .ref be]), (nw, aI g 41 gn)]) (y := yX7_of) C S (va_runV (As := [.int (nI i), .int 5]) (rest := []) C.1 (kX7_of l g M nw dr pa im ke fl fq te ni re ma be ypa yfa yty yat yst yso yva yab ybl yis yra gn i 5 (by first | assumption | omega) (by first | assumption | omega) H.size) (cwV 2 hts gX7_isWhole_X7_of rfl rfl rfl (by decide +kernel) ⟨Nat.le_of_ble_eq_true rfl, Nat.le_of_ble_eq_true rfl⟩) (preV_at C S 0 rfl rfl [0, 1] rfl (by decide)) rfl rfl hl.1 rfl (lv_room (Nat.le_of_ble_eq_true rfl)) dX7_isWhole_3 ⟨Nat.le_of_ble_eq_true rfl, Nat.le_of_ble_eq_true rfl⟩) [0, 1] [] rfl (wr := []) rfl (by decide) (by decide) (fun r0 w0 H locs hq S => ?_)
  obtain ⟨rfl, rfl⟩ := hq
  have S : ST g A ss H locs [(M, ob 7 [.ref nw, .ref dr, .ref pa, .int ypa, .ref im, .ref ke, .ref fl, .ref fq, .int yfa, .ref te, .int yty, .int yat, .int yst, .int yso, .int yva, .ref ni, .ref re, .int yab, .int ybl, .int yis, .int yra, .ref ma, .ref be]), (nw, aI g 41 gn)] := S
  refine top_eq (y := nI ((ww.testBit i).toNat)) (hgw i hi) ?_
  refine lv_iconst (v := 1) hx hb dX7_isWhole_6 (by decide) ?_
  refine bn_ine (tgt := 14) (a := (ww.testBit i).toNat) (b := 1) hx hb rfl rfl (by omega) (by omega) dX7_isWhole_7 (by decide) (fun c_1 => ?_) (fun c_1 => ?_)
  · -- 7 T
    refine lv_iconst (v := 0) hx hb dX7_isWhole_14 (by decide) ?_
    exact ret_Z (ww.testBit i) C S hr dX7_isWhole_15 (by cases q9 : ww.testBit i <;> simp [q9] at c_1 <;> rfl) ⟨(by cases q9 : ww.testBit i <;> simp [q9] at c_1 <;> rfl), (rfl)⟩
  · -- 7 F
    refine lv_iconst (v := 1) hx hb dX7_isWhole_10 (by decide) ?_
    refine lv_goto (tgt := 15) hx hb dX7_isWhole_11 (by decide) ?_
    exact ret_Z (ww.testBit i) C S hr dX7_isWhole_15 (by cases q9 : ww.testBit i <;> simp [q9] at c_1 <;> rfl) ⟨(by cases q9 : ww.testBit i <;> simp [q9] at c_1 <;> rfl), (rfl)⟩

theorem inX7_all_X7 : ∀ w ∈ wsX70, w ∈ wsX7_all := by decide +kernel
set_option maxRecDepth 100000 in
set_option maxHeartbeats 4000000 in
theorem kX7_all (l : Launch) (g : GG) (M : Nat) (nw : Nat) (dr : Nat) (pa : Nat) (im : Nat) (ke : Nat) (fl : Nat) (fq : Nat) (te : Nat) (ni : Nat) (re : Nat) (ma : Nat) (be : Nat) (ypa : Int32) (yfa : Int32) (yty : Int32) (yat : Int32) (yst : Int32) (yso : Int32) (yva : Int32) (yab : Int32) (ybl : Int32) (yis : Int32) (yra : Int32) (gn : Nat → Int32) (n : Nat) (hn : n ≤ 8) (hg0 : gn 0 = nI n) : KI l g yX7_all wsX7_all 0 0 [.ref M] [(M, ob 7 [.ref nw, .ref dr, .ref pa, .int ypa, .ref im, .ref ke, .ref fl, .ref fq, .int yfa, .ref te, .int yty, .int yat, .int yst, .int yso, .int yva, .ref ni, .ref re, .int yab, .int ybl, .int yis, .int yra, .ref ma, .ref be]), (nw, aI g 41 gn)] (fun (r : Int32) (w' : va_W) => r = (nI (2 ^ n - 1)) ∧ w' = [(M, ob 7 [.ref nw, .ref dr, .ref pa, .int ypa, .ref im, .ref ke, .ref fl, .ref fq, .int yfa, .ref te, .int yty, .int yat, .int yst, .int yso, .int yva, .ref ni, .ref re, .int yab, .int ybl, .int yis, .int yra, .ref ma, .ref be]), (nw, aI g 41 gn)]) := by
  refine kI_of (cc := cX7_all) (maxL := 1) (by decide) rfl (Nat.le_of_ble_eq_true rfl) ?_
  intro pp ee ss mm bel mth cd A ls C S hr hl
  obtain ⟨hx, hb, hml, hown, hts⟩ := id C.1
  have hl : lv_has ls 1 [(0, .ref M)] := hl
  obtain ⟨H, hH⟩ : ∃ H, H = ss.heap := ⟨_, rfl⟩
  obtain ⟨locs, hL0⟩ : ∃ L : List Loc, L = [] := ⟨_, rfl⟩
  rw [← hH, ← hL0] at S ⊢
  refine lv_iconst (v := 1) hx hb dX7_all_0 (by decide) ?_
  refine lv_aload_n hx hb dX7_all_1 rfl (lv_at hl 0 rfl) ?_
  refine top_get C S inX7_all_X7 rfl 0 rfl 0 (by decide) (by decide +kernel) rfl rfl dX7_all_2 ?_
  refine lv_iconst (v := 0) hx hb dX7_all_5 (by decide) ?_
  refine top_ild C S 1 rfl (j := 0) rfl (by omega) (by decide) dX7_all_6 ?_
  refine top_eq (y := nI n) hg0 ?_
  refine lv_ishl hx hb dX7_all_7 ?_
  refine top_eq (y := nI (2 ^ n)) (shl_1 (by omega)) ?_
  refine lv_iconst (v := 1) hx hb dX7_all_8 (by decide) ?_
  refine lv_isub hx hb dX7_all_9 ?_
  refine top_eq (y := nI ((2 ^ n) - 1)) (pk_sub (a := 2 ^ n) (b := 1) (Nat.pow_pos (by decide))) ?_
  exact ret_I C S hr dX7_all_10 ⟨(by first | rfl | simp only []), (by first | rfl | simp only [])⟩

theorem inX7_whole_X7 : ∀ w ∈ wsX70, w ∈ wsX7_whole := by decide +kernel
set_option maxRecDepth 100000 in
set_option maxHeartbeats 4000000 in
theorem kX7_whole (l : Launch) (g : GG) (M : Nat) (nw : Nat) (dr : Nat) (pa : Nat) (im : Nat) (ke : Nat) (fl : Nat) (fq : Nat) (te : Nat) (ni : Nat) (re : Nat) (ma : Nat) (be : Nat) (ypa : Int32) (yfa : Int32) (yty : Int32) (yat : Int32) (yst : Int32) (yso : Int32) (yva : Int32) (yab : Int32) (ybl : Int32) (yis : Int32) (yra : Int32) (gn : Nat → Int32) (n : Nat) (ww : Nat) (hn : n ≤ 8) (hg0 : gn 0 = nI n) (hgw : ∀ i, i < n → gn (5 * i + 5) = nI (ww.testBit i).toNat) (hww : ww < 2 ^ n) : KI l g yX7_whole wsX7_whole 2 43 [.ref M] [(M, ob 7 [.ref nw, .ref dr, .ref pa, .int ypa, .ref im, .ref ke, .ref fl, .ref fq, .int yfa, .ref te, .int yty, .int yat, .int yst, .int yso, .int yva, .ref ni, .ref re, .int yab, .int ybl, .int yis, .int yra, .ref ma, .ref be]), (nw, aI g 41 gn)] (fun (r : Int32) (w' : va_W) => r = (nI ww) ∧ w' = [(M, ob 7 [.ref nw, .ref dr, .ref pa, .int ypa, .ref im, .ref ke, .ref fl, .ref fq, .int yfa, .ref te, .int yty, .int yat, .int yst, .int yso, .int yva, .ref ni, .ref re, .int yab, .int ybl, .int yis, .int yra, .ref ma, .ref be]), (nw, aI g 41 gn)]) := by
  refine kI_of (cc := cX7_whole) (maxL := 3) (by decide) rfl (Nat.le_of_ble_eq_true rfl) ?_
  intro pp ee ss mm bel mth cd A ls C S hr hl
  obtain ⟨hx, hb, hml, hown, hts⟩ := id C.1
  have hl : lv_has ls 3 [(0, .ref M)] := hl
  obtain ⟨H, hH⟩ : ∃ H, H = ss.heap := ⟨_, rfl⟩
  obtain ⟨locs, hL0⟩ : ∃ L : List Loc, L = [] := ⟨_, rfl⟩
  rw [← hH, ← hL0] at S ⊢
  refine lv_iconst (v := 0) hx hb dX7_whole_0 (by decide) ?_
  refine lv_istore_n (lv' := [(1, .int 0), (0, .ref M)]) hx hb dX7_whole_1 rfl hl (by decide) rfl (fun ls hl => ?_)
  refine lv_iconst (v := 0) hx hb dX7_whole_2 (by decide) ?_
  refine lv_istore_n (lv' := [(2, .int 0), (1, .int 0), (0, .ref M)]) hx hb dX7_whole_3 rfl hl (by decide) rfl (fun ls hl => ?_)
  have loop4 : ∀ (N0 : Nat) (k : Nat) (x : Nat), n - k < N0 → (k ≤ n) → (x = ww % 2 ^ k) → ∀ (H : Heap) (locs : List Loc) (ls : Array Slot), ST g A ss H locs [(M, ob 7 [.ref nw, .ref dr, .ref pa, .int ypa, .ref im, .ref ke, .ref fl, .ref fq, .int yfa, .ref te, .int yty, .int yat, .int yst, .int yso, .int yva, .ref ni, .ref re, .int yab, .int ybl, .int yis, .int yra, .ref ma, .ref be]), (nw, aI g 41 gn)] → lv_has ls 3 [(2, .int (nI k)), (1, .int (nI x)), (0, .ref M)] → W pp l ee { frames := 2, cells := 0, slots := 0, locals := 43 } ss mm ([.ref M] : List Value).toArray bel mth cd H locs 0 0 (QI bel ([.ref M] : List Value).toArray ss g A (fun (r : Int32) (w' : va_W) => r = (nI ww) ∧ w' = [(M, ob 7 [.ref nw, .ref dr, .ref pa, .int ypa, .ref im, .ref ke, .ref fl, .ref fq, .int yfa, .ref te, .int yty, .int yat, .int yst, .int yso, .int yva, .ref ni, .ref re, .int yab, .int ybl, .int yis, .int yra, .ref ma, .ref be]), (nw, aI g 41 gn)])) (F0 mm 4 ls []) := by
    intro N0
    induction N0 with
    | zero => intro k x hN; exact absurd hN (Nat.not_lt_zero _)
    | succ N0 ih4 =>
      intro k x hN hk hx1 H locs ls S hl
      refine lv_iload_n hx hb dX7_whole_4 rfl (lv_at hl 0 rfl) ?_
      refine lv_aload_n hx hb dX7_whole_5 rfl (lv_at hl 2 rfl) ?_
      refine top_get C S inX7_whole_X7 rfl 0 rfl 0 (by decide) (by decide +kernel) rfl rfl dX7_whole_6 ?_
      refine lv_iconst (v := 0) hx hb dX7_whole_9 (by decide) ?_
      refine top_ild C S 1 rfl (j := 0) rfl (by omega) (by decide) dX7_whole_10 ?_
      refine top_eq (y := nI n) hg0 ?_
      refine bn_ige (tgt := 38) (a := k) (b := n) hx hb rfl rfl (by omega) (by omega) dX7_whole_11 (by decide) (fun c_1 => ?_) (fun c_1 => ?_)
      · -- 11 T
        refine lv_iload_n hx hb dX7_whole_38 rfl (lv_at hl 1 rfl) ?_
        exact ret_I C S hr dX7_whole_39 ⟨(by rw [hx1, show k = n by omega, Nat.mod_eq_of_lt hww]), (rfl)⟩
      · -- 11 F
        refine lv_iload_n hx hb dX7_whole_14 rfl (lv_at hl 1 rfl) ?_
        refine lv_aload_n hx hb dX7_whole_15 rfl (lv_at hl 2 rfl) ?_
        refine lv_iload_n hx hb dX7_whole_16 rfl (lv_at hl 0 rfl) ?_
        refine after_I (wc := [(M, ob 7 [.ref nw, .ref dr, .ref pa, .int ypa, .ref im, .ref ke, .ref fl, .ref fq, .int yfa, .ref te, .int yty, .int yat, .int yst, .int yso, .int yva, .ref ni, .ref re, .int yab, .int ybl, .int yis, .int yra, .ref ma, .ref be]), (nw, aI g 41 gn)]) (y := yX7_isWhole) C S (va_runV (As := [.int (nI k)]) (rest := [.int (nI x)]) C.1 (kX7_isWhole l g M nw dr pa im ke fl fq te ni re ma be ypa yfa yty yat yst yso yva yab ybl yis yra gn n ww k (by first | assumption | omega) (by first | assumption | omega) (by first | assumption | omega) (by first | assumption | omega) H.size) (cwV 1 hts gX7_whole_X7_isWhole rfl rfl rfl (by decide +kernel) ⟨Nat.le_of_ble_eq_true rfl, Nat.le_of_ble_eq_true rfl⟩) (preV_at C S 0 rfl rfl [0, 1] rfl (by decide)) rfl rfl hl.1 rfl (lv_room (Nat.le_of_ble_eq_true rfl)) dX7_whole_17 ⟨Nat.le_of_ble_eq_true rfl, Nat.le_of_ble_eq_true rfl⟩) [0, 1] [] rfl (wr := []) rfl (by decide) (by decide) (fun r0 w0 H locs hq S => ?_)
        obtain ⟨rfl, rfl⟩ := hq
        have S : ST g A ss H locs [(M, ob 7 [.ref nw, .ref dr, .ref pa, .int ypa, .ref im, .ref ke, .ref fl, .ref fq, .int yfa, .ref te, .int yty, .int yat, .int yst, .int yso, .int yva, .ref ni, .ref re, .int yab, .int ybl, .int yis, .int yra, .ref ma, .ref be]), (nw, aI g 41 gn)] := S
        refine br_eqB (tgt := 29) hx hb dX7_whole_20 (by decide) (fun c_2 => ?_) (fun c_2 => ?_)
        · -- 20 T
          refine lv_iconst (v := 0) hx hb dX7_whole_29 (by decide) ?_
          refine lv_ior hx hb dX7_whole_30 ?_
          refine top_eq (y := nI x) (by rw [show nI x ||| 0 = nI (x ||| 0) from fa_or x 0, Nat.or_zero]) ?_
          refine lv_istore_n (lv' := [(1, .int (nI x)), (2, .int (nI k)), (0, .ref M)]) hx hb dX7_whole_31 rfl hl (by decide) rfl (fun ls hl => ?_)
          refine lv_iinc (v := nI (k + 1)) (lv' := [(2, .int (nI (k + 1))), (1, .int (nI x)), (0, .ref M)]) hx hb dX7_whole_32 hl (k := 1) rfl (nI_add _ _) (by decide) rfl (fun ls hl => ?_)
          refine lv_goto (tgt := 4) hx hb dX7_whole_35 (by decide) ?_
          exact ih4 (k + 1) x (by omega) (by first | assumption | omega) (by rw [mod_step, ← hx1, if_neg (Bool.eq_false_iff.mp c_2)]) H locs ls (ST.eq S (rfl)) (lv_sub hl [0, 1, 2] (rfl))
        · -- 20 F
          refine lv_iconst (v := 1) hx hb dX7_whole_23 (by decide) ?_
          refine lv_iload_n hx hb dX7_whole_24 rfl (lv_at hl 0 rfl) ?_
          refine lv_ishl hx hb dX7_whole_25 ?_
          refine top_eq (y := nI (2 ^ k)) (shl_1 (by omega)) ?_
          refine lv_goto (tgt := 30) hx hb dX7_whole_26 (by decide) ?_
          refine lv_ior hx hb dX7_whole_30 ?_
          refine top_eq (y := nI (x ||| 2 ^ k)) (fa_or _ _) ?_
          refine lv_istore_n (lv' := [(1, .int (nI (x ||| 2 ^ k))), (2, .int (nI k)), (0, .ref M)]) hx hb dX7_whole_31 rfl hl (by decide) rfl (fun ls hl => ?_)
          refine lv_iinc (v := nI (k + 1)) (lv' := [(2, .int (nI (k + 1))), (1, .int (nI (x ||| 2 ^ k))), (0, .ref M)]) hx hb dX7_whole_32 hl (k := 1) rfl (nI_add _ _) (by decide) rfl (fun ls hl => ?_)
          refine lv_goto (tgt := 4) hx hb dX7_whole_35 (by decide) ?_
          exact ih4 (k + 1) (x ||| 2 ^ k) (by omega) (by first | assumption | omega) (by rw [mod_step, ← hx1, if_pos c_2]) H locs ls (ST.eq S (rfl)) (lv_sub hl [0, 1, 2] (rfl))
  exact loop4 _ 0 0 (Nat.lt_succ_self _) (by first | assumption | omega) ((Nat.mod_one ww).symm) H locs ls (ST.eq S (rfl)) (lv_sub hl [0, 1, 2] (rfl))

set_option maxRecDepth 100000 in
set_option maxHeartbeats 4000000 in
theorem kX7_ones (l : Launch) (g : GG) (ww : Nat) (hw : ww < 256) : KI l g yX7_ones wsX7_ones 1 21 [.int (nI ww)] [] (fun (r : Int32) (w' : va_W) => r = (nI (pop ww)) ∧ w' = []) := by
  refine kI_of (cc := cX7_ones) (maxL := 3) (by decide) rfl (Nat.le_of_ble_eq_true rfl) ?_
  intro pp ee ss mm bel mth cd A ls C S hr hl
  obtain ⟨hx, hb, hml, hown, hts⟩ := id C.1
  have hl : lv_has ls 3 [(0, .int (nI ww))] := hl
  obtain ⟨H, hH⟩ : ∃ H, H = ss.heap := ⟨_, rfl⟩
  obtain ⟨locs, hL0⟩ : ∃ L : List Loc, L = [] := ⟨_, rfl⟩
  rw [← hH, ← hL0] at S ⊢
  refine lv_iconst (v := 0) hx hb dX7_ones_0 (by decide) ?_
  refine lv_istore_n (lv' := [(1, .int 0), (0, .int (nI ww))]) hx hb dX7_ones_1 rfl hl (by decide) rfl (fun ls hl => ?_)
  refine lv_iconst (v := 0) hx hb dX7_ones_2 (by decide) ?_
  refine lv_istore_n (lv' := [(2, .int 0), (1, .int 0), (0, .int (nI ww))]) hx hb dX7_ones_3 rfl hl (by decide) rfl (fun ls hl => ?_)
  have loop4 : ∀ (N0 : Nat) (k : Nat) (x : Nat), 8 - k < N0 → (k ≤ 8) → (x = cnt (fun i => ww.testBit i) k) → ∀ (H : Heap) (locs : List Loc) (ls : Array Slot), ST g A ss H locs [] → lv_has ls 3 [(2, .int (nI k)), (1, .int (nI x)), (0, .int (nI ww))] → W pp l ee { frames := 1, cells := 0, slots := 0, locals := 21 } ss mm ([.int (nI ww)] : List Value).toArray bel mth cd H locs 0 0 (QI bel ([.int (nI ww)] : List Value).toArray ss g A (fun (r : Int32) (w' : va_W) => r = (nI (pop ww)) ∧ w' = [])) (F0 mm 4 ls []) := by
    intro N0
    induction N0 with
    | zero => intro k x hN; exact absurd hN (Nat.not_lt_zero _)
    | succ N0 ih4 =>
      intro k x hN hk hx1 H locs ls S hl
      refine lv_iload_n hx hb dX7_ones_4 rfl (lv_at hl 0 rfl) ?_
      refine lv_bipush (v := 8) hx hb dX7_ones_5 (by decide) ?_
      refine bn_ige (tgt := 32) (a := k) (b := 8) hx hb rfl rfl (by omega) (by omega) dX7_ones_7 (by decide) (fun c_1 => ?_) (fun c_1 => ?_)
      · -- 7 T
        refine lv_iload_n hx hb dX7_ones_32 rfl (lv_at hl 1 rfl) ?_
        exact ret_I C S hr dX7_ones_33 ⟨(by rw [hx1, show k = 8 by omega, pop_cnt hw]), (rfl)⟩
      · -- 7 F
        refine lv_iload_n hx hb dX7_ones_10 rfl (lv_at hl 1 rfl) ?_
        refine lv_iload_n hx hb dX7_ones_11 rfl (lv_at hl 2 rfl) ?_
        refine lv_iload_n hx hb dX7_ones_12 rfl (lv_at hl 0 rfl) ?_
        refine after_I (wc := []) (y := yX7_has) C S (va_runS (As := [.int (nI ww), .int (nI k)]) (rest := [.int (nI x)]) C.1 (kX7_has l g ww k (by first | assumption | omega) (by first | assumption | omega) H.size) (va_cwS 2 hts gX7_ones_X7_has rfl rfl rfl (by decide +kernel) ⟨Nat.le_of_ble_eq_true rfl, Nat.le_of_ble_eq_true rfl⟩) (preS_at C S [] rfl (by decide)) rfl rfl hl.1 rfl (lv_room (Nat.le_of_ble_eq_true rfl)) dX7_ones_13 ⟨Nat.le_of_ble_eq_true rfl, Nat.le_of_ble_eq_true rfl⟩) [] [] rfl (wr := []) rfl (by decide) (by decide) (fun r0 w0 H locs hq S => ?_)
        obtain ⟨rfl, rfl⟩ := hq
        have S : ST g A ss H locs [] := S
        refine br_eqB (tgt := 23) hx hb dX7_ones_16 (by decide) (fun c_2 => ?_) (fun c_2 => ?_)
        · -- 16 T
          refine lv_iconst (v := 0) hx hb dX7_ones_23 (by decide) ?_
          refine lv_iadd hx hb dX7_ones_24 ?_
          refine top_eq (y := nI (x + 0)) (nI_add _ _) ?_
          refine lv_istore_n (lv' := [(1, .int (nI (x + 0))), (2, .int (nI k)), (0, .int (nI ww))]) hx hb dX7_ones_25 rfl hl (by decide) rfl (fun ls hl => ?_)
          refine lv_iinc (v := nI (k + 1)) (lv' := [(2, .int (nI (k + 1))), (1, .int (nI (x + 0))), (0, .int (nI ww))]) hx hb dX7_ones_26 hl (k := 1) rfl (nI_add _ _) (by decide) rfl (fun ls hl => ?_)
          refine lv_goto (tgt := 4) hx hb dX7_ones_29 (by decide) ?_
          exact ih4 (k + 1) (x + 0) (by omega) (by first | assumption | omega) (by rw [cnt_s, ← hx1, show ww.testBit k = false from c_2] <;> rfl) H locs ls (ST.eq S (rfl)) (lv_sub hl [0, 1, 2] (rfl))
        · -- 16 F
          refine lv_iconst (v := 1) hx hb dX7_ones_19 (by decide) ?_
          refine lv_goto (tgt := 24) hx hb dX7_ones_20 (by decide) ?_
          refine lv_iadd hx hb dX7_ones_24 ?_
          refine top_eq (y := nI (x + 1)) (nI_add _ _) ?_
          refine lv_istore_n (lv' := [(1, .int (nI (x + 1))), (2, .int (nI k)), (0, .int (nI ww))]) hx hb dX7_ones_25 rfl hl (by decide) rfl (fun ls hl => ?_)
          refine lv_iinc (v := nI (k + 1)) (lv' := [(2, .int (nI (k + 1))), (1, .int (nI (x + 1))), (0, .int (nI ww))]) hx hb dX7_ones_26 hl (k := 1) rfl (nI_add _ _) (by decide) rfl (fun ls hl => ?_)
          refine lv_goto (tgt := 4) hx hb dX7_ones_29 (by decide) ?_
          exact ih4 (k + 1) (x + 1) (by omega) (by first | assumption | omega) (by rw [cnt_s, ← hx1, show ww.testBit k = true from c_2] <;> rfl) H locs ls (ST.eq S (rfl)) (lv_sub hl [0, 1, 2] (rfl))
  exact loop4 _ 0 0 (Nat.lt_succ_self _) (by first | assumption | omega) (rfl) H locs ls (ST.eq S (rfl)) (lv_sub hl [0, 1, 2] (rfl))

theorem inX7_cutOf_X7 : ∀ w ∈ wsX70, w ∈ wsX7_cutOf := by decide +kernel
set_option maxRecDepth 100000 in
set_option maxHeartbeats 4000000 in
theorem kX7_cutOf (l : Launch) (g : GG) (M : Nat) (nw : Nat) (dr : Nat) (pa : Nat) (im : Nat) (ke : Nat) (fl : Nat) (fq : Nat) (te : Nat) (ni : Nat) (re : Nat) (ma : Nat) (be : Nat) (ypa : Int32) (yfa : Int32) (yty : Int32) (yat : Int32) (yst : Int32) (yso : Int32) (yva : Int32) (yra : Int32) (U : Nat) (Lw : Nat) (bt : Bool) (hU : U ≤ 20000) (hL : Lw ≤ 72) (hbt : bt = true → 0 < Lw) : KI l g yX7_cutOf wsX7_cutOf 0 0 [.ref M] [(M, ob 7 [.ref nw, .ref dr, .ref pa, .int ypa, .ref im, .ref ke, .ref fl, .ref fq, .int yfa, .ref te, .int yty, .int yat, .int yst, .int yso, .int yva, .ref ni, .ref re, .int (nI U), .int (nI Lw), .int (bI bt), .int yra, .ref ma, .ref be])] (fun (r : Int32) (w' : va_W) => r = (if bt = true then nI (U / Lw) else (-9)) ∧ w' = [(M, ob 7 [.ref nw, .ref dr, .ref pa, .int ypa, .ref im, .ref ke, .ref fl, .ref fq, .int yfa, .ref te, .int yty, .int yat, .int yst, .int yso, .int yva, .ref ni, .ref re, .int (nI U), .int (nI Lw), .int (bI bt), .int yra, .ref ma, .ref be])]) := by
  refine kI_of (cc := cX7_cutOf) (maxL := 1) (by decide) rfl (Nat.le_of_ble_eq_true rfl) ?_
  intro pp ee ss mm bel mth cd A ls C S hr hl
  obtain ⟨hx, hb, hml, hown, hts⟩ := id C.1
  have hl : lv_has ls 1 [(0, .ref M)] := hl
  obtain ⟨H, hH⟩ : ∃ H, H = ss.heap := ⟨_, rfl⟩
  obtain ⟨locs, hL0⟩ : ∃ L : List Loc, L = [] := ⟨_, rfl⟩
  rw [← hH, ← hL0] at S ⊢
  refine lv_aload_n hx hb dX7_cutOf_0 rfl (lv_at hl 0 rfl) ?_
  refine top_get C S inX7_cutOf_X7 rfl 0 rfl 19 (by decide) (by decide +kernel) rfl rfl dX7_cutOf_1 ?_
  refine br_eqB (tgt := 19) hx hb dX7_cutOf_4 (by decide) (fun c_1 => ?_) (fun c_1 => ?_)
  · -- 4 T
    refine lv_bipush (v := (-9)) hx hb dX7_cutOf_19 (by decide) ?_
    exact ret_I C S hr dX7_cutOf_21 ⟨(by rw [if_neg (Bool.eq_false_iff.mp c_1)]), (rfl)⟩
  · -- 4 F
    have hLp := hbt c_1
    refine lv_aload_n hx hb dX7_cutOf_7 rfl (lv_at hl 0 rfl) ?_
    refine top_get C S inX7_cutOf_X7 rfl 0 rfl 17 (by decide) (by decide +kernel) rfl rfl dX7_cutOf_8 ?_
    refine lv_aload_n hx hb dX7_cutOf_11 rfl (lv_at hl 0 rfl) ?_
    refine top_get C S inX7_cutOf_X7 rfl 0 rfl 18 (by decide) (by decide +kernel) rfl rfl dX7_cutOf_12 ?_
    refine lv_idiv hx hb dX7_cutOf_15 (nI_ne0 (n := Lw) (by omega) (by omega)) ?_
    refine top_eq (y := nI (U / Lw)) (pk_div (a := U) (d := Lw) (by omega) (by omega) (by omega)) ?_
    refine lv_goto (tgt := 21) hx hb dX7_cutOf_16 (by decide) ?_
    exact ret_I C S hr dX7_cutOf_21 ⟨(by rw [if_pos c_1]), (rfl)⟩

set_option maxRecDepth 100000 in
set_option maxHeartbeats 4000000 in
theorem kX7_common (l : Launch) (g : GG) (a : Nat) (b : Nat) (ha : a < 2 ^ 31) (hb1 : b < 2 ^ 31) : KI l g yX7_common wsX7_common 0 0 [.int (nI a), .int (nI b)] [] (fun (r : Int32) (w' : va_W) => r = (nI (Nat.gcd a b)) ∧ w' = []) := by
  refine kI_of (cc := cX7_common) (maxL := 5) (by decide) rfl (Nat.le_of_ble_eq_true rfl) ?_
  intro pp ee ss mm bel mth cd A ls C S hr hl
  obtain ⟨hx, hb, hml, hown, hts⟩ := id C.1
  have hl : lv_has ls 5 [(0, .int (nI a)), (1, .int (nI b))] := hl
  obtain ⟨H, hH⟩ : ∃ H, H = ss.heap := ⟨_, rfl⟩
  obtain ⟨locs, hL0⟩ : ∃ L : List Loc, L = [] := ⟨_, rfl⟩
  rw [← hH, ← hL0] at S ⊢
  refine lv_iload_n hx hb dX7_common_0 rfl (lv_at hl 0 rfl) ?_
  refine lv_istore_n (lv' := [(2, .int (nI a)), (0, .int (nI a)), (1, .int (nI b))]) hx hb dX7_common_1 rfl hl (by decide) rfl (fun ls hl => ?_)
  refine lv_iload_n hx hb dX7_common_2 rfl (lv_at hl 2 rfl) ?_
  refine lv_istore_n (lv' := [(3, .int (nI b)), (2, .int (nI a)), (0, .int (nI a)), (1, .int (nI b))]) hx hb dX7_common_3 rfl hl (by decide) rfl (fun ls hl => ?_)
  have loop4 : ∀ (N0 : Nat) (x : Nat) (y : Nat), y < N0 → (x < 2 ^ 31) → (y < 2 ^ 31) → (Nat.gcd x y = Nat.gcd a b) → ∀ (H : Heap) (locs : List Loc) (ls : Array Slot), ST g A ss H locs [] → lv_has ls 5 [(3, .int (nI y)), (2, .int (nI x)), (0, .int (nI a)), (1, .int (nI b))] → W pp l ee { frames := 0, cells := 0, slots := 0, locals := 0 } ss mm ([.int (nI a), .int (nI b)] : List Value).toArray bel mth cd H locs 0 0 (QI bel ([.int (nI a), .int (nI b)] : List Value).toArray ss g A (fun (r : Int32) (w' : va_W) => r = (nI (Nat.gcd a b)) ∧ w' = [])) (F0 mm 4 ls []) := by
    intro N0
    induction N0 with
    | zero => intro x y hN; exact absurd hN (Nat.not_lt_zero _)
    | succ N0 ih4 =>
      intro x y hN hx1 hy1 hg H locs ls S hl
      refine lv_iload_n hx hb dX7_common_4 rfl (lv_at hl 0 rfl) ?_
      refine bn_zle (tgt := 21) (a := y) hx hb rfl (by omega) dX7_common_5 (by decide) (fun c_1 => ?_) (fun c_1 => ?_)
      · -- 5 T
        refine lv_iload_n hx hb dX7_common_21 rfl (lv_at hl 1 rfl) ?_
        exact ret_I C S hr dX7_common_22 ⟨(by rw [← hg, show y = 0 by omega, Nat.gcd_zero_right]), (rfl)⟩
      · -- 5 F
        refine lv_iload_n hx hb dX7_common_8 rfl (lv_at hl 1 rfl) ?_
        refine lv_iload_n hx hb dX7_common_9 rfl (lv_at hl 0 rfl) ?_
        refine lv_irem hx hb dX7_common_10 (nI_ne0 (n := y) (by omega) (by omega)) ?_
        refine top_eq (y := nI (x % y)) (pk_rem (a := x) (d := y) (by omega) (by omega) (by omega)) ?_
        refine lv_istore (lv' := [(4, .int (nI (x % y))), (3, .int (nI y)), (2, .int (nI x)), (0, .int (nI a)), (1, .int (nI b))]) hx hb dX7_common_11 hl (by decide) rfl (fun ls hl => ?_)
        refine lv_iload_n hx hb dX7_common_13 rfl (lv_at hl 1 rfl) ?_
        refine lv_istore_n (lv' := [(2, .int (nI y)), (4, .int (nI (x % y))), (3, .int (nI y)), (0, .int (nI a)), (1, .int (nI b))]) hx hb dX7_common_14 rfl hl (by decide) rfl (fun ls hl => ?_)
        refine lv_iload hx hb dX7_common_15 (lv_at hl 1 rfl) ?_
        refine lv_istore_n (lv' := [(3, .int (nI (x % y))), (2, .int (nI y)), (4, .int (nI (x % y))), (0, .int (nI a)), (1, .int (nI b))]) hx hb dX7_common_17 rfl hl (by decide) rfl (fun ls hl => ?_)
        refine lv_goto (tgt := 4) hx hb dX7_common_18 (by decide) ?_
        exact ih4 y (x % y) (by have := Nat.mod_lt x (show 0 < y by omega); omega) (by first | assumption | omega) (by have := Nat.mod_lt x (show 0 < y by omega); omega) (by rw [← hg, Nat.gcd_comm x y, Nat.gcd_rec y x, Nat.gcd_comm]) H locs ls (ST.eq S (rfl)) (lv_sub hl [0, 1, 3, 4] (rfl))
  exact loop4 _ a b (Nat.lt_succ_self _) (by first | assumption | omega) (by first | assumption | omega) (rfl) H locs ls (ST.eq S (rfl)) (lv_sub hl [0, 1, 2, 3] (rfl))
