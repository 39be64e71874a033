set_option maxRecDepth 100000 in
set_option maxHeartbeats 4000000 in
theorem kX7_bendWithoutn (l : Launch) (g : GG) (M : Nat) (nw : Nat) (dr : Nat) (pa : Nat) (im : Nat) (ke : Nat) (fl : Nat) (fq : Nat) (te : Nat) (ni : Nat) (re : Nat) (ma : Nat) (be : Nat) (ypa : Int32) (yfa : Int32) (yty : Int32) (yat : Int32) (yst : Int32) (yso : Int32) (yva : Int32) (yab : Int32) (ybl : Int32) (yis : Int32) (yra : Int32) (gn : Nat → Int32) (n : Nat) (ww : Nat) (nu : Nat → Nat → Nat) (nf : Nat → Int32) (ref : Nat → Int32) (p : Nat) (hn1 : 1 ≤ n) (hn : n ≤ 8) (hww : ww < 2 ^ n) (hg0 : gn 0 = nI n) (hgn : ∀ a i, a < 4 → i < n → gn (5 * i + (a + 1)) = nI (nu a i)) (hgw : ∀ i, i < n → gn (5 * i + 5) = nI (ww.testBit i).toNat) (hB : HB nu n) (hp : p ≤ 999) : KI l g yX7_bendWithout wsX7_bendWithout 3 74 [.ref M, .int (-1), .int (nI p)] [(M, ob 7 [.ref nw, .ref dr, .ref pa, .int ypa, .ref im, .ref ke, .ref fl, .ref fq, .int yfa, .ref te, .int yty, .int yat, .int yst, .int yso, .int yva, .ref ni, .ref re, .int yab, .int ybl, .int yis, .int yra, .ref ma, .ref be]), (nw, aI g 41 gn), (ni, aI g 8 nf), (re, aI g 8 ref)] (fun (r : Int32) (w' : va_W) => r = (cutS nu n ww 0 p) ∧ ∃ (ab' : Int32), ∃ (bl' : Int32), ∃ (is' : Int32), ∃ (ra' : Int32), ∃ (nf' : Nat → Int32), ∃ (ref' : Nat → Int32), w' = [(M, ob 7 [.ref nw, .ref dr, .ref pa, .int ypa, .ref im, .ref ke, .ref fl, .ref fq, .int yfa, .ref te, .int yty, .int yat, .int yst, .int yso, .int yva, .ref ni, .ref re, .int ab', .int bl', .int is', .int ra', .ref ma, .ref be]), (nw, aI g 41 gn), (ni, aI g 8 nf'), (re, aI g 8 ref')]) := by
  refine kI_of (cc := cX7_bendWithout) (maxL := 3) (by decide) rfl (Nat.le_of_ble_eq_true rfl) ?_
  intro pp ee ss mm bel mth cd A ls C S hr hl
  obtain ⟨hx, hb, hml, hown, hts⟩ := id C.1
  have hl : lv_has ls 3 [(0, .ref M), (1, .int (-1)), (2, .int (nI p))] := hl
  obtain ⟨H, hH⟩ : ∃ H, H = ss.heap := ⟨_, rfl⟩
  obtain ⟨locs, hL0⟩ : ∃ L : List Loc, L = [] := ⟨_, rfl⟩
  rw [← hH, ← hL0] at S ⊢
  have hca : ∀ i, i < n → nu 2 i ≤ 30 := fun i9 h9 => (hB i9 h9).2.2.1
  have hSb : ∀ i, i < n → nu 1 i ≤ 9 := fun i9 h9 => (hB i9 h9).2.1.2
  have hTb : ∀ i, i < n → nu 3 i ≤ 99 := fun i9 h9 => (hB i9 h9).2.2.2.2
  have hRb : ∀ i, i < n → R0 nu i ≤ 240 := RC_le hn hca
  have hst : ∀ i, i < n → 1 ≤ nu 1 i ∧ nu 1 i ≤ 9 := fun i9 h9 => (hB i9 h9).2.1
  have w8 : ww < 256 := wlt hn hww
  have a8 : 2 ^ n - 1 < 256 := all_lt hn
  refine lv_aload_n hx hb dX7_bendWithout_0 rfl (lv_at hl 0 rfl) ?_
  refine lv_aload_n hx hb dX7_bendWithout_1 rfl (lv_at hl 0 rfl) ?_
  refine after_I (wc := [(M, ob 7 [.ref nw, .ref dr, .ref pa, .int ypa, .ref im, .ref ke, .ref fl, .ref fq, .int yfa, .ref te, .int yty, .int yat, .int yst, .int yso, .int yva, .ref ni, .ref re, .int yab, .int ybl, .int yis, .int yra, .ref ma, .ref be]), (nw, aI g 41 gn)]) (y := yX7_all) C S (va_runV (As := []) (rest := [.ref M]) C.1 (kX7_all l g M nw dr pa im ke fl fq te ni re ma be ypa yfa yty yat yst yso yva yab ybl yis yra gn n (by first | assumption | omega) (by first | assumption | omega) H.size) (cwV 0 hts gX7_bendWithout_X7_all rfl rfl rfl (by decide +kernel) ⟨Nat.le_of_ble_eq_true rfl, Nat.le_of_ble_eq_true rfl⟩) (preV_at C S 0 rfl rfl [0, 1] rfl (by decide)) rfl rfl hl.1 rfl (lv_room (Nat.le_of_ble_eq_true rfl)) dX7_bendWithout_2 ⟨Nat.le_of_ble_eq_true rfl, Nat.le_of_ble_eq_true rfl⟩) [0, 1] [2, 3] rfl (wr := [(ni, aI g 8 nf), (re, aI g 8 ref)]) rfl (by decide) (by decide) (fun r0 w0 H locs hq S => ?_)
  obtain ⟨rfl, rfl⟩ := hq
  have S : ST g A ss H locs [(M, ob 7 [.ref nw, .ref dr, .ref pa, .int ypa, .ref im, .ref ke, .ref fl, .ref fq, .int yfa, .ref te, .int yty, .int yat, .int yst, .int yso, .int yva, .ref ni, .ref re, .int yab, .int ybl, .int yis, .int yra, .ref ma, .ref be]), (nw, aI g 41 gn), (ni, aI g 8 nf), (re, aI g 8 ref)] := ST.sub S [2, 3, 0, 1] (by decide) rfl
  refine lv_iload_n hx hb dX7_bendWithout_5 rfl (lv_at hl 1 rfl) ?_
  refine lv_if_ge (tgt := 16) hx hb dX7_bendWithout_6 (by decide) (fun c_1 => ?_) (fun c_1 => ?_)
  · -- 6 T
    exact absurd c_1 (by decide)
  · -- 6 F
    refine lv_aload_n hx hb dX7_bendWithout_9 rfl (lv_at hl 0 rfl) ?_
    refine after_I (wc := [(M, ob 7 [.ref nw, .ref dr, .ref pa, .int ypa, .ref im, .ref ke, .ref fl, .ref fq, .int yfa, .ref te, .int yty, .int yat, .int yst, .int yso, .int yva, .ref ni, .ref re, .int yab, .int ybl, .int yis, .int yra, .ref ma, .ref be]), (nw, aI g 41 gn)]) (y := yX7_whole) C S (va_runV (As := []) (rest := [.int (nI (2 ^ n - 1)), .ref M]) C.1 (kX7_whole l g M nw dr pa im ke fl fq te ni re ma be ypa yfa yty yat yst yso yva yab ybl yis yra gn n ww (by first | assumption | omega) (by first | assumption | omega) (by first | assumption | omega) (by first | assumption | omega) H.size) (cwV 0 hts gX7_bendWithout_X7_whole rfl rfl rfl (by decide +kernel) ⟨Nat.le_of_ble_eq_true rfl, Nat.le_of_ble_eq_true rfl⟩) (preV_at C S 0 rfl rfl [0, 1] rfl (by decide)) rfl rfl hl.1 rfl (lv_room (Nat.le_of_ble_eq_true rfl)) dX7_bendWithout_10 ⟨Nat.le_of_ble_eq_true rfl, Nat.le_of_ble_eq_true rfl⟩) [0, 1] [2, 3] rfl (wr := [(ni, aI g 8 nf), (re, aI g 8 ref)]) rfl (by decide) (by decide) (fun r0 w0 H locs hq S => ?_)
    obtain ⟨rfl, rfl⟩ := hq
    have S : ST g A ss H locs [(M, ob 7 [.ref nw, .ref dr, .ref pa, .int ypa, .ref im, .ref ke, .ref fl, .ref fq, .int yfa, .ref te, .int yty, .int yat, .int yst, .int yso, .int yva, .ref ni, .ref re, .int yab, .int ybl, .int yis, .int yra, .ref ma, .ref be]), (nw, aI g 41 gn), (ni, aI g 8 nf), (re, aI g 8 ref)] := ST.sub S [2, 3, 0, 1] (by decide) rfl
    refine lv_goto (tgt := 26) hx hb dX7_bendWithout_13 (by decide) ?_
    refine lv_iload_n hx hb dX7_bendWithout_26 rfl (lv_at hl 2 rfl) ?_
    refine after_V (wc := [(M, ob 7 [.ref nw, .ref dr, .ref pa, .int ypa, .ref im, .ref ke, .ref fl, .ref fq, .int yfa, .ref te, .int yty, .int yat, .int yst, .int yso, .int yva, .ref ni, .ref re, .int yab, .int ybl, .int yis, .int yra, .ref ma, .ref be]), (nw, aI g 41 gn), (ni, aI g 8 nf), (re, aI g 8 ref)]) (y := yX7_bends) C S (va_runV (As := [.int (nI (2 ^ n - 1)), .int (nI ww), .int (nI p)]) (rest := []) C.1 (kX7_bends l g M nw dr pa im ke fl fq te ni re ma be ypa yfa yty yat yst yso yva yab ybl yis yra gn n nu nf ref (R0 nu) (2 ^ n - 1) ww p (by first | assumption | omega) (by first | assumption | omega) (by first | assumption | omega) (by first | assumption | omega) (by first | assumption | omega) (by omega) hww (fun j9 h9 _ => all_tb h9) (fun j9 h9 _ => RC_all hn h9) (by first | assumption | omega) (by omega) H.size) (cwV 3 hts gX7_bendWithout_X7_bends rfl rfl rfl (by decide +kernel) ⟨Nat.le_of_ble_eq_true rfl, Nat.le_of_ble_eq_true rfl⟩) (preV_at C S 0 rfl rfl [0, 1, 2, 3] rfl (by decide)) rfl rfl hl.1 rfl (lv_room (Nat.le_of_ble_eq_true rfl)) dX7_bendWithout_27 ⟨Nat.le_of_ble_eq_true rfl, Nat.le_of_ble_eq_true rfl⟩) [0, 1, 2, 3] [] rfl (wr := []) rfl (by decide) (by decide) (fun w0 H locs hq S => ?_)
    obtain ⟨nf1, ref1, hRe1, rfl⟩ := hq
    have S : ST g A ss H locs [(M, ob 7 [.ref nw, .ref dr, .ref pa, .int ypa, .ref im, .ref ke, .ref fl, .ref fq, .int yfa, .ref te, .int yty, .int yat, .int yst, .int yso, .int yva, .ref ni, .ref re, .int (nI (abN (nu 1) (R0 nu) ww p n)), .int (nI (beN (nu 1) (R0 nu) ww p n)), .int (bI (decide (0 < lowN (nu 1) (R0 nu) ww p n))), .int (nI ((pr (nu 1) (R0 nu) ww p n).1)), .ref ma, .ref be]), (nw, aI g 41 gn), (ni, aI g 8 nf1), (re, aI g 8 ref1)] := S
    refine lv_aload_n hx hb dX7_bendWithout_30 rfl (lv_at hl 0 rfl) ?_
    refine after_I (wc := [(M, ob 7 [.ref nw, .ref dr, .ref pa, .int ypa, .ref im, .ref ke, .ref fl, .ref fq, .int yfa, .ref te, .int yty, .int yat, .int yst, .int yso, .int yva, .ref ni, .ref re, .int (nI (abN (nu 1) (R0 nu) ww p n)), .int (nI (beN (nu 1) (R0 nu) ww p n)), .int (bI (decide (0 < lowN (nu 1) (R0 nu) ww p n))), .int (nI ((pr (nu 1) (R0 nu) ww p n).1)), .ref ma, .ref be])]) (y := yX7_cutOf) C S (va_runV (As := []) (rest := []) C.1 (kX7_cutOf l g M nw dr pa im ke fl fq te ni re ma be ypa yfa yty yat yst yso yva (nI ((pr (nu 1) (R0 nu) ww p n).1)) (abN (nu 1) (R0 nu) ww p n) (beN (nu 1) (R0 nu) ww p n) (decide (0 < lowN (nu 1) (R0 nu) ww p n)) (ab_le hn (by omega) hSb hRb) (be_le hn hSb hRb) (fun _ => be_pos) H.size) (cwV 0 hts gX7_bendWithout_X7_cutOf rfl rfl rfl (by decide +kernel) ⟨Nat.le_of_ble_eq_true rfl, Nat.le_of_ble_eq_true rfl⟩) (preV_at C S 0 rfl rfl [0] rfl (by decide)) rfl rfl hl.1 rfl (lv_room (Nat.le_of_ble_eq_true rfl)) dX7_bendWithout_31 ⟨Nat.le_of_ble_eq_true rfl, Nat.le_of_ble_eq_true rfl⟩) [0] [1, 2, 3] rfl (wr := [(nw, aI g 41 gn), (ni, aI g 8 nf1), (re, aI g 8 ref1)]) rfl (by decide) (by decide) (fun r0 w0 H locs hq S => ?_)
    obtain ⟨rfl, rfl⟩ := hq
    have S : ST g A ss H locs [(M, ob 7 [.ref nw, .ref dr, .ref pa, .int ypa, .ref im, .ref ke, .ref fl, .ref fq, .int yfa, .ref te, .int yty, .int yat, .int yst, .int yso, .int yva, .ref ni, .ref re, .int (nI (abN (nu 1) (R0 nu) ww p n)), .int (nI (beN (nu 1) (R0 nu) ww p n)), .int (bI (decide (0 < lowN (nu 1) (R0 nu) ww p n))), .int (nI ((pr (nu 1) (R0 nu) ww p n).1)), .ref ma, .ref be]), (nw, aI g 41 gn), (ni, aI g 8 nf1), (re, aI g 8 ref1)] := ST.sub S [3, 0, 1, 2] (by decide) rfl
    exact ret_I C S hr dX7_bendWithout_34 ⟨(by rw [show cutS nu n ww 0 p = cutI (uppN (nu 1) (R0 nu) ww p n) (lowN (nu 1) (R0 nu) ww p n) from rfl]; exact cut_eq), (nI (abN (nu 1) (R0 nu) ww p n)), (nI (beN (nu 1) (R0 nu) ww p n)), (bI (decide (0 < lowN (nu 1) (R0 nu) ww p n))), (nI ((pr (nu 1) (R0 nu) ww p n).1)), nf1, ref1, (rfl)⟩

set_option maxRecDepth 100000 in
set_option maxHeartbeats 4000000 in
theorem kX7_bendWithouty (l : Launch) (g : GG) (M : Nat) (nw : Nat) (dr : Nat) (pa : Nat) (im : Nat) (ke : Nat) (fl : Nat) (fq : Nat) (te : Nat) (ni : Nat) (re : Nat) (ma : Nat) (be : Nat) (ypa : Int32) (yfa : Int32) (yty : Int32) (yat : Int32) (yst : Int32) (yso : Int32) (yva : Int32) (yab : Int32) (ybl : Int32) (yis : Int32) (yra : Int32) (gn : Nat → Int32) (n : Nat) (ww : Nat) (nu : Nat → Nat → Nat) (nf : Nat → Int32) (ref : Nat → Int32) (j : Nat) (p : Nat) (hn1 : 1 ≤ n) (hn : n ≤ 8) (hww : ww < 2 ^ n) (hg0 : gn 0 = nI n) (hgn : ∀ a i, a < 4 → i < n → gn (5 * i + (a + 1)) = nI (nu a i)) (hgw : ∀ i, i < n → gn (5 * i + 5) = nI (ww.testBit i).toNat) (hB : HB nu n) (hj : j < n) (hp : p ≤ 999) : KI l g yX7_bendWithout wsX7_bendWithout 3 74 [.ref M, .int (nI j), .int (nI p)] [(M, ob 7 [.ref nw, .ref dr, .ref pa, .int ypa, .ref im, .ref ke, .ref fl, .ref fq, .int yfa, .ref te, .int yty, .int yat, .int yst, .int yso, .int yva, .ref ni, .ref re, .int yab, .int ybl, .int yis, .int yra, .ref ma, .ref be]), (nw, aI g 41 gn), (ni, aI g 8 nf), (re, aI g 8 ref)] (fun (r : Int32) (w' : va_W) => r = (cutS nu n ww (j + 1) p) ∧ ∃ (ab' : Int32), ∃ (bl' : Int32), ∃ (is' : Int32), ∃ (ra' : Int32), ∃ (nf' : Nat → Int32), ∃ (ref' : Nat → Int32), w' = [(M, ob 7 [.ref nw, .ref dr, .ref pa, .int ypa, .ref im, .ref ke, .ref fl, .ref fq, .int yfa, .ref te, .int yty, .int yat, .int yst, .int yso, .int yva, .ref ni, .ref re, .int ab', .int bl', .int is', .int ra', .ref ma, .ref be]), (nw, aI g 41 gn), (ni, aI g 8 nf'), (re, aI g 8 ref')]) := by
  refine kI_of (cc := cX7_bendWithout) (maxL := 3) (by decide) rfl (Nat.le_of_ble_eq_true rfl) ?_
  intro pp ee ss mm bel mth cd A ls C S hr hl
  obtain ⟨hx, hb, hml, hown, hts⟩ := id C.1
  have hl : lv_has ls 3 [(0, .ref M), (1, .int (nI j)), (2, .int (nI p))] := hl
  obtain ⟨H, hH⟩ : ∃ H, H = ss.heap := ⟨_, rfl⟩
  obtain ⟨locs, hL0⟩ : ∃ L : List Loc, L = [] := ⟨_, rfl⟩
  rw [← hH, ← hL0] at S ⊢
  have hca : ∀ i, i < n → nu 2 i ≤ 30 := fun i9 h9 => (hB i9 h9).2.2.1
  have hSb : ∀ i, i < n → nu 1 i ≤ 9 := fun i9 h9 => (hB i9 h9).2.1.2
  have hTb : ∀ i, i < n → nu 3 i ≤ 99 := fun i9 h9 => (hB i9 h9).2.2.2.2
  have hRb : ∀ i, i < n → R0 nu i ≤ 240 := RC_le hn hca
  have hst : ∀ i, i < n → 1 ≤ nu 1 i ∧ nu 1 i ≤ 9 := fun i9 h9 => (hB i9 h9).2.1
  have w8 : ww < 256 := wlt hn hww
  have a8 : 2 ^ n - 1 < 256 := all_lt hn
  refine lv_aload_n hx hb dX7_bendWithout_0 rfl (lv_at hl 0 rfl) ?_
  refine lv_aload_n hx hb dX7_bendWithout_1 rfl (lv_at hl 0 rfl) ?_
  refine after_I (wc := [(M, ob 7 [.ref nw, .ref dr, .ref pa, .int ypa, .ref im, .ref ke, .ref fl, .ref fq, .int yfa, .ref te, .int yty, .int yat, .int yst, .int yso, .int yva, .ref ni, .ref re, .int yab, .int ybl, .int yis, .int yra, .ref ma, .ref be]), (nw, aI g 41 gn)]) (y := yX7_all) C S (va_runV (As := []) (rest := [.ref M]) C.1 (kX7_all l g M nw dr pa im ke fl fq te ni re ma be ypa yfa yty yat yst yso yva yab ybl yis yra gn n (by first | assumption | omega) (by first | assumption | omega) H.size) (cwV 0 hts gX7_bendWithout_X7_all rfl rfl rfl (by decide +kernel) ⟨Nat.le_of_ble_eq_true rfl, Nat.le_of_ble_eq_true rfl⟩) (preV_at C S 0 rfl rfl [0, 1] rfl (by decide)) rfl rfl hl.1 rfl (lv_room (Nat.le_of_ble_eq_true rfl)) dX7_bendWithout_2 ⟨Nat.le_of_ble_eq_true rfl, Nat.le_of_ble_eq_true rfl⟩) [0, 1] [2, 3] rfl (wr := [(ni, aI g 8 nf), (re, aI g 8 ref)]) rfl (by decide) (by decide) (fun r0 w0 H locs hq S => ?_)
  obtain ⟨rfl, rfl⟩ := hq
  have S : ST g A ss H locs [(M, ob 7 [.ref nw, .ref dr, .ref pa, .int ypa, .ref im, .ref ke, .ref fl, .ref fq, .int yfa, .ref te, .int yty, .int yat, .int yst, .int yso, .int yva, .ref ni, .ref re, .int yab, .int ybl, .int yis, .int yra, .ref ma, .ref be]), (nw, aI g 41 gn), (ni, aI g 8 nf), (re, aI g 8 ref)] := ST.sub S [2, 3, 0, 1] (by decide) rfl
  refine lv_iload_n hx hb dX7_bendWithout_5 rfl (lv_at hl 1 rfl) ?_
  refine bn_zge (tgt := 16) (a := j) hx hb rfl (by omega) dX7_bendWithout_6 (by decide) (fun c_1 => ?_) (fun c_1 => ?_)
  · -- 6 T
    refine lv_aload_n hx hb dX7_bendWithout_16 rfl (lv_at hl 0 rfl) ?_
    refine after_I (wc := [(M, ob 7 [.ref nw, .ref dr, .ref pa, .int ypa, .ref im, .ref ke, .ref fl, .ref fq, .int yfa, .ref te, .int yty, .int yat, .int yst, .int yso, .int yva, .ref ni, .ref re, .int yab, .int ybl, .int yis, .int yra, .ref ma, .ref be]), (nw, aI g 41 gn)]) (y := yX7_whole) C S (va_runV (As := []) (rest := [.int (nI (2 ^ n - 1)), .ref M]) C.1 (kX7_whole l g M nw dr pa im ke fl fq te ni re ma be ypa yfa yty yat yst yso yva yab ybl yis yra gn n ww (by first | assumption | omega) (by first | assumption | omega) (by first | assumption | omega) (by first | assumption | omega) H.size) (cwV 0 hts gX7_bendWithout_X7_whole rfl rfl rfl (by decide +kernel) ⟨Nat.le_of_ble_eq_true rfl, Nat.le_of_ble_eq_true rfl⟩) (preV_at C S 0 rfl rfl [0, 1] rfl (by decide)) rfl rfl hl.1 rfl (lv_room (Nat.le_of_ble_eq_true rfl)) dX7_bendWithout_17 ⟨Nat.le_of_ble_eq_true rfl, Nat.le_of_ble_eq_true rfl⟩) [0, 1] [2, 3] rfl (wr := [(ni, aI g 8 nf), (re, aI g 8 ref)]) rfl (by decide) (by decide) (fun r0 w0 H locs hq S => ?_)
    obtain ⟨rfl, rfl⟩ := hq
    have S : ST g A ss H locs [(M, ob 7 [.ref nw, .ref dr, .ref pa, .int ypa, .ref im, .ref ke, .ref fl, .ref fq, .int yfa, .ref te, .int yty, .int yat, .int yst, .int yso, .int yva, .ref ni, .ref re, .int yab, .int ybl, .int yis, .int yra, .ref ma, .ref be]), (nw, aI g 41 gn), (ni, aI g 8 nf), (re, aI g 8 ref)] := ST.sub S [2, 3, 0, 1] (by decide) rfl
    refine lv_iconst (v := 1) hx hb dX7_bendWithout_20 (by decide) ?_
    refine lv_iload_n hx hb dX7_bendWithout_21 rfl (lv_at hl 1 rfl) ?_
    refine lv_ishl hx hb dX7_bendWithout_22 ?_
    refine top_eq (y := nI (2 ^ j)) (shl_1 (by omega)) ?_
    refine lv_iconst (v := (-1)) hx hb dX7_bendWithout_23 (by decide) ?_
    refine lv_ixor hx hb dX7_bendWithout_24 ?_
    refine lv_iand hx hb dX7_bendWithout_25 ?_
    refine top_eq (y := nI (clr ww j)) (clr_N w8 (by omega)) ?_
    refine lv_iload_n hx hb dX7_bendWithout_26 rfl (lv_at hl 2 rfl) ?_
    refine after_V (wc := [(M, ob 7 [.ref nw, .ref dr, .ref pa, .int ypa, .ref im, .ref ke, .ref fl, .ref fq, .int yfa, .ref te, .int yty, .int yat, .int yst, .int yso, .int yva, .ref ni, .ref re, .int yab, .int ybl, .int yis, .int yra, .ref ma, .ref be]), (nw, aI g 41 gn), (ni, aI g 8 nf), (re, aI g 8 ref)]) (y := yX7_bends) C S (va_runV (As := [.int (nI (2 ^ n - 1)), .int (nI (clr ww j)), .int (nI p)]) (rest := []) C.1 (kX7_bends l g M nw dr pa im ke fl fq te ni re ma be ypa yfa yty yat yst yso yva yab ybl yis yra gn n nu nf ref (R0 nu) (2 ^ n - 1) (clr ww j) p (by first | assumption | omega) (by first | assumption | omega) (by first | assumption | omega) (by first | assumption | omega) (by first | assumption | omega) (by omega) (Nat.lt_of_le_of_lt (clr_le _ _) hww) (fun j9 h9 _ => all_tb h9) (fun j9 h9 _ => RC_all hn h9) (by first | assumption | omega) (by omega) H.size) (cwV 3 hts gX7_bendWithout_X7_bends rfl rfl rfl (by decide +kernel) ⟨Nat.le_of_ble_eq_true rfl, Nat.le_of_ble_eq_true rfl⟩) (preV_at C S 0 rfl rfl [0, 1, 2, 3] rfl (by decide)) rfl rfl hl.1 rfl (lv_room (Nat.le_of_ble_eq_true rfl)) dX7_bendWithout_27 ⟨Nat.le_of_ble_eq_true rfl, Nat.le_of_ble_eq_true rfl⟩) [0, 1, 2, 3] [] rfl (wr := []) rfl (by decide) (by decide) (fun w0 H locs hq S => ?_)
    obtain ⟨nf1, ref1, hRe1, rfl⟩ := hq
    have S : ST g A ss H locs [(M, ob 7 [.ref nw, .ref dr, .ref pa, .int ypa, .ref im, .ref ke, .ref fl, .ref fq, .int yfa, .ref te, .int yty, .int yat, .int yst, .int yso, .int yva, .ref ni, .ref re, .int (nI (abN (nu 1) (R0 nu) (clr ww j) p n)), .int (nI (beN (nu 1) (R0 nu) (clr ww j) p n)), .int (bI (decide (0 < lowN (nu 1) (R0 nu) (clr ww j) p n))), .int (nI ((pr (nu 1) (R0 nu) (clr ww j) p n).1)), .ref ma, .ref be]), (nw, aI g 41 gn), (ni, aI g 8 nf1), (re, aI g 8 ref1)] := S
    refine lv_aload_n hx hb dX7_bendWithout_30 rfl (lv_at hl 0 rfl) ?_
    refine after_I (wc := [(M, ob 7 [.ref nw, .ref dr, .ref pa, .int ypa, .ref im, .ref ke, .ref fl, .ref fq, .int yfa, .ref te, .int yty, .int yat, .int yst, .int yso, .int yva, .ref ni, .ref re, .int (nI (abN (nu 1) (R0 nu) (clr ww j) p n)), .int (nI (beN (nu 1) (R0 nu) (clr ww j) p n)), .int (bI (decide (0 < lowN (nu 1) (R0 nu) (clr ww j) p n))), .int (nI ((pr (nu 1) (R0 nu) (clr ww j) p n).1)), .ref ma, .ref be])]) (y := yX7_cutOf) C S (va_runV (As := []) (rest := []) C.1 (kX7_cutOf l g M nw dr pa im ke fl fq te ni re ma be ypa yfa yty yat yst yso yva (nI ((pr (nu 1) (R0 nu) (clr ww j) p n).1)) (abN (nu 1) (R0 nu) (clr ww j) p n) (beN (nu 1) (R0 nu) (clr ww j) p n) (decide (0 < lowN (nu 1) (R0 nu) (clr ww j) p n)) (ab_le hn (by omega) hSb hRb) (be_le hn hSb hRb) (fun _ => be_pos) H.size) (cwV 0 hts gX7_bendWithout_X7_cutOf rfl rfl rfl (by decide +kernel) ⟨Nat.le_of_ble_eq_true rfl, Nat.le_of_ble_eq_true rfl⟩) (preV_at C S 0 rfl rfl [0] rfl (by decide)) rfl rfl hl.1 rfl (lv_room (Nat.le_of_ble_eq_true rfl)) dX7_bendWithout_31 ⟨Nat.le_of_ble_eq_true rfl, Nat.le_of_ble_eq_true rfl⟩) [0] [1, 2, 3] rfl (wr := [(nw, aI g 41 gn), (ni, aI g 8 nf1), (re, aI g 8 ref1)]) rfl (by decide) (by decide) (fun r0 w0 H locs hq S => ?_)
    obtain ⟨rfl, rfl⟩ := hq
    have S : ST g A ss H locs [(M, ob 7 [.ref nw, .ref dr, .ref pa, .int ypa, .ref im, .ref ke, .ref fl, .ref fq, .int yfa, .ref te, .int yty, .int yat, .int yst, .int yso, .int yva, .ref ni, .ref re, .int (nI (abN (nu 1) (R0 nu) (clr ww j) p n)), .int (nI (beN (nu 1) (R0 nu) (clr ww j) p n)), .int (bI (decide (0 < lowN (nu 1) (R0 nu) (clr ww j) p n))), .int (nI ((pr (nu 1) (R0 nu) (clr ww j) p n).1)), .ref ma, .ref be]), (nw, aI g 41 gn), (ni, aI g 8 nf1), (re, aI g 8 ref1)] := ST.sub S [3, 0, 1, 2] (by decide) rfl
    exact ret_I C S hr dX7_bendWithout_34 ⟨(by rw [show cutS nu n ww (j + 1) p = cutI (uppN (nu 1) (R0 nu) (clr ww j) p n) (lowN (nu 1) (R0 nu) (clr ww j) p n) from rfl]; exact cut_eq), (nI (abN (nu 1) (R0 nu) (clr ww j) p n)), (nI (beN (nu 1) (R0 nu) (clr ww j) p n)), (bI (decide (0 < lowN (nu 1) (R0 nu) (clr ww j) p n))), (nI ((pr (nu 1) (R0 nu) (clr ww j) p n).1)), nf1, ref1, (rfl)⟩
  · -- 6 F
    exact absurd (Nat.zero_le _) c_1

theorem inX7_isSon_X7 : ∀ w ∈ wsX70, w ∈ wsX7_isSo := by decide +kernel
set_option maxRecDepth 100000 in
set_option maxHeartbeats 4000000 in
theorem kX7_isSon (l : Launch) (g : GG) (M : Nat) (nw : Nat) (dr : Nat) (pa : Nat) (im : Nat) (ke : Nat) (fl : Nat) (fq : Nat) (te : Nat) (ni : Nat) (re : Nat) (ma : Nat) (be : Nat) (ypa : Int32) (yty : Int32) (yat : Int32) (yst : Int32) (yso : Int32) (yva : Int32) (yab : Int32) (ybl : Int32) (yis : Int32) (yra : Int32) (gn : Nat → Int32) (n : Nat) (ww : Nat) (nu : Nat → Nat → Nat) (nf : Nat → Int32) (ref : Nat → Int32) (lf : Nat → Int32) (bf : Nat → Int32) (sz : Nat) (lo : Nat → Nat) (hn1 : 1 ≤ n) (hn : n ≤ 8) (hww : ww < 2 ^ n) (hg0 : gn 0 = nI n) (hgn : ∀ a i, a < 4 → i < n → gn (5 * i + (a + 1)) = nI (nu a i)) (hgw : ∀ i, i < n → gn (5 * i + 5) = nI (ww.testBit i).toNat) (hB : HB nu n) (hs6 : sz ≤ 6) (hlo : ∀ i, i < sz → lf i = nI (lo i)) (hlb : ∀ i, i < sz → lo i ≤ 999) : KI l g yX7_isSo wsX7_isSo 4 96 [.ref M, .int (-1)] [(M, ob 7 [.ref nw, .ref dr, .ref pa, .int ypa, .ref im, .ref ke, .ref fl, .ref fq, .int (nI sz), .ref te, .int yty, .int yat, .int yst, .int yso, .int yva, .ref ni, .ref re, .int yab, .int ybl, .int yis, .int yra, .ref ma, .ref be]), (nw, aI g 41 gn), (ni, aI g 8 nf), (re, aI g 8 ref), (fl, aI g 6 lf), (fq, aI g 6 bf)] (fun (r : Int32) (w' : va_W) => r = (bI (soB nu n ww sz lo bf 0)) ∧ ∃ (ab' : Int32), ∃ (bl' : Int32), ∃ (is' : Int32), ∃ (ra' : Int32), ∃ (nf' : Nat → Int32), ∃ (ref' : Nat → Int32), w' = [(M, ob 7 [.ref nw, .ref dr, .ref pa, .int ypa, .ref im, .ref ke, .ref fl, .ref fq, .int (nI sz), .ref te, .int yty, .int yat, .int yst, .int yso, .int yva, .ref ni, .ref re, .int ab', .int bl', .int is', .int ra', .ref ma, .ref be]), (nw, aI g 41 gn), (ni, aI g 8 nf'), (re, aI g 8 ref'), (fl, aI g 6 lf), (fq, aI g 6 bf)]) := by
  refine kI_of (cc := cX7_isSo) (maxL := 4) (by decide) rfl (Nat.le_of_ble_eq_true rfl) ?_
  intro pp ee ss mm bel mth cd A ls C S hr hl
  obtain ⟨hx, hb, hml, hown, hts⟩ := id C.1
  have hl : lv_has ls 4 [(0, .ref M), (1, .int (-1))] := hl
  obtain ⟨H, hH⟩ : ∃ H, H = ss.heap := ⟨_, rfl⟩
  obtain ⟨locs, hL0⟩ : ∃ L : List Loc, L = [] := ⟨_, rfl⟩
  rw [← hH, ← hL0] at S ⊢
  refine lv_iload_n hx hb dX7_isSo_0 rfl (lv_at hl 1 rfl) ?_
  refine lv_if_lt (tgt := 12) hx hb dX7_isSo_1 (by decide) (fun c_1 => ?_) (fun c_1 => ?_)
  · -- 1 T
    refine lv_iconst (v := 1) hx hb dX7_isSo_12 (by decide) ?_
    refine lv_goto (tgt := 17) hx hb dX7_isSo_13 (by decide) ?_
    refine lv_istore_n (lv' := [(2, .int 1), (0, .ref M), (1, .int (-1))]) hx hb dX7_isSo_17 rfl hl (by decide) rfl (fun ls hl => ?_)
    refine lv_iconst (v := 0) hx hb dX7_isSo_18 (by decide) ?_
    refine lv_istore_n (lv' := [(3, .int 0), (2, .int 1), (0, .ref M), (1, .int (-1))]) hx hb dX7_isSo_19 rfl hl (by decide) rfl (fun ls hl => ?_)
    have loop20 : ∀ (N0 : Nat) (i : Nat) (mb : Bool) (u1 : Int32) (u2 : Int32) (u3 : Int32) (u4 : Int32) (n1 : Nat → Int32) (r1 : Nat → Int32), sz - i < N0 → (i ≤ sz) → (mb = true → ∀ j9, j9 < i → cutS nu n ww (0) (lo j9) = bf j9) → (mb = false → soB nu n ww sz lo bf (0) = false) → ∀ (H : Heap) (locs : List Loc) (ls : Array Slot), ST g A ss H locs [(M, ob 7 [.ref nw, .ref dr, .ref pa, .int ypa, .ref im, .ref ke, .ref fl, .ref fq, .int (nI sz), .ref te, .int yty, .int yat, .int yst, .int yso, .int yva, .ref ni, .ref re, .int u1, .int u2, .int u3, .int u4, .ref ma, .ref be]), (nw, aI g 41 gn), (ni, aI g 8 n1), (re, aI g 8 r1), (fl, aI g 6 lf), (fq, aI g 6 bf)] → lv_has ls 4 [(3, .int (nI i)), (2, .int (bI mb)), (0, .ref M), (1, .int (-1))] → W pp l ee { frames := 4, cells := 0, slots := 0, locals := 96 } ss mm ([.ref M, .int (-1)] : List Value).toArray bel mth cd H locs 0 0 (QI bel ([.ref M, .int (-1)] : List Value).toArray ss g A (fun (r : Int32) (w' : va_W) => r = (bI (soB nu n ww sz lo bf 0)) ∧ ∃ (ab' : Int32), ∃ (bl' : Int32), ∃ (is' : Int32), ∃ (ra' : Int32), ∃ (nf' : Nat → Int32), ∃ (ref' : Nat → Int32), w' = [(M, ob 7 [.ref nw, .ref dr, .ref pa, .int ypa, .ref im, .ref ke, .ref fl, .ref fq, .int (nI sz), .ref te, .int yty, .int yat, .int yst, .int yso, .int yva, .ref ni, .ref re, .int ab', .int bl', .int is', .int ra', .ref ma, .ref be]), (nw, aI g 41 gn), (ni, aI g 8 nf'), (re, aI g 8 ref'), (fl, aI g 6 lf), (fq, aI g 6 bf)])) (F0 mm 20 ls []) := by
      intro N0
      induction N0 with
      | zero => intro i mb u1 u2 u3 u4 n1 r1 hN; exact absurd hN (Nat.not_lt_zero _)
      | succ N0 ih20 =>
        intro i mb u1 u2 u3 u4 n1 r1 hN hi hmt hmf H locs ls S hl
        refine lv_iload_n hx hb dX7_isSo_20 rfl (lv_at hl 0 rfl) ?_
        refine lv_aload_n hx hb dX7_isSo_21 rfl (lv_at hl 2 rfl) ?_
        refine top_get C S inX7_isSon_X7 rfl 0 rfl 8 (by decide) (by decide +kernel) rfl rfl dX7_isSo_22 ?_
        refine bn_ige (tgt := 64) (a := i) (b := sz) hx hb rfl rfl (by omega) (by omega) dX7_isSo_25 (by decide) (fun c_2 => ?_) (fun c_2 => ?_)
        · -- 25 T
          refine lv_iload_n hx hb dX7_isSo_64 rfl (lv_at hl 1 rfl) ?_
          exact ret_Z (soB nu n ww sz lo bf 0) C S hr dX7_isSo_65 (congrArg bI (so_res (fun q9 => by rw [so_0]; exact ag_t (fun j9 h9 => hmt q9 j9 (by omega))) hmf)) ⟨(congrArg bI (so_res (fun q9 => by rw [so_0]; exact ag_t (fun j9 h9 => hmt q9 j9 (by omega))) hmf)), u1, u2, u3, u4, n1, r1, (rfl)⟩
        · -- 25 F
          refine lv_iload_n hx hb dX7_isSo_28 rfl (lv_at hl 1 rfl) ?_
          refine br_eqB (tgt := 64) hx hb dX7_isSo_29 (by decide) (fun c_3 => ?_) (fun c_3 => ?_)
          · -- 29 T
            refine lv_iload_n hx hb dX7_isSo_64 rfl (lv_at hl 1 rfl) ?_
            exact ret_Z (soB nu n ww sz lo bf 0) C S hr dX7_isSo_65 (congrArg bI (so_res (fun q9 => by rw [c_3] at q9; cases q9) hmf)) ⟨(congrArg bI (so_res (fun q9 => by rw [c_3] at q9; cases q9) hmf)), u1, u2, u3, u4, n1, r1, (rfl)⟩
          · -- 29 F
            have hmb9 := c_3
            refine lv_aload_n hx hb dX7_isSo_32 rfl (lv_at hl 2 rfl) ?_
            refine lv_iload_n hx hb dX7_isSo_33 rfl (lv_at hl 3 rfl) ?_
            refine lv_aload_n hx hb dX7_isSo_34 rfl (lv_at hl 2 rfl) ?_
            refine top_get C S inX7_isSon_X7 rfl 0 rfl 6 (by decide) (by decide +kernel) rfl rfl dX7_isSo_35 ?_
            refine lv_iload_n hx hb dX7_isSo_38 rfl (lv_at hl 0 rfl) ?_
            refine top_ild C S 4 rfl (j := i) rfl (by omega) (by decide) dX7_isSo_39 ?_
            refine top_eq (y := nI (lo i)) (hlo _ (by omega)) ?_
            refine after_I (wc := [(M, ob 7 [.ref nw, .ref dr, .ref pa, .int ypa, .ref im, .ref ke, .ref fl, .ref fq, .int (nI sz), .ref te, .int yty, .int yat, .int yst, .int yso, .int yva, .ref ni, .ref re, .int u1, .int u2, .int u3, .int u4, .ref ma, .ref be]), (nw, aI g 41 gn), (ni, aI g 8 n1), (re, aI g 8 r1)]) (y := yX7_bendWithout) C S (va_runV (As := [.int (-1), .int (nI (lo i))]) (rest := []) C.1 (kX7_bendWithoutn l g M nw dr pa im ke fl fq te ni re ma be ypa (nI sz) yty yat yst yso yva u1 u2 u3 u4 gn n ww nu n1 r1 (lo i) (by first | assumption | omega) (by first | assumption | omega) (by first | assumption | omega) (by first | assumption | omega) (by first | assumption | omega) (by first | assumption | omega) (by first | assumption | omega) (hlb _ (by omega)) H.size) (cwV 2 hts gX7_isSo_X7_bendWithout rfl rfl rfl (by decide +kernel) ⟨Nat.le_of_ble_eq_true rfl, Nat.le_of_ble_eq_true rfl⟩) (preV_at C S 0 rfl rfl [0, 1, 2, 3] rfl (by decide)) rfl rfl hl.1 rfl (lv_room (Nat.le_of_ble_eq_true rfl)) dX7_isSo_40 ⟨Nat.le_of_ble_eq_true rfl, Nat.le_of_ble_eq_true rfl⟩) [0, 1, 2, 3] [4, 5] rfl (wr := [(fl, aI g 6 lf), (fq, aI g 6 bf)]) rfl (by decide) (by decide) (fun r0 w0 H locs hq S => ?_)
            obtain ⟨rfl, ab'_4, bl'_5, is'_6, ra'_7, nf'_8, ref'_9, rfl⟩ := hq
            have S : ST g A ss H locs [(M, ob 7 [.ref nw, .ref dr, .ref pa, .int ypa, .ref im, .ref ke, .ref fl, .ref fq, .int (nI sz), .ref te, .int yty, .int yat, .int yst, .int yso, .int yva, .ref ni, .ref re, .int ab'_4, .int bl'_5, .int is'_6, .int ra'_7, .ref ma, .ref be]), (nw, aI g 41 gn), (ni, aI g 8 nf'_8), (re, aI g 8 ref'_9), (fl, aI g 6 lf), (fq, aI g 6 bf)] := ST.sub S [2, 3, 4, 5, 0, 1] (by decide) rfl
            refine lv_aload_n hx hb dX7_isSo_43 rfl (lv_at hl 2 rfl) ?_
            refine top_get C S inX7_isSon_X7 rfl 0 rfl 7 (by decide) (by decide +kernel) rfl rfl dX7_isSo_44 ?_
            refine lv_iload_n hx hb dX7_isSo_47 rfl (lv_at hl 0 rfl) ?_
            refine top_ild C S 5 rfl (j := i) rfl (by omega) (by decide) dX7_isSo_48 ?_
            refine lv_icmp_ne (tgt := 56) hx hb dX7_isSo_49 (by decide) (fun c_10 => ?_) (fun c_10 => ?_)
            · -- 49 T
              refine lv_iconst (v := 0) hx hb dX7_isSo_56 (by decide) ?_
              refine lv_istore_n (lv' := [(2, .int 0), (3, .int (nI i)), (0, .ref M), (1, .int (-1))]) hx hb dX7_isSo_57 rfl hl (by decide) rfl (fun ls hl => ?_)
              refine lv_iinc (v := nI (i + 1)) (lv' := [(3, .int (nI (i + 1))), (2, .int 0), (0, .ref M), (1, .int (-1))]) hx hb dX7_isSo_58 hl (k := 1) rfl (nI_add _ _) (by decide) rfl (fun ls hl => ?_)
              refine lv_goto (tgt := 20) hx hb dX7_isSo_61 (by decide) ?_
              exact ih20 (i + 1) false ab'_4 bl'_5 is'_6 ra'_7 nf'_8 ref'_9 (by omega) (by first | assumption | omega) (fun q9 => by cases q9) (fun _ => by rw [so_0]; exact ag_f (i := i) (by omega) c_10) H locs ls (ST.eq S (rfl)) (lv_sub hl [0, 1, 2, 3] (rfl))
            · -- 49 F
              refine lv_iconst (v := 1) hx hb dX7_isSo_52 (by decide) ?_
              refine lv_goto (tgt := 57) hx hb dX7_isSo_53 (by decide) ?_
              refine lv_istore_n (lv' := [(2, .int 1), (3, .int (nI i)), (0, .ref M), (1, .int (-1))]) hx hb dX7_isSo_57 rfl hl (by decide) rfl (fun ls hl => ?_)
              refine lv_iinc (v := nI (i + 1)) (lv' := [(3, .int (nI (i + 1))), (2, .int 1), (0, .ref M), (1, .int (-1))]) hx hb dX7_isSo_58 hl (k := 1) rfl (nI_add _ _) (by decide) rfl (fun ls hl => ?_)
              refine lv_goto (tgt := 20) hx hb dX7_isSo_61 (by decide) ?_
              exact ih20 (i + 1) true ab'_4 bl'_5 is'_6 ra'_7 nf'_8 ref'_9 (by omega) (by first | assumption | omega) (fun _ j9 h9 => by rcases (show j9 < i ∨ j9 = i by omega) with z9 | rfl; exact hmt hmb9 j9 z9; exact c_10) (fun q9 => by cases q9) H locs ls (ST.eq S (rfl)) (lv_sub hl [0, 1, 2, 3] (rfl))
    exact loop20 _ 0 true yab ybl yis yra nf ref (Nat.lt_succ_self _) (by first | assumption | omega) (fun _ j9 h9 => absurd h9 (Nat.not_lt_zero _)) (fun q9 => by cases q9) H locs ls (ST.eq S (rfl)) (lv_sub hl [0, 1, 2, 3] (rfl))
  · -- 1 F
    exact absurd (by decide) c_1

theorem inX7_isSoy_X7 : ∀ w ∈ wsX70, w ∈ wsX7_isSo := by decide +kernel
set_option maxRecDepth 100000 in
set_option maxHeartbeats 4000000 in
theorem kX7_isSoy (l : Launch) (g : GG) (M : Nat) (nw : Nat) (dr : Nat) (pa : Nat) (im : Nat) (ke : Nat) (fl : Nat) (fq : Nat) (te : Nat) (ni : Nat) (re : Nat) (ma : Nat) (be : Nat) (ypa : Int32) (yty : Int32) (yat : Int32) (yst : Int32) (yso : Int32) (yva : Int32) (yab : Int32) (ybl : Int32) (yis : Int32) (yra : Int32) (gn : Nat → Int32) (n : Nat) (ww : Nat) (nu : Nat → Nat → Nat) (nf : Nat → Int32) (ref : Nat → Int32) (lf : Nat → Int32) (bf : Nat → Int32) (sz : Nat) (lo : Nat → Nat) (j : Nat) (hn1 : 1 ≤ n) (hn : n ≤ 8) (hww : ww < 2 ^ n) (hg0 : gn 0 = nI n) (hgn : ∀ a i, a < 4 → i < n → gn (5 * i + (a + 1)) = nI (nu a i)) (hgw : ∀ i, i < n → gn (5 * i + 5) = nI (ww.testBit i).toNat) (hB : HB nu n) (hs6 : sz ≤ 6) (hlo : ∀ i, i < sz → lf i = nI (lo i)) (hlb : ∀ i, i < sz → lo i ≤ 999) (hj : j < n) : KI l g yX7_isSo wsX7_isSo 4 96 [.ref M, .int (nI j)] [(M, ob 7 [.ref nw, .ref dr, .ref pa, .int ypa, .ref im, .ref ke, .ref fl, .ref fq, .int (nI sz), .ref te, .int yty, .int yat, .int yst, .int yso, .int yva, .ref ni, .ref re, .int yab, .int ybl, .int yis, .int yra, .ref ma, .ref be]), (nw, aI g 41 gn), (ni, aI g 8 nf), (re, aI g 8 ref), (fl, aI g 6 lf), (fq, aI g 6 bf)] (fun (r : Int32) (w' : va_W) => r = (bI (soB nu n ww sz lo bf (j + 1))) ∧ ∃ (ab' : Int32), ∃ (bl' : Int32), ∃ (is' : Int32), ∃ (ra' : Int32), ∃ (nf' : Nat → Int32), ∃ (ref' : Nat → Int32), w' = [(M, ob 7 [.ref nw, .ref dr, .ref pa, .int ypa, .ref im, .ref ke, .ref fl, .ref fq, .int (nI sz), .ref te, .int yty, .int yat, .int yst, .int yso, .int yva, .ref ni, .ref re, .int ab', .int bl', .int is', .int ra', .ref ma, .ref be]), (nw, aI g 41 gn), (ni, aI g 8 nf'), (re, aI g 8 ref'), (fl, aI g 6 lf), (fq, aI g 6 bf)]) := by
  refine kI_of (cc := cX7_isSo) (maxL := 4) (by decide) rfl (Nat.le_of_ble_eq_true rfl) ?_
  intro pp ee ss mm bel mth cd A ls C S hr hl
  obtain ⟨hx, hb, hml, hown, hts⟩ := id C.1
  have hl : lv_has ls 4 [(0, .ref M), (1, .int (nI j))] := hl
  obtain ⟨H, hH⟩ : ∃ H, H = ss.heap := ⟨_, rfl⟩
  obtain ⟨locs, hL0⟩ : ∃ L : List Loc, L = [] := ⟨_, rfl⟩
  rw [← hH, ← hL0] at S ⊢
  refine lv_iload_n hx hb dX7_isSo_0 rfl (lv_at hl 1 rfl) ?_
  refine bn_zlt (tgt := 12) (a := j) hx hb rfl (by omega) dX7_isSo_1 (by decide) (fun c_1 => ?_) (fun c_1 => ?_)
  · -- 1 T
    exact absurd c_1 (Nat.not_lt_zero _)
  · -- 1 F
    refine lv_aload_n hx hb dX7_isSo_4 rfl (lv_at hl 0 rfl) ?_
    refine lv_iload_n hx hb dX7_isSo_5 rfl (lv_at hl 1 rfl) ?_
    refine after_I (wc := [(M, ob 7 [.ref nw, .ref dr, .ref pa, .int ypa, .ref im, .ref ke, .ref fl, .ref fq, .int (nI sz), .ref te, .int yty, .int yat, .int yst, .int yso, .int yva, .ref ni, .ref re, .int yab, .int ybl, .int yis, .int yra, .ref ma, .ref be]), (nw, aI g 41 gn)]) (y := yX7_isWhole) C S (va_runV (As := [.int (nI j)]) (rest := []) C.1 (kX7_isWhole l g M nw dr pa im ke fl fq te ni re ma be ypa (nI sz) yty yat yst yso yva yab ybl yis yra gn n ww j (by first | assumption | omega) (by first | assumption | omega) (by first | assumption | omega) (by first | assumption | omega) H.size) (cwV 1 hts gX7_isSo_X7_isWhole rfl rfl rfl (by decide +kernel) ⟨Nat.le_of_ble_eq_true rfl, Nat.le_of_ble_eq_true rfl⟩) (preV_at C S 0 rfl rfl [0, 1] rfl (by decide)) rfl rfl hl.1 rfl (lv_room (Nat.le_of_ble_eq_true rfl)) dX7_isSo_6 ⟨Nat.le_of_ble_eq_true rfl, Nat.le_of_ble_eq_true rfl⟩) [0, 1] [2, 3, 4, 5] rfl (wr := [(ni, aI g 8 nf), (re, aI g 8 ref), (fl, aI g 6 lf), (fq, aI g 6 bf)]) rfl (by decide) (by decide) (fun r0 w0 H locs hq S => ?_)
    obtain ⟨rfl, rfl⟩ := hq
    have S : ST g A ss H locs [(M, ob 7 [.ref nw, .ref dr, .ref pa, .int ypa, .ref im, .ref ke, .ref fl, .ref fq, .int (nI sz), .ref te, .int yty, .int yat, .int yst, .int yso, .int yva, .ref ni, .ref re, .int yab, .int ybl, .int yis, .int yra, .ref ma, .ref be]), (nw, aI g 41 gn), (ni, aI g 8 nf), (re, aI g 8 ref), (fl, aI g 6 lf), (fq, aI g 6 bf)] := ST.sub S [4, 5, 0, 1, 2, 3] (by decide) rfl
    refine br_eqB (tgt := 16) hx hb dX7_isSo_9 (by decide) (fun c_2 => ?_) (fun c_2 => ?_)
    · -- 9 T
      refine lv_iconst (v := 0) hx hb dX7_isSo_16 (by decide) ?_
      refine lv_istore_n (lv' := [(2, .int 0), (0, .ref M), (1, .int (nI j))]) hx hb dX7_isSo_17 rfl hl (by decide) rfl (fun ls hl => ?_)
      refine lv_iconst (v := 0) hx hb dX7_isSo_18 (by decide) ?_
      refine lv_istore_n (lv' := [(3, .int 0), (2, .int 0), (0, .ref M), (1, .int (nI j))]) hx hb dX7_isSo_19 rfl hl (by decide) rfl (fun ls hl => ?_)
      have loop20 : ∀ (N0 : Nat) (i : Nat) (mb : Bool) (u1 : Int32) (u2 : Int32) (u3 : Int32) (u4 : Int32) (n1 : Nat → Int32) (r1 : Nat → Int32), sz - i < N0 → (i ≤ sz) → (mb = true → ∀ j9, j9 < i → cutS nu n ww (j + 1) (lo j9) = bf j9) → (mb = false → soB nu n ww sz lo bf (j + 1) = false) → (mb = true → ww.testBit j = true) → ∀ (H : Heap) (locs : List Loc) (ls : Array Slot), ST g A ss H locs [(M, ob 7 [.ref nw, .ref dr, .ref pa, .int ypa, .ref im, .ref ke, .ref fl, .ref fq, .int (nI sz), .ref te, .int yty, .int yat, .int yst, .int yso, .int yva, .ref ni, .ref re, .int u1, .int u2, .int u3, .int u4, .ref ma, .ref be]), (nw, aI g 41 gn), (ni, aI g 8 n1), (re, aI g 8 r1), (fl, aI g 6 lf), (fq, aI g 6 bf)] → lv_has ls 4 [(3, .int (nI i)), (2, .int (bI mb)), (0, .ref M), (1, .int (nI j))] → W pp l ee { frames := 4, cells := 0, slots := 0, locals := 96 } ss mm ([.ref M, .int (nI j)] : List Value).toArray bel mth cd H locs 0 0 (QI bel ([.ref M, .int (nI j)] : List Value).toArray ss g A (fun (r : Int32) (w' : va_W) => r = (bI (soB nu n ww sz lo bf (j + 1))) ∧ ∃ (ab' : Int32), ∃ (bl' : Int32), ∃ (is' : Int32), ∃ (ra' : Int32), ∃ (nf' : Nat → Int32), ∃ (ref' : Nat → Int32), w' = [(M, ob 7 [.ref nw, .ref dr, .ref pa, .int ypa, .ref im, .ref ke, .ref fl, .ref fq, .int (nI sz), .ref te, .int yty, .int yat, .int yst, .int yso, .int yva, .ref ni, .ref re, .int ab', .int bl', .int is', .int ra', .ref ma, .ref be]), (nw, aI g 41 gn), (ni, aI g 8 nf'), (re, aI g 8 ref'), (fl, aI g 6 lf), (fq, aI g 6 bf)])) (F0 mm 20 ls []) := by
        intro N0
        induction N0 with
        | zero => intro i mb u1 u2 u3 u4 n1 r1 hN; exact absurd hN (Nat.not_lt_zero _)
        | succ N0 ih20 =>
          intro i mb u1 u2 u3 u4 n1 r1 hN hi hmt hmf hmw H locs ls S hl
          refine lv_iload_n hx hb dX7_isSo_20 rfl (lv_at hl 0 rfl) ?_
          refine lv_aload_n hx hb dX7_isSo_21 rfl (lv_at hl 2 rfl) ?_
          refine top_get C S inX7_isSoy_X7 rfl 0 rfl 8 (by decide) (by decide +kernel) rfl rfl dX7_isSo_22 ?_
          refine bn_ige (tgt := 64) (a := i) (b := sz) hx hb rfl rfl (by omega) (by omega) dX7_isSo_25 (by decide) (fun c_3 => ?_) (fun c_3 => ?_)
          · -- 25 T
            refine lv_iload_n hx hb dX7_isSo_64 rfl (lv_at hl 1 rfl) ?_
            exact ret_Z (soB nu n ww sz lo bf (j + 1)) C S hr dX7_isSo_65 (congrArg bI (so_res (fun q9 => by rw [so_S, if_pos (hmw q9)]; exact ag_t (fun j9 h9 => hmt q9 j9 (by omega))) hmf)) ⟨(congrArg bI (so_res (fun q9 => by rw [so_S, if_pos (hmw q9)]; exact ag_t (fun j9 h9 => hmt q9 j9 (by omega))) hmf)), u1, u2, u3, u4, n1, r1, (rfl)⟩
          · -- 25 F
            refine lv_iload_n hx hb dX7_isSo_28 rfl (lv_at hl 1 rfl) ?_
            refine br_eqB (tgt := 64) hx hb dX7_isSo_29 (by decide) (fun c_4 => ?_) (fun c_4 => ?_)
            · -- 29 T
              refine lv_iload_n hx hb dX7_isSo_64 rfl (lv_at hl 1 rfl) ?_
              exact ret_Z (soB nu n ww sz lo bf (j + 1)) C S hr dX7_isSo_65 (congrArg bI (so_res (fun q9 => by rw [c_4] at q9; cases q9) hmf)) ⟨(congrArg bI (so_res (fun q9 => by rw [c_4] at q9; cases q9) hmf)), u1, u2, u3, u4, n1, r1, (rfl)⟩
            · -- 29 F
              have hmb9 := c_4
              refine lv_aload_n hx hb dX7_isSo_32 rfl (lv_at hl 2 rfl) ?_
              refine lv_iload_n hx hb dX7_isSo_33 rfl (lv_at hl 3 rfl) ?_
              refine lv_aload_n hx hb dX7_isSo_34 rfl (lv_at hl 2 rfl) ?_
              refine top_get C S inX7_isSoy_X7 rfl 0 rfl 6 (by decide) (by decide +kernel) rfl rfl dX7_isSo_35 ?_
              refine lv_iload_n hx hb dX7_isSo_38 rfl (lv_at hl 0 rfl) ?_
              refine top_ild C S 4 rfl (j := i) rfl (by omega) (by decide) dX7_isSo_39 ?_
              refine top_eq (y := nI (lo i)) (hlo _ (by omega)) ?_
              refine after_I (wc := [(M, ob 7 [.ref nw, .ref dr, .ref pa, .int ypa, .ref im, .ref ke, .ref fl, .ref fq, .int (nI sz), .ref te, .int yty, .int yat, .int yst, .int yso, .int yva, .ref ni, .ref re, .int u1, .int u2, .int u3, .int u4, .ref ma, .ref be]), (nw, aI g 41 gn), (ni, aI g 8 n1), (re, aI g 8 r1)]) (y := yX7_bendWithout) C S (va_runV (As := [.int (nI j), .int (nI (lo i))]) (rest := []) C.1 (kX7_bendWithouty l g M nw dr pa im ke fl fq te ni re ma be ypa (nI sz) yty yat yst yso yva u1 u2 u3 u4 gn n ww nu n1 r1 j (lo i) (by first | assumption | omega) (by first | assumption | omega) (by first | assumption | omega) (by first | assumption | omega) (by first | assumption | omega) (by first | assumption | omega) (by first | assumption | omega) (by first | assumption | omega) (hlb _ (by omega)) H.size) (cwV 2 hts gX7_isSo_X7_bendWithout rfl rfl rfl (by decide +kernel) ⟨Nat.le_of_ble_eq_true rfl, Nat.le_of_ble_eq_true rfl⟩) (preV_at C S 0 rfl rfl [0, 1, 2, 3] rfl (by decide)) rfl rfl hl.1 rfl (lv_room (Nat.le_of_ble_eq_true rfl)) dX7_isSo_40 ⟨Nat.le_of_ble_eq_true rfl, Nat.le_of_ble_eq_true rfl⟩) [0, 1, 2, 3] [4, 5] rfl (wr := [(fl, aI g 6 lf), (fq, aI g 6 bf)]) rfl (by decide) (by decide) (fun r0 w0 H locs hq S => ?_)
              obtain ⟨rfl, ab'_5, bl'_6, is'_7, ra'_8, nf'_9, ref'_10, rfl⟩ := hq
              have S : ST g A ss H locs [(M, ob 7 [.ref nw, .ref dr, .ref pa, .int ypa, .ref im, .ref ke, .ref fl, .ref fq, .int (nI sz), .ref te, .int yty, .int yat, .int yst, .int yso, .int yva, .ref ni, .ref re, .int ab'_5, .int bl'_6, .int is'_7, .int ra'_8, .ref ma, .ref be]), (nw, aI g 41 gn), (ni, aI g 8 nf'_9), (re, aI g 8 ref'_10), (fl, aI g 6 lf), (fq, aI g 6 bf)] := ST.sub S [2, 3, 4, 5, 0, 1] (by decide) rfl
              refine lv_aload_n hx hb dX7_isSo_43 rfl (lv_at hl 2 rfl) ?_
              refine top_get C S inX7_isSoy_X7 rfl 0 rfl 7 (by decide) (by decide +kernel) rfl rfl dX7_isSo_44 ?_
              refine lv_iload_n hx hb dX7_isSo_47 rfl (lv_at hl 0 rfl) ?_
              refine top_ild C S 5 rfl (j := i) rfl (by omega) (by decide) dX7_isSo_48 ?_
              refine lv_icmp_ne (tgt := 56) hx hb dX7_isSo_49 (by decide) (fun c_11 => ?_) (fun c_11 => ?_)
              · -- 49 T
                refine lv_iconst (v := 0) hx hb dX7_isSo_56 (by decide) ?_
                refine lv_istore_n (lv' := [(2, .int 0), (3, .int (nI i)), (0, .ref M), (1, .int (nI j))]) hx hb dX7_isSo_57 rfl hl (by decide) rfl (fun ls hl => ?_)
                refine lv_iinc (v := nI (i + 1)) (lv' := [(3, .int (nI (i + 1))), (2, .int 0), (0, .ref M), (1, .int (nI j))]) hx hb dX7_isSo_58 hl (k := 1) rfl (nI_add _ _) (by decide) rfl (fun ls hl => ?_)
                refine lv_goto (tgt := 20) hx hb dX7_isSo_61 (by decide) ?_
                exact ih20 (i + 1) false ab'_5 bl'_6 is'_7 ra'_8 nf'_9 ref'_10 (by omega) (by first | assumption | omega) (fun q9 => by cases q9) (fun _ => by rw [so_S, if_pos (hmw hmb9)]; exact ag_f (i := i) (by omega) c_11) (fun _ => hmw hmb9) H locs ls (ST.eq S (rfl)) (lv_sub hl [0, 1, 2, 3] (rfl))
              · -- 49 F
                refine lv_iconst (v := 1) hx hb dX7_isSo_52 (by decide) ?_
                refine lv_goto (tgt := 57) hx hb dX7_isSo_53 (by decide) ?_
                refine lv_istore_n (lv' := [(2, .int 1), (3, .int (nI i)), (0, .ref M), (1, .int (nI j))]) hx hb dX7_isSo_57 rfl hl (by decide) rfl (fun ls hl => ?_)
                refine lv_iinc (v := nI (i + 1)) (lv' := [(3, .int (nI (i + 1))), (2, .int 1), (0, .ref M), (1, .int (nI j))]) hx hb dX7_isSo_58 hl (k := 1) rfl (nI_add _ _) (by decide) rfl (fun ls hl => ?_)
                refine lv_goto (tgt := 20) hx hb dX7_isSo_61 (by decide) ?_
                exact ih20 (i + 1) true ab'_5 bl'_6 is'_7 ra'_8 nf'_9 ref'_10 (by omega) (by first | assumption | omega) (fun _ j9 h9 => by rcases (show j9 < i ∨ j9 = i by omega) with z9 | rfl; exact hmt hmb9 j9 z9; exact c_11) (fun q9 => by cases q9) (fun _ => hmw hmb9) H locs ls (ST.eq S (rfl)) (lv_sub hl [0, 1, 2, 3] (rfl))
      exact loop20 _ 0 false yab ybl yis yra nf ref (Nat.lt_succ_self _) (by first | assumption | omega) (fun _ j9 h9 => absurd h9 (Nat.not_lt_zero _)) (fun _ => by rw [so_S, if_neg (by rw [c_2]; exact fun q9 => by cases q9)]) (fun q9 => by cases q9) H locs ls (ST.eq S (rfl)) (lv_sub hl [0, 1, 2, 3] (rfl))
    · -- 9 F
      refine lv_iconst (v := 1) hx hb dX7_isSo_12 (by decide) ?_
      refine lv_goto (tgt := 17) hx hb dX7_isSo_13 (by decide) ?_
      refine lv_istore_n (lv' := [(2, .int 1), (0, .ref M), (1, .int (nI j))]) hx hb dX7_isSo_17 rfl hl (by decide) rfl (fun ls hl => ?_)
      refine lv_iconst (v := 0) hx hb dX7_isSo_18 (by decide) ?_
      refine lv_istore_n (lv' := [(3, .int 0), (2, .int 1), (0, .ref M), (1, .int (nI j))]) hx hb dX7_isSo_19 rfl hl (by decide) rfl (fun ls hl => ?_)
      have loop20 : ∀ (N0 : Nat) (i : Nat) (mb : Bool) (u1 : Int32) (u2 : Int32) (u3 : Int32) (u4 : Int32) (n1 : Nat → Int32) (r1 : Nat → Int32), sz - i < N0 → (i ≤ sz) → (mb = true → ∀ j9, j9 < i → cutS nu n ww (j + 1) (lo j9) = bf j9) → (mb = false → soB nu n ww sz lo bf (j + 1) = false) → (mb = true → ww.testBit j = true) → ∀ (H : Heap) (locs : List Loc) (ls : Array Slot), ST g A ss H locs [(M, ob 7 [.ref nw, .ref dr, .ref pa, .int ypa, .ref im, .ref ke, .ref fl, .ref fq, .int (nI sz), .ref te, .int yty, .int yat, .int yst, .int yso, .int yva, .ref ni, .ref re, .int u1, .int u2, .int u3, .int u4, .ref ma, .ref be]), (nw, aI g 41 gn), (ni, aI g 8 n1), (re, aI g 8 r1), (fl, aI g 6 lf), (fq, aI g 6 bf)] → lv_has ls 4 [(3, .int (nI i)), (2, .int (bI mb)), (0, .ref M), (1, .int (nI j))] → W pp l ee { frames := 4, cells := 0, slots := 0, locals := 96 } ss mm ([.ref M, .int (nI j)] : List Value).toArray bel mth cd H locs 0 0 (QI bel ([.ref M, .int (nI j)] : List Value).toArray ss g A (fun (r : Int32) (w' : va_W) => r = (bI (soB nu n ww sz lo bf (j + 1))) ∧ ∃ (ab' : Int32), ∃ (bl' : Int32), ∃ (is' : Int32), ∃ (ra' : Int32), ∃ (nf' : Nat → Int32), ∃ (ref' : Nat → Int32), w' = [(M, ob 7 [.ref nw, .ref dr, .ref pa, .int ypa, .ref im, .ref ke, .ref fl, .ref fq, .int (nI sz), .ref te, .int yty, .int yat, .int yst, .int yso, .int yva, .ref ni, .ref re, .int ab', .int bl', .int is', .int ra', .ref ma, .ref be]), (nw, aI g 41 gn), (ni, aI g 8 nf'), (re, aI g 8 ref'), (fl, aI g 6 lf), (fq, aI g 6 bf)])) (F0 mm 20 ls []) := by
        intro N0
        induction N0 with
        | zero => intro i mb u1 u2 u3 u4 n1 r1 hN; exact absurd hN (Nat.not_lt_zero _)
        | succ N0 ih20 =>
          intro i mb u1 u2 u3 u4 n1 r1 hN hi hmt hmf hmw H locs ls S hl
          refine lv_iload_n hx hb dX7_isSo_20 rfl (lv_at hl 0 rfl) ?_
          refine lv_aload_n hx hb dX7_isSo_21 rfl (lv_at hl 2 rfl) ?_
          refine top_get C S inX7_isSoy_X7 rfl 0 rfl 8 (by decide) (by decide +kernel) rfl rfl dX7_isSo_22 ?_
          refine bn_ige (tgt := 64) (a := i) (b := sz) hx hb rfl rfl (by omega) (by omega) dX7_isSo_25 (by decide) (fun c_12 => ?_) (fun c_12 => ?_)
          · -- 25 T
            refine lv_iload_n hx hb dX7_isSo_64 rfl (lv_at hl 1 rfl) ?_
            exact ret_Z (soB nu n ww sz lo bf (j + 1)) C S hr dX7_isSo_65 (congrArg bI (so_res (fun q9 => by rw [so_S, if_pos (hmw q9)]; exact ag_t (fun j9 h9 => hmt q9 j9 (by omega))) hmf)) ⟨(congrArg bI (so_res (fun q9 => by rw [so_S, if_pos (hmw q9)]; exact ag_t (fun j9 h9 => hmt q9 j9 (by omega))) hmf)), u1, u2, u3, u4, n1, r1, (rfl)⟩
          · -- 25 F
            refine lv_iload_n hx hb dX7_isSo_28 rfl (lv_at hl 1 rfl) ?_
            refine br_eqB (tgt := 64) hx hb dX7_isSo_29 (by decide) (fun c_13 => ?_) (fun c_13 => ?_)
            · -- 29 T
              refine lv_iload_n hx hb dX7_isSo_64 rfl (lv_at hl 1 rfl) ?_
              exact ret_Z (soB nu n ww sz lo bf (j + 1)) C S hr dX7_isSo_65 (congrArg bI (so_res (fun q9 => by rw [c_13] at q9; cases q9) hmf)) ⟨(congrArg bI (so_res (fun q9 => by rw [c_13] at q9; cases q9) hmf)), u1, u2, u3, u4, n1, r1, (rfl)⟩
            · -- 29 F
              have hmb9 := c_13
              refine lv_aload_n hx hb dX7_isSo_32 rfl (lv_at hl 2 rfl) ?_
              refine lv_iload_n hx hb dX7_isSo_33 rfl (lv_at hl 3 rfl) ?_
              refine lv_aload_n hx hb dX7_isSo_34 rfl (lv_at hl 2 rfl) ?_
              refine top_get C S inX7_isSoy_X7 rfl 0 rfl 6 (by decide) (by decide +kernel) rfl rfl dX7_isSo_35 ?_
              refine lv_iload_n hx hb dX7_isSo_38 rfl (lv_at hl 0 rfl) ?_
              refine top_ild C S 4 rfl (j := i) rfl (by omega) (by decide) dX7_isSo_39 ?_
              refine top_eq (y := nI (lo i)) (hlo _ (by omega)) ?_
              refine after_I (wc := [(M, ob 7 [.ref nw, .ref dr, .ref pa, .int ypa, .ref im, .ref ke, .ref fl, .ref fq, .int (nI sz), .ref te, .int yty, .int yat, .int yst, .int yso, .int yva, .ref ni, .ref re, .int u1, .int u2, .int u3, .int u4, .ref ma, .ref be]), (nw, aI g 41 gn), (ni, aI g 8 n1), (re, aI g 8 r1)]) (y := yX7_bendWithout) C S (va_runV (As := [.int (nI j), .int (nI (lo i))]) (rest := []) C.1 (kX7_bendWithouty l g M nw dr pa im ke fl fq te ni re ma be ypa (nI sz) yty yat yst yso yva u1 u2 u3 u4 gn n ww nu n1 r1 j (lo i) (by first | assumption | omega) (by first | assumption | omega) (by first | assumption | omega) (by first | assumption | omega) (by first | assumption | omega) (by first | assumption | omega) (by first | assumption | omega) (by first | assumption | omega) (hlb _ (by omega)) H.size) (cwV 2 hts gX7_isSo_X7_bendWithout rfl rfl rfl (by decide +kernel) ⟨Nat.le_of_ble_eq_true rfl, Nat.le_of_ble_eq_true rfl⟩) (preV_at C S 0 rfl rfl [0, 1, 2, 3] rfl (by decide)) rfl rfl hl.1 rfl (lv_room (Nat.le_of_ble_eq_true rfl)) dX7_isSo_40 ⟨Nat.le_of_ble_eq_true rfl, Nat.le_of_ble_eq_true rfl⟩) [0, 1, 2, 3] [4, 5] rfl (wr := [(fl, aI g 6 lf), (fq, aI g 6 bf)]) rfl (by decide) (by decide) (fun r0 w0 H locs hq S => ?_)
              obtain ⟨rfl, ab'_14, bl'_15, is'_16, ra'_17, nf'_18, ref'_19, rfl⟩ := hq
              have S : ST g A ss H locs [(M, ob 7 [.ref nw, .ref dr, .ref pa, .int ypa, .ref im, .ref ke, .ref fl, .ref fq, .int (nI sz), .ref te, .int yty, .int yat, .int yst, .int yso, .int yva, .ref ni, .ref re, .int ab'_14, .int bl'_15, .int is'_16, .int ra'_17, .ref ma, .ref be]), (nw, aI g 41 gn), (ni, aI g 8 nf'_18), (re, aI g 8 ref'_19), (fl, aI g 6 lf), (fq, aI g 6 bf)] := ST.sub S [2, 3, 4, 5, 0, 1] (by decide) rfl
              refine lv_aload_n hx hb dX7_isSo_43 rfl (lv_at hl 2 rfl) ?_
              refine top_get C S inX7_isSoy_X7 rfl 0 rfl 7 (by decide) (by decide +kernel) rfl rfl dX7_isSo_44 ?_
              refine lv_iload_n hx hb dX7_isSo_47 rfl (lv_at hl 0 rfl) ?_
              refine top_ild C S 5 rfl (j := i) rfl (by omega) (by decide) dX7_isSo_48 ?_
              refine lv_icmp_ne (tgt := 56) hx hb dX7_isSo_49 (by decide) (fun c_20 => ?_) (fun c_20 => ?_)
              · -- 49 T
                refine lv_iconst (v := 0) hx hb dX7_isSo_56 (by decide) ?_
                refine lv_istore_n (lv' := [(2, .int 0), (3, .int (nI i)), (0, .ref M), (1, .int (nI j))]) hx hb dX7_isSo_57 rfl hl (by decide) rfl (fun ls hl => ?_)
                refine lv_iinc (v := nI (i + 1)) (lv' := [(3, .int (nI (i + 1))), (2, .int 0), (0, .ref M), (1, .int (nI j))]) hx hb dX7_isSo_58 hl (k := 1) rfl (nI_add _ _) (by decide) rfl (fun ls hl => ?_)
                refine lv_goto (tgt := 20) hx hb dX7_isSo_61 (by decide) ?_
                exact ih20 (i + 1) false ab'_14 bl'_15 is'_16 ra'_17 nf'_18 ref'_19 (by omega) (by first | assumption | omega) (fun q9 => by cases q9) (fun _ => by rw [so_S, if_pos (hmw hmb9)]; exact ag_f (i := i) (by omega) c_20) (fun _ => hmw hmb9) H locs ls (ST.eq S (rfl)) (lv_sub hl [0, 1, 2, 3] (rfl))
              · -- 49 F
                refine lv_iconst (v := 1) hx hb dX7_isSo_52 (by decide) ?_
                refine lv_goto (tgt := 57) hx hb dX7_isSo_53 (by decide) ?_
                refine lv_istore_n (lv' := [(2, .int 1), (3, .int (nI i)), (0, .ref M), (1, .int (nI j))]) hx hb dX7_isSo_57 rfl hl (by decide) rfl (fun ls hl => ?_)
                refine lv_iinc (v := nI (i + 1)) (lv' := [(3, .int (nI (i + 1))), (2, .int 1), (0, .ref M), (1, .int (nI j))]) hx hb dX7_isSo_58 hl (k := 1) rfl (nI_add _ _) (by decide) rfl (fun ls hl => ?_)
                refine lv_goto (tgt := 20) hx hb dX7_isSo_61 (by decide) ?_
                exact ih20 (i + 1) true ab'_14 bl'_15 is'_16 ra'_17 nf'_18 ref'_19 (by omega) (by first | assumption | omega) (fun _ j9 h9 => by rcases (show j9 < i ∨ j9 = i by omega) with z9 | rfl; exact hmt hmb9 j9 z9; exact c_20) (fun q9 => by cases q9) (fun _ => hmw hmb9) H locs ls (ST.eq S (rfl)) (lv_sub hl [0, 1, 2, 3] (rfl))
      exact loop20 _ 0 true yab ybl yis yra nf ref (Nat.lt_succ_self _) (by first | assumption | omega) (fun _ j9 h9 => absurd h9 (Nat.not_lt_zero _)) (fun q9 => by cases q9) (fun _ => c_2) H locs ls (ST.eq S (rfl)) (lv_sub hl [0, 1, 2, 3] (rfl))

theorem inX7_many_X7 : ∀ w ∈ wsX70, w ∈ wsX7_many := by decide +kernel
set_option maxRecDepth 100000 in
set_option maxHeartbeats 4000000 in
theorem kX7_many (l : Launch) (g : GG) (M : Nat) (nw : Nat) (dr : Nat) (pa : Nat) (im : Nat) (ke : Nat) (fl : Nat) (fq : Nat) (te : Nat) (ni : Nat) (re : Nat) (ma : Nat) (be : Nat) (ypa : Int32) (yty : Int32) (yat : Int32) (yst : Int32) (yso : Int32) (yva : Int32) (yab : Int32) (ybl : Int32) (yis : Int32) (yra : Int32) (gn : Nat → Int32) (n : Nat) (ww : Nat) (nu : Nat → Nat → Nat) (nf : Nat → Int32) (ref : Nat → Int32) (lf : Nat → Int32) (bf : Nat → Int32) (sz : Nat) (lo : Nat → Nat) (hn1 : 1 ≤ n) (hn : n ≤ 8) (hww : ww < 2 ^ n) (hg0 : gn 0 = nI n) (hgn : ∀ a i, a < 4 → i < n → gn (5 * i + (a + 1)) = nI (nu a i)) (hgw : ∀ i, i < n → gn (5 * i + 5) = nI (ww.testBit i).toNat) (hB : HB nu n) (hs6 : sz ≤ 6) (hlo : ∀ i, i < sz → lf i = nI (lo i)) (hlb : ∀ i, i < sz → lo i ≤ 999) : KI l g yX7_many wsX7_many 5 119 [.ref M] [(M, ob 7 [.ref nw, .ref dr, .ref pa, .int ypa, .ref im, .ref ke, .ref fl, .ref fq, .int (nI sz), .ref te, .int yty, .int yat, .int yst, .int yso, .int yva, .ref ni, .ref re, .int yab, .int ybl, .int yis, .int yra, .ref ma, .ref be]), (nw, aI g 41 gn), (ni, aI g 8 nf), (re, aI g 8 ref), (fl, aI g 6 lf), (fq, aI g 6 bf)] (fun (r : Int32) (w' : va_W) => r = (nI (cnt (soB nu n ww sz lo bf) (n + 1))) ∧ ∃ (ab' : Int32), ∃ (bl' : Int32), ∃ (is' : Int32), ∃ (ra' : Int32), ∃ (nf' : Nat → Int32), ∃ (ref' : Nat → Int32), w' = [(M, ob 7 [.ref nw, .ref dr, .ref pa, .int ypa, .ref im, .ref ke, .ref fl, .ref fq, .int (nI sz), .ref te, .int yty, .int yat, .int yst, .int yso, .int yva, .ref ni, .ref re, .int ab', .int bl', .int is', .int ra', .ref ma, .ref be]), (nw, aI g 41 gn), (ni, aI g 8 nf'), (re, aI g 8 ref'), (fl, aI g 6 lf), (fq, aI g 6 bf)]) := by
  refine kI_of (cc := cX7_many) (maxL := 3) (by decide) rfl (Nat.le_of_ble_eq_true rfl) ?_
  intro pp ee ss mm bel mth cd A ls C S hr hl
  obtain ⟨hx, hb, hml, hown, hts⟩ := id C.1
  have hl : lv_has ls 3 [(0, .ref M)] := hl
  obtain ⟨H, hH⟩ : ∃ H, H = ss.heap := ⟨_, rfl⟩
  obtain ⟨locs, hL0⟩ : ∃ L : List Loc, L = [] := ⟨_, rfl⟩
  rw [← hH, ← hL0] at S ⊢
  refine lv_iconst (v := 0) hx hb dX7_many_0 (by decide) ?_
  refine lv_istore_n (lv' := [(1, .int 0), (0, .ref M)]) hx hb dX7_many_1 rfl hl (by decide) rfl (fun ls hl => ?_)
  refine lv_iconst (v := (-1)) hx hb dX7_many_2 (by decide) ?_
  refine lv_istore_n (lv' := [(2, .int (-1)), (1, .int 0), (0, .ref M)]) hx hb dX7_many_3 rfl hl (by decide) rfl (fun ls hl => ?_)
  have loop4 : ∀ (N0 : Nat) (t : Nat) (x : Nat) (u1 : Int32) (u2 : Int32) (u3 : Int32) (u4 : Int32) (n1 : Nat → Int32) (r1 : Nat → Int32), n + 1 - t < N0 → (t ≤ n + 1) → (x = cnt (soB nu n ww sz lo bf) t) → ∀ (H : Heap) (locs : List Loc) (ls : Array Slot), ST g A ss H locs [(M, ob 7 [.ref nw, .ref dr, .ref pa, .int ypa, .ref im, .ref ke, .ref fl, .ref fq, .int (nI sz), .ref te, .int yty, .int yat, .int yst, .int yso, .int yva, .ref ni, .ref re, .int u1, .int u2, .int u3, .int u4, .ref ma, .ref be]), (nw, aI g 41 gn), (ni, aI g 8 n1), (re, aI g 8 r1), (fl, aI g 6 lf), (fq, aI g 6 bf)] → lv_has ls 3 [(2, .int ((nI t) - 1)), (1, .int (nI x)), (0, .ref M)] → W pp l ee { frames := 5, cells := 0, slots := 0, locals := 119 } ss mm ([.ref M] : List Value).toArray bel mth cd H locs 0 0 (QI bel ([.ref M] : List Value).toArray ss g A (fun (r : Int32) (w' : va_W) => r = (nI (cnt (soB nu n ww sz lo bf) (n + 1))) ∧ ∃ (ab' : Int32), ∃ (bl' : Int32), ∃ (is' : Int32), ∃ (ra' : Int32), ∃ (nf' : Nat → Int32), ∃ (ref' : Nat → Int32), w' = [(M, ob 7 [.ref nw, .ref dr, .ref pa, .int ypa, .ref im, .ref ke, .ref fl, .ref fq, .int (nI sz), .ref te, .int yty, .int yat, .int yst, .int yso, .int yva, .ref ni, .ref re, .int ab', .int bl', .int is', .int ra', .ref ma, .ref be]), (nw, aI g 41 gn), (ni, aI g 8 nf'), (re, aI g 8 ref'), (fl, aI g 6 lf), (fq, aI g 6 bf)])) (F0 mm 4 ls []) := by
    intro N0
    induction N0 with
    | zero => intro t x u1 u2 u3 u4 n1 r1 hN; exact absurd hN (Nat.not_lt_zero _)
    | succ N0 ih4 =>
      intro t x u1 u2 u3 u4 n1 r1 hN ht hx1 H locs ls S hl
      refine lv_iload_n hx hb dX7_many_4 rfl (lv_at hl 0 rfl) ?_
      refine lv_aload_n hx hb dX7_many_5 rfl (lv_at hl 2 rfl) ?_
      refine top_get C S inX7_many_X7 rfl 0 rfl 0 (by decide) (by decide +kernel) rfl rfl dX7_many_6 ?_
      refine lv_iconst (v := 0) hx hb dX7_many_9 (by decide) ?_
      refine top_ild C S 1 rfl (j := 0) rfl (by omega) (by decide) dX7_many_10 ?_
      refine top_eq (y := nI n) hg0 ?_
      refine lv_icmp_ge (tgt := 36) hx hb dX7_many_11 (by decide) (fun c_1 => ?_) (fun c_1 => ?_)
      · -- 11 T
        have hn9 := (sub_lt_N (a := t) (b := 1) (p := n) (by omega) (by omega) (by omega)).mp c_1
        refine lv_iload_n hx hb dX7_many_36 rfl (lv_at hl 1 rfl) ?_
        exact ret_I C S hr dX7_many_37 ⟨(by rw [hx1, show t = n + 1 by omega]), u1, u2, u3, u4, n1, r1, (rfl)⟩
      · -- 11 F
        have hn9 := mt (sub_lt_N (a := t) (b := 1) (p := n) (by omega) (by omega) (by omega)).mpr c_1
        rcases Nat.eq_zero_or_pos t with ht0 | ht0
        ·
          rw [show nI t - 1 = (-1) by rw [ht0]; decide] at hl
          have hl : lv_has ls 3 [(2, .int (-1)), (1, .int (nI x)), (0, .ref M)] := hl
          refine lv_iload_n hx hb dX7_many_14 rfl (lv_at hl 1 rfl) ?_
          refine lv_aload_n hx hb dX7_many_15 rfl (lv_at hl 2 rfl) ?_
          refine lv_iload_n hx hb dX7_many_16 rfl (lv_at hl 0 rfl) ?_
          refine after_I (wc := [(M, ob 7 [.ref nw, .ref dr, .ref pa, .int ypa, .ref im, .ref ke, .ref fl, .ref fq, .int (nI sz), .ref te, .int yty, .int yat, .int yst, .int yso, .int yva, .ref ni, .ref re, .int u1, .int u2, .int u3, .int u4, .ref ma, .ref be]), (nw, aI g 41 gn), (ni, aI g 8 n1), (re, aI g 8 r1), (fl, aI g 6 lf), (fq, aI g 6 bf)]) (y := yX7_isSo) C S (va_runV (As := [.int (-1)]) (rest := [.int (nI x)]) C.1 (kX7_isSon l g M nw dr pa im ke fl fq te ni re ma be ypa yty yat yst yso yva u1 u2 u3 u4 gn n ww nu n1 r1 lf bf sz lo (by first | assumption | omega) (by first | assumption | omega) (by first | assumption | omega) (by first | assumption | omega) (by first | assumption | omega) (by first | assumption | omega) (by first | assumption | omega) (by first | assumption | omega) (by first | assumption | omega) (by first | assumption | omega) H.size) (cwV 1 hts gX7_many_X7_isSo rfl rfl rfl (by decide +kernel) ⟨Nat.le_of_ble_eq_true rfl, Nat.le_of_ble_eq_true rfl⟩) (preV_at C S 0 rfl rfl [0, 1, 2, 3, 4, 5] rfl (by decide)) rfl rfl hl.1 rfl (lv_room (Nat.le_of_ble_eq_true rfl)) dX7_many_17 ⟨Nat.le_of_ble_eq_true rfl, Nat.le_of_ble_eq_true rfl⟩) [0, 1, 2, 3, 4, 5] [] rfl (wr := []) rfl (by decide) (by decide) (fun r0 w0 H locs hq S => ?_)
          obtain ⟨rfl, ab'_2, bl'_3, is'_4, ra'_5, nf'_6, ref'_7, rfl⟩ := hq
          have S : ST g A ss H locs [(M, ob 7 [.ref nw, .ref dr, .ref pa, .int ypa, .ref im, .ref ke, .ref fl, .ref fq, .int (nI sz), .ref te, .int yty, .int yat, .int yst, .int yso, .int yva, .ref ni, .ref re, .int ab'_2, .int bl'_3, .int is'_4, .int ra'_5, .ref ma, .ref be]), (nw, aI g 41 gn), (ni, aI g 8 nf'_6), (re, aI g 8 ref'_7), (fl, aI g 6 lf), (fq, aI g 6 bf)] := S
          refine top_eq (y := bI (soB nu n ww sz lo bf t)) (by rw [ht0]) ?_
          refine br_eqB (tgt := 27) hx hb dX7_many_20 (by decide) (fun c_8 => ?_) (fun c_8 => ?_)
          · -- 20 T
            refine lv_iconst (v := 0) hx hb dX7_many_27 (by decide) ?_
            refine lv_iadd hx hb dX7_many_28 ?_
            refine top_eq (y := nI (x + 0)) (nI_add _ _) ?_
            refine lv_istore_n (lv' := [(1, .int (nI (x + 0))), (2, .int (-1)), (0, .ref M)]) hx hb dX7_many_29 rfl hl (by decide) rfl (fun ls hl => ?_)
            refine lv_iinc (v := (nI (t + 1)) - 1) (lv' := [(2, .int ((nI (t + 1)) - 1)), (1, .int (nI (x + 0))), (0, .ref M)]) hx hb dX7_many_30 hl (k := 1) rfl (by rw [ht0]; decide) (by decide) rfl (fun ls hl => ?_)
            refine lv_goto (tgt := 4) hx hb dX7_many_33 (by decide) ?_
            exact ih4 (t + 1) (x + 0) ab'_2 bl'_3 is'_4 ra'_5 nf'_6 ref'_7 (by omega) (by first | assumption | omega) (by rw [cnt_s, ← hx1, c_8] <;> rfl) H locs ls (ST.eq S (rfl)) (lv_sub hl [0, 1, 2] (rfl))
          · -- 20 F
            refine lv_iconst (v := 1) hx hb dX7_many_23 (by decide) ?_
            refine lv_goto (tgt := 28) hx hb dX7_many_24 (by decide) ?_
            refine lv_iadd hx hb dX7_many_28 ?_
            refine top_eq (y := nI (x + 1)) (nI_add _ _) ?_
            refine lv_istore_n (lv' := [(1, .int (nI (x + 1))), (2, .int (-1)), (0, .ref M)]) hx hb dX7_many_29 rfl hl (by decide) rfl (fun ls hl => ?_)
            refine lv_iinc (v := (nI (t + 1)) - 1) (lv' := [(2, .int ((nI (t + 1)) - 1)), (1, .int (nI (x + 1))), (0, .ref M)]) hx hb dX7_many_30 hl (k := 1) rfl (by rw [ht0]; decide) (by decide) rfl (fun ls hl => ?_)
            refine lv_goto (tgt := 4) hx hb dX7_many_33 (by decide) ?_
            exact ih4 (t + 1) (x + 1) ab'_2 bl'_3 is'_4 ra'_5 nf'_6 ref'_7 (by omega) (by first | assumption | omega) (by rw [cnt_s, ← hx1, c_8] <;> rfl) H locs ls (ST.eq S (rfl)) (lv_sub hl [0, 1, 2] (rfl))
        ·
          rw [show nI t - 1 = nI (t - 1) from pk_sub (b := 1) (by omega)] at hl
          have hl : lv_has ls 3 [(2, .int (nI (t - 1))), (1, .int (nI x)), (0, .ref M)] := hl
          refine lv_iload_n hx hb dX7_many_14 rfl (lv_at hl 1 rfl) ?_
          refine lv_aload_n hx hb dX7_many_15 rfl (lv_at hl 2 rfl) ?_
          refine lv_iload_n hx hb dX7_many_16 rfl (lv_at hl 0 rfl) ?_
          refine after_I (wc := [(M, ob 7 [.ref nw, .ref dr, .ref pa, .int ypa, .ref im, .ref ke, .ref fl, .ref fq, .int (nI sz), .ref te, .int yty, .int yat, .int yst, .int yso, .int yva, .ref ni, .ref re, .int u1, .int u2, .int u3, .int u4, .ref ma, .ref be]), (nw, aI g 41 gn), (ni, aI g 8 n1), (re, aI g 8 r1), (fl, aI g 6 lf), (fq, aI g 6 bf)]) (y := yX7_isSo) C S (va_runV (As := [.int (nI (t - 1))]) (rest := [.int (nI x)]) C.1 (kX7_isSoy l g M nw dr pa im ke fl fq te ni re ma be ypa yty yat yst yso yva u1 u2 u3 u4 gn n ww nu n1 r1 lf bf sz lo (t - 1) (by first | assumption | omega) (by first | assumption | omega) (by first | assumption | omega) (by first | assumption | omega) (by first | assumption | omega) (by first | assumption | omega) (by first | assumption | omega) (by first | assumption | omega) (by first | assumption | omega) (by first | assumption | omega) (by first | assumption | omega) H.size) (cwV 1 hts gX7_many_X7_isSo rfl rfl rfl (by decide +kernel) ⟨Nat.le_of_ble_eq_true rfl, Nat.le_of_ble_eq_true rfl⟩) (preV_at C S 0 rfl rfl [0, 1, 2, 3, 4, 5] rfl (by decide)) rfl rfl hl.1 rfl (lv_room (Nat.le_of_ble_eq_true rfl)) dX7_many_17 ⟨Nat.le_of_ble_eq_true rfl, Nat.le_of_ble_eq_true rfl⟩) [0, 1, 2, 3, 4, 5] [] rfl (wr := []) rfl (by decide) (by decide) (fun r0 w0 H locs hq S => ?_)
          obtain ⟨rfl, ab'_9, bl'_10, is'_11, ra'_12, nf'_13, ref'_14, rfl⟩ := hq
          have S : ST g A ss H locs [(M, ob 7 [.ref nw, .ref dr, .ref pa, .int ypa, .ref im, .ref ke, .ref fl, .ref fq, .int (nI sz), .ref te, .int yty, .int yat, .int yst, .int yso, .int yva, .ref ni, .ref re, .int ab'_9, .int bl'_10, .int is'_11, .int ra'_12, .ref ma, .ref be]), (nw, aI g 41 gn), (ni, aI g 8 nf'_13), (re, aI g 8 ref'_14), (fl, aI g 6 lf), (fq, aI g 6 bf)] := S
          refine top_eq (y := bI (soB nu n ww sz lo bf t)) (by rw [show t - 1 + 1 = t by omega]) ?_
          refine br_eqB (tgt := 27) hx hb dX7_many_20 (by decide) (fun c_15 => ?_) (fun c_15 => ?_)
          · -- 20 T
            refine lv_iconst (v := 0) hx hb dX7_many_27 (by decide) ?_
            refine lv_iadd hx hb dX7_many_28 ?_
            refine top_eq (y := nI (x + 0)) (nI_add _ _) ?_
            refine lv_istore_n (lv' := [(1, .int (nI (x + 0))), (2, .int (nI (t - 1))), (0, .ref M)]) hx hb dX7_many_29 rfl hl (by decide) rfl (fun ls hl => ?_)
            refine lv_iinc (v := (nI (t + 1)) - 1) (lv' := [(2, .int ((nI (t + 1)) - 1)), (1, .int (nI (x + 0))), (0, .ref M)]) hx hb dX7_many_30 hl (k := 1) rfl (inc_a ht0) (by decide) rfl (fun ls hl => ?_)
            refine lv_goto (tgt := 4) hx hb dX7_many_33 (by decide) ?_
            exact ih4 (t + 1) (x + 0) ab'_9 bl'_10 is'_11 ra'_12 nf'_13 ref'_14 (by omega) (by first | assumption | omega) (by rw [cnt_s, ← hx1, c_15] <;> rfl) H locs ls (ST.eq S (rfl)) (lv_sub hl [0, 1, 2] (rfl))
          · -- 20 F
            refine lv_iconst (v := 1) hx hb dX7_many_23 (by decide) ?_
            refine lv_goto (tgt := 28) hx hb dX7_many_24 (by decide) ?_
            refine lv_iadd hx hb dX7_many_28 ?_
            refine top_eq (y := nI (x + 1)) (nI_add _ _) ?_
            refine lv_istore_n (lv' := [(1, .int (nI (x + 1))), (2, .int (nI (t - 1))), (0, .ref M)]) hx hb dX7_many_29 rfl hl (by decide) rfl (fun ls hl => ?_)
            refine lv_iinc (v := (nI (t + 1)) - 1) (lv' := [(2, .int ((nI (t + 1)) - 1)), (1, .int (nI (x + 1))), (0, .ref M)]) hx hb dX7_many_30 hl (k := 1) rfl (inc_a ht0) (by decide) rfl (fun ls hl => ?_)
            refine lv_goto (tgt := 4) hx hb dX7_many_33 (by decide) ?_
            exact ih4 (t + 1) (x + 1) ab'_9 bl'_10 is'_11 ra'_12 nf'_13 ref'_14 (by omega) (by first | assumption | omega) (by rw [cnt_s, ← hx1, c_15] <;> rfl) H locs ls (ST.eq S (rfl)) (lv_sub hl [0, 1, 2] (rfl))
  exact loop4 _ 0 0 yab ybl yis yra nf ref (Nat.lt_succ_self _) (by first | assumption | omega) (rfl) H locs ls (ST.eq S (rfl)) (lv_sub hl [0, 1, 2] (by rw [show nI 0 - 1 = (-1 : Int32) by decide] <;> rfl))

theorem inX7_which_X7 : ∀ w ∈ wsX70, w ∈ wsX7_which := by decide +kernel
set_option maxRecDepth 100000 in
set_option maxHeartbeats 4000000 in
theorem kX7_which (l : Launch) (g : GG) (M : Nat) (nw : Nat) (dr : Nat) (pa : Nat) (im : Nat) (ke : Nat) (fl : Nat) (fq : Nat) (te : Nat) (ni : Nat) (re : Nat) (ma : Nat) (be : Nat) (ypa : Int32) (yty : Int32) (yat : Int32) (yst : Int32) (yso : Int32) (yva : Int32) (yab : Int32) (ybl : Int32) (yis : Int32) (yra : Int32) (gn : Nat → Int32) (n : Nat) (ww : Nat) (nu : Nat → Nat → Nat) (nf : Nat → Int32) (ref : Nat → Int32) (lf : Nat → Int32) (bf : Nat → Int32) (sz : Nat) (lo : Nat → Nat) (x : Int32) (hn1 : 1 ≤ n) (hn : n ≤ 8) (hww : ww < 2 ^ n) (hg0 : gn 0 = nI n) (hgn : ∀ a i, a < 4 → i < n → gn (5 * i + (a + 1)) = nI (nu a i)) (hgw : ∀ i, i < n → gn (5 * i + 5) = nI (ww.testBit i).toNat) (hB : HB nu n) (hs6 : sz ≤ 6) (hlo : ∀ i, i < sz → lf i = nI (lo i)) (hlb : ∀ i, i < sz → lo i ≤ 999) : KI l g yX7_which wsX7_which 6 141 [.ref M, .int x] [(M, ob 7 [.ref nw, .ref dr, .ref pa, .int ypa, .ref im, .ref ke, .ref fl, .ref fq, .int (nI sz), .ref te, .int yty, .int yat, .int yst, .int yso, .int yva, .ref ni, .ref re, .int yab, .int ybl, .int yis, .int yra, .ref ma, .ref be]), (nw, aI g 41 gn), (ni, aI g 8 nf), (re, aI g 8 ref), (fl, aI g 6 lf), (fq, aI g 6 bf)] (fun (r : Int32) (w' : va_W) => r = (chk1 (-1000000) 2 (whichA nu n ww sz lo bf) x) ∧ ∃ (ab' : Int32), ∃ (bl' : Int32), ∃ (is' : Int32), ∃ (ra' : Int32), ∃ (nf' : Nat → Int32), ∃ (ref' : Nat → Int32), w' = [(M, ob 7 [.ref nw, .ref dr, .ref pa, .int ypa, .ref im, .ref ke, .ref fl, .ref fq, .int (nI sz), .ref te, .int yty, .int yat, .int yst, .int yso, .int yva, .ref ni, .ref re, .int ab', .int bl', .int is', .int ra', .ref ma, .ref be]), (nw, aI g 41 gn), (ni, aI g 8 nf'), (re, aI g 8 ref'), (fl, aI g 6 lf), (fq, aI g 6 bf)]) := by
  refine kI_of (cc := cX7_which) (maxL := 4) (by decide) rfl (Nat.le_of_ble_eq_true rfl) ?_
  intro pp ee ss mm bel mth cd A ls C S hr hl
  obtain ⟨hx, hb, hml, hown, hts⟩ := id C.1
  have hl : lv_has ls 4 [(0, .ref M), (1, .int x)] := hl
  obtain ⟨H, hH⟩ : ∃ H, H = ss.heap := ⟨_, rfl⟩
  obtain ⟨locs, hL0⟩ : ∃ L : List Loc, L = [] := ⟨_, rfl⟩
  rw [← hH, ← hL0] at S ⊢
  refine lv_iload_n hx hb dX7_which_0 rfl (lv_at hl 1 rfl) ?_
  refine lv_iconst (v := 0) hx hb dX7_which_1 (by decide) ?_
  refine lv_iconst (v := 1) hx hb dX7_which_2 (by decide) ?_
  refine after_I (wc := []) (y := yX7_in) C S (va_runS (As := [.int x, .int 0, .int 1]) (rest := []) C.1 (kX7_inz l g x 1 (by first | assumption | omega) H.size) (va_cwS 3 hts gX7_which_X7_in rfl rfl rfl (by decide +kernel) ⟨Nat.le_of_ble_eq_true rfl, Nat.le_of_ble_eq_true rfl⟩) (preS_at C S [] rfl (by decide)) rfl rfl hl.1 rfl (lv_room (Nat.le_of_ble_eq_true rfl)) dX7_which_3 ⟨Nat.le_of_ble_eq_true rfl, Nat.le_of_ble_eq_true rfl⟩) [] [0, 1, 2, 3, 4, 5] rfl (wr := [(M, ob 7 [.ref nw, .ref dr, .ref pa, .int ypa, .ref im, .ref ke, .ref fl, .ref fq, .int (nI sz), .ref te, .int yty, .int yat, .int yst, .int yso, .int yva, .ref ni, .ref re, .int yab, .int ybl, .int yis, .int yra, .ref ma, .ref be]), (nw, aI g 41 gn), (ni, aI g 8 nf), (re, aI g 8 ref), (fl, aI g 6 lf), (fq, aI g 6 bf)]) rfl (by decide) (by decide) (fun r0 w0 H locs hq S => ?_)
  obtain ⟨rfl, rfl⟩ := hq
  have S : ST g A ss H locs [(M, ob 7 [.ref nw, .ref dr, .ref pa, .int ypa, .ref im, .ref ke, .ref fl, .ref fq, .int (nI sz), .ref te, .int yty, .int yat, .int yst, .int yso, .int yva, .ref ni, .ref re, .int yab, .int ybl, .int yis, .int yra, .ref ma, .ref be]), (nw, aI g 41 gn), (ni, aI g 8 nf), (re, aI g 8 ref), (fl, aI g 6 lf), (fq, aI g 6 bf)] := S
  refine br_neB (tgt := 12) hx hb dX7_which_6 (by decide) (fun c_1 => ?_) (fun c_1 => ?_)
  · -- 6 T
    obtain ⟨w, hw, rfl⟩ := ok_ex (k := 2) (by omega) c_1
    refine lv_ldc (v := (-2000000)) hx hb hown (hts (.constant RX7 173 (-2000000)) (by decide +kernel)) dX7_which_12 ?_
    refine lv_istore_n (lv' := [(2, .int (-2000000)), (0, .ref M), (1, .int (nI w))]) hx hb dX7_which_14 rfl hl (by decide) rfl (fun ls hl => ?_)
    refine lv_aload_n hx hb dX7_which_15 rfl (lv_at hl 1 rfl) ?_
    refine top_get C S inX7_which_X7 rfl 0 rfl 0 (by decide) (by decide +kernel) rfl rfl dX7_which_16 ?_
    refine lv_iconst (v := 0) hx hb dX7_which_19 (by decide) ?_
    refine top_ild C S 1 rfl (j := 0) rfl (by omega) (by decide) dX7_which_20 ?_
    refine top_eq (y := nI n) hg0 ?_
    refine lv_iconst (v := 1) hx hb dX7_which_21 (by decide) ?_
    refine lv_isub hx hb dX7_which_22 ?_
    refine lv_istore_n (lv' := [(3, .int ((nI n) - 1)), (2, .int (-2000000)), (0, .ref M), (1, .int (nI w))]) hx hb dX7_which_23 rfl hl (by decide) rfl (fun ls hl => ?_)
    have loop24 : ∀ (N0 : Nat) (u : Nat) (fd : Int32) (u1 : Int32) (u2 : Int32) (u3 : Int32) (u4 : Int32) (n1 : Nat → Int32) (r1 : Nat → Int32), u < N0 → (u ≤ n + 1) → ((fd = (-2000000) ∧ ∀ s9, u ≤ s9 → s9 ≤ n → soB nu n ww sz lo bf s9 = false) ∨ (∃ s9, u ≤ s9 ∧ s9 ≤ n ∧ soB nu n ww sz lo bf s9 = true ∧ (∀ t9, u ≤ t9 → t9 < s9 → soB nu n ww sz lo bf t9 = false) ∧ fd = nI s9 - 1)) → ∀ (H : Heap) (locs : List Loc) (ls : Array Slot), ST g A ss H locs [(M, ob 7 [.ref nw, .ref dr, .ref pa, .int ypa, .ref im, .ref ke, .ref fl, .ref fq, .int (nI sz), .ref te, .int yty, .int yat, .int yst, .int yso, .int yva, .ref ni, .ref re, .int u1, .int u2, .int u3, .int u4, .ref ma, .ref be]), (nw, aI g 41 gn), (ni, aI g 8 n1), (re, aI g 8 r1), (fl, aI g 6 lf), (fq, aI g 6 bf)] → lv_has ls 4 [(3, .int ((nI u) - 2)), (2, .int fd), (0, .ref M), (1, .int (nI w))] → W pp l ee { frames := 6, cells := 0, slots := 0, locals := 141 } ss mm ([.ref M, .int (nI w)] : List Value).toArray bel mth cd H locs 0 0 (QI bel ([.ref M, .int (nI w)] : List Value).toArray ss g A (fun (r : Int32) (w' : va_W) => r = (chk1 (-1000000) 2 (whichA nu n ww sz lo bf) (nI w)) ∧ ∃ (ab' : Int32), ∃ (bl' : Int32), ∃ (is' : Int32), ∃ (ra' : Int32), ∃ (nf' : Nat → Int32), ∃ (ref' : Nat → Int32), w' = [(M, ob 7 [.ref nw, .ref dr, .ref pa, .int ypa, .ref im, .ref ke, .ref fl, .ref fq, .int (nI sz), .ref te, .int yty, .int yat, .int yst, .int yso, .int yva, .ref ni, .ref re, .int ab', .int bl', .int is', .int ra', .ref ma, .ref be]), (nw, aI g 41 gn), (ni, aI g 8 nf'), (re, aI g 8 ref'), (fl, aI g 6 lf), (fq, aI g 6 bf)])) (F0 mm 24 ls []) := by
      intro N0
      induction N0 with
      | zero => intro u fd u1 u2 u3 u4 n1 r1 hN; exact absurd hN (Nat.not_lt_zero _)
      | succ N0 ih24 =>
        intro u fd u1 u2 u3 u4 n1 r1 hN hu hfd H locs ls S hl
        refine lv_iload_n hx hb dX7_which_24 rfl (lv_at hl 0 rfl) ?_
        refine lv_iconst (v := (-1)) hx hb dX7_which_25 (by decide) ?_
        refine lv_icmp_lt (tgt := 49) hx hb dX7_which_26 (by decide) (fun c_2 => ?_) (fun c_2 => ?_)
        · -- 26 T
          have hu0 := (m2_lt (by omega)).mp c_2
          rw [hu0] at hfd
          refine lv_iload_n hx hb dX7_which_49 rfl (lv_at hl 3 rfl) ?_
          refine bn_zne (tgt := 60) (a := w) hx hb rfl (by omega) dX7_which_50 (by decide) (fun c_3 => ?_) (fun c_3 => ?_)
          · -- 50 T
            refine lv_iload_n hx hb dX7_which_60 rfl (lv_at hl 1 rfl) ?_
            exact ret_I C S hr dX7_which_61 ⟨(Eq.trans (show _ = whichA nu n ww sz lo bf w by unfold whichA; rw [if_neg c_3]; exact fd_end hfd) (chk1_ok (by omega) (by decide)).symm), u1, u2, u3, u4, n1, r1, (rfl)⟩
          · -- 50 F
            refine lv_aload_n hx hb dX7_which_53 rfl (lv_at hl 2 rfl) ?_
            refine after_I (wc := [(M, ob 7 [.ref nw, .ref dr, .ref pa, .int ypa, .ref im, .ref ke, .ref fl, .ref fq, .int (nI sz), .ref te, .int yty, .int yat, .int yst, .int yso, .int yva, .ref ni, .ref re, .int u1, .int u2, .int u3, .int u4, .ref ma, .ref be]), (nw, aI g 41 gn), (ni, aI g 8 n1), (re, aI g 8 r1), (fl, aI g 6 lf), (fq, aI g 6 bf)]) (y := yX7_many) C S (va_runV (As := []) (rest := []) C.1 (kX7_many l g M nw dr pa im ke fl fq te ni re ma be ypa yty yat yst yso yva u1 u2 u3 u4 gn n ww nu n1 r1 lf bf sz lo (by first | assumption | omega) (by first | assumption | omega) (by first | assumption | omega) (by first | assumption | omega) (by first | assumption | omega) (by first | assumption | omega) (by first | assumption | omega) (by first | assumption | omega) (by first | assumption | omega) (by first | assumption | omega) H.size) (cwV 0 hts gX7_which_X7_many rfl rfl rfl (by decide +kernel) ⟨Nat.le_of_ble_eq_true rfl, Nat.le_of_ble_eq_true rfl⟩) (preV_at C S 0 rfl rfl [0, 1, 2, 3, 4, 5] rfl (by decide)) rfl rfl hl.1 rfl (lv_room (Nat.le_of_ble_eq_true rfl)) dX7_which_54 ⟨Nat.le_of_ble_eq_true rfl, Nat.le_of_ble_eq_true rfl⟩) [0, 1, 2, 3, 4, 5] [] rfl (wr := []) rfl (by decide) (by decide) (fun r0 w0 H locs hq S => ?_)
            obtain ⟨rfl, ab'_4, bl'_5, is'_6, ra'_7, nf'_8, ref'_9, rfl⟩ := hq
            have S : ST g A ss H locs [(M, ob 7 [.ref nw, .ref dr, .ref pa, .int ypa, .ref im, .ref ke, .ref fl, .ref fq, .int (nI sz), .ref te, .int yty, .int yat, .int yst, .int yso, .int yva, .ref ni, .ref re, .int ab'_4, .int bl'_5, .int is'_6, .int ra'_7, .ref ma, .ref be]), (nw, aI g 41 gn), (ni, aI g 8 nf'_8), (re, aI g 8 ref'_9), (fl, aI g 6 lf), (fq, aI g 6 bf)] := S
            refine lv_goto (tgt := 61) hx hb dX7_which_57 (by decide) ?_
            exact ret_I C S hr dX7_which_61 ⟨(Eq.trans (show _ = whichA nu n ww sz lo bf w by unfold whichA; rw [if_pos c_3]) (chk1_ok (by omega) (by decide)).symm), ab'_4, bl'_5, is'_6, ra'_7, nf'_8, ref'_9, (rfl)⟩
        · -- 26 F
          have hu0 : u ≠ 0 := fun q9 => c_2 ((m2_lt (by omega)).mpr q9)
          rcases (show u = 1 ∨ 2 ≤ u by omega) with hu1 | hu1
          ·
            rw [show nI u - 2 = (-1) by rw [hu1]; decide] at hl
            have hl : lv_has ls 4 [(3, .int (-1)), (2, .int fd), (0, .ref M), (1, .int (nI w))] := hl
            refine lv_aload_n hx hb dX7_which_29 rfl (lv_at hl 2 rfl) ?_
            refine lv_iload_n hx hb dX7_which_30 rfl (lv_at hl 0 rfl) ?_
            refine after_I (wc := [(M, ob 7 [.ref nw, .ref dr, .ref pa, .int ypa, .ref im, .ref ke, .ref fl, .ref fq, .int (nI sz), .ref te, .int yty, .int yat, .int yst, .int yso, .int yva, .ref ni, .ref re, .int u1, .int u2, .int u3, .int u4, .ref ma, .ref be]), (nw, aI g 41 gn), (ni, aI g 8 n1), (re, aI g 8 r1), (fl, aI g 6 lf), (fq, aI g 6 bf)]) (y := yX7_isSo) C S (va_runV (As := [.int (-1)]) (rest := []) C.1 (kX7_isSon l g M nw dr pa im ke fl fq te ni re ma be ypa yty yat yst yso yva u1 u2 u3 u4 gn n ww nu n1 r1 lf bf sz lo (by first | assumption | omega) (by first | assumption | omega) (by first | assumption | omega) (by first | assumption | omega) (by first | assumption | omega) (by first | assumption | omega) (by first | assumption | omega) (by first | assumption | omega) (by first | assumption | omega) (by first | assumption | omega) H.size) (cwV 1 hts gX7_which_X7_isSo rfl rfl rfl (by decide +kernel) ⟨Nat.le_of_ble_eq_true rfl, Nat.le_of_ble_eq_true rfl⟩) (preV_at C S 0 rfl rfl [0, 1, 2, 3, 4, 5] rfl (by decide)) rfl rfl hl.1 rfl (lv_room (Nat.le_of_ble_eq_true rfl)) dX7_which_31 ⟨Nat.le_of_ble_eq_true rfl, Nat.le_of_ble_eq_true rfl⟩) [0, 1, 2, 3, 4, 5] [] rfl (wr := []) rfl (by decide) (by decide) (fun r0 w0 H locs hq S => ?_)
            obtain ⟨rfl, ab'_10, bl'_11, is'_12, ra'_13, nf'_14, ref'_15, rfl⟩ := hq
            have S : ST g A ss H locs [(M, ob 7 [.ref nw, .ref dr, .ref pa, .int ypa, .ref im, .ref ke, .ref fl, .ref fq, .int (nI sz), .ref te, .int yty, .int yat, .int yst, .int yso, .int yva, .ref ni, .ref re, .int ab'_10, .int bl'_11, .int is'_12, .int ra'_13, .ref ma, .ref be]), (nw, aI g 41 gn), (ni, aI g 8 nf'_14), (re, aI g 8 ref'_15), (fl, aI g 6 lf), (fq, aI g 6 bf)] := S
            refine top_eq (y := bI (soB nu n ww sz lo bf (u - 1))) (by rw [hu1]) ?_
            refine br_eqB (tgt := 41) hx hb dX7_which_34 (by decide) (fun c_16 => ?_) (fun c_16 => ?_)
            · -- 34 T
              refine lv_iload_n hx hb dX7_which_41 rfl (lv_at hl 1 rfl) ?_
              refine lv_istore_n (lv' := [(2, .int fd), (3, .int (-1)), (0, .ref M), (1, .int (nI w))]) hx hb dX7_which_42 rfl hl (by decide) rfl (fun ls hl => ?_)
              refine lv_iinc (v := (nI (u - 1)) - 2) (lv' := [(3, .int ((nI (u - 1)) - 2)), (2, .int fd), (0, .ref M), (1, .int (nI w))]) hx hb dX7_which_43 hl (k := 1) rfl (by rw [hu1]; decide) (by decide) rfl (fun ls hl => ?_)
              refine lv_goto (tgt := 24) hx hb dX7_which_46 (by decide) ?_
              exact ih24 (u - 1) fd ab'_10 bl'_11 is'_12 ra'_13 nf'_14 ref'_15 (by omega) (by first | assumption | omega) (fd_no c_16 hfd (by omega)) H locs ls (ST.eq S (rfl)) (lv_sub hl [0, 1, 2, 3] (rfl))
            · -- 34 F
              refine lv_iload_n hx hb dX7_which_37 rfl (lv_at hl 0 rfl) ?_
              refine lv_goto (tgt := 42) hx hb dX7_which_38 (by decide) ?_
              refine lv_istore_n (lv' := [(2, .int (-1)), (3, .int (-1)), (0, .ref M), (1, .int (nI w))]) hx hb dX7_which_42 rfl hl (by decide) rfl (fun ls hl => ?_)
              refine lv_iinc (v := (nI (u - 1)) - 2) (lv' := [(3, .int ((nI (u - 1)) - 2)), (2, .int (-1)), (0, .ref M), (1, .int (nI w))]) hx hb dX7_which_43 hl (k := 1) rfl (by rw [hu1]; decide) (by decide) rfl (fun ls hl => ?_)
              refine lv_goto (tgt := 24) hx hb dX7_which_46 (by decide) ?_
              exact ih24 (u - 1) (-1) ab'_10 bl'_11 is'_12 ra'_13 nf'_14 ref'_15 (by omega) (by first | assumption | omega) (fd_yes c_16 (by omega) (by omega) (by rw [hu1]; decide)) H locs ls (ST.eq S (rfl)) (lv_sub hl [0, 1, 2, 3] (rfl))
          ·
            rw [show nI u - 2 = nI (u - 2) from pk_sub (b := 2) (by omega)] at hl
            have hl : lv_has ls 4 [(3, .int (nI (u - 2))), (2, .int fd), (0, .ref M), (1, .int (nI w))] := hl
            refine lv_aload_n hx hb dX7_which_29 rfl (lv_at hl 2 rfl) ?_
            refine lv_iload_n hx hb dX7_which_30 rfl (lv_at hl 0 rfl) ?_
            refine after_I (wc := [(M, ob 7 [.ref nw, .ref dr, .ref pa, .int ypa, .ref im, .ref ke, .ref fl, .ref fq, .int (nI sz), .ref te, .int yty, .int yat, .int yst, .int yso, .int yva, .ref ni, .ref re, .int u1, .int u2, .int u3, .int u4, .ref ma, .ref be]), (nw, aI g 41 gn), (ni, aI g 8 n1), (re, aI g 8 r1), (fl, aI g 6 lf), (fq, aI g 6 bf)]) (y := yX7_isSo) C S (va_runV (As := [.int (nI (u - 2))]) (rest := []) C.1 (kX7_isSoy l g M nw dr pa im ke fl fq te ni re ma be ypa yty yat yst yso yva u1 u2 u3 u4 gn n ww nu n1 r1 lf bf sz lo (u - 2) (by first | assumption | omega) (by first | assumption | omega) (by first | assumption | omega) (by first | assumption | omega) (by first | assumption | omega) (by first | assumption | omega) (by first | assumption | omega) (by first | assumption | omega) (by first | assumption | omega) (by first | assumption | omega) (by first | assumption | omega) H.size) (cwV 1 hts gX7_which_X7_isSo rfl rfl rfl (by decide +kernel) ⟨Nat.le_of_ble_eq_true rfl, Nat.le_of_ble_eq_true rfl⟩) (preV_at C S 0 rfl rfl [0, 1, 2, 3, 4, 5] rfl (by decide)) rfl rfl hl.1 rfl (lv_room (Nat.le_of_ble_eq_true rfl)) dX7_which_31 ⟨Nat.le_of_ble_eq_true rfl, Nat.le_of_ble_eq_true rfl⟩) [0, 1, 2, 3, 4, 5] [] rfl (wr := []) rfl (by decide) (by decide) (fun r0 w0 H locs hq S => ?_)
            obtain ⟨rfl, ab'_17, bl'_18, is'_19, ra'_20, nf'_21, ref'_22, rfl⟩ := hq
            have S : ST g A ss H locs [(M, ob 7 [.ref nw, .ref dr, .ref pa, .int ypa, .ref im, .ref ke, .ref fl, .ref fq, .int (nI sz), .ref te, .int yty, .int yat, .int yst, .int yso, .int yva, .ref ni, .ref re, .int ab'_17, .int bl'_18, .int is'_19, .int ra'_20, .ref ma, .ref be]), (nw, aI g 41 gn), (ni, aI g 8 nf'_21), (re, aI g 8 ref'_22), (fl, aI g 6 lf), (fq, aI g 6 bf)] := S
            refine top_eq (y := bI (soB nu n ww sz lo bf (u - 1))) (by rw [show u - 2 + 1 = u - 1 by omega]) ?_
            refine br_eqB (tgt := 41) hx hb dX7_which_34 (by decide) (fun c_23 => ?_) (fun c_23 => ?_)
            · -- 34 T
              refine lv_iload_n hx hb dX7_which_41 rfl (lv_at hl 1 rfl) ?_
              refine lv_istore_n (lv' := [(2, .int fd), (3, .int (nI (u - 2))), (0, .ref M), (1, .int (nI w))]) hx hb dX7_which_42 rfl hl (by decide) rfl (fun ls hl => ?_)
              refine lv_iinc (v := (nI (u - 1)) - 2) (lv' := [(3, .int ((nI (u - 1)) - 2)), (2, .int fd), (0, .ref M), (1, .int (nI w))]) hx hb dX7_which_43 hl (k := 1) rfl (dec_a hu1) (by decide) rfl (fun ls hl => ?_)
              refine lv_goto (tgt := 24) hx hb dX7_which_46 (by decide) ?_
              exact ih24 (u - 1) fd ab'_17 bl'_18 is'_19 ra'_20 nf'_21 ref'_22 (by omega) (by first | assumption | omega) (fd_no c_23 hfd (by omega)) H locs ls (ST.eq S (rfl)) (lv_sub hl [0, 1, 2, 3] (rfl))
            · -- 34 F
              refine lv_iload_n hx hb dX7_which_37 rfl (lv_at hl 0 rfl) ?_
              refine lv_goto (tgt := 42) hx hb dX7_which_38 (by decide) ?_
              refine lv_istore_n (lv' := [(2, .int (nI (u - 2))), (3, .int (nI (u - 2))), (0, .ref M), (1, .int (nI w))]) hx hb dX7_which_42 rfl hl (by decide) rfl (fun ls hl => ?_)
              refine lv_iinc (v := (nI (u - 1)) - 2) (lv' := [(3, .int ((nI (u - 1)) - 2)), (2, .int (nI (u - 2))), (0, .ref M), (1, .int (nI w))]) hx hb dX7_which_43 hl (k := 1) rfl (dec_a hu1) (by decide) rfl (fun ls hl => ?_)
              refine lv_goto (tgt := 24) hx hb dX7_which_46 (by decide) ?_
              exact ih24 (u - 1) (nI (u - 2)) ab'_17 bl'_18 is'_19 ra'_20 nf'_21 ref'_22 (by omega) (by first | assumption | omega) (fd_yes c_23 (by omega) (by omega) (by rw [show nI (u - 1) - 1 = nI (u - 1 - 1) from pk_sub (b := 1) (by omega), show u - 1 - 1 = u - 2 by omega])) H locs ls (ST.eq S (rfl)) (lv_sub hl [0, 1, 2, 3] (rfl))
    exact loop24 _ (n + 1) (-2000000) yab ybl yis yra nf ref (Nat.lt_succ_self _) (by first | assumption | omega) (Or.inl ⟨rfl, fun s9 a9 b9 => by omega⟩) H locs ls (ST.eq S (rfl)) (lv_sub hl [0, 1, 2, 3] (by rw [show nI (n + 1) - 2 = nI n - 1 by rw [show nI (n + 1) - 2 = nI (n + 1 - 2) from pk_sub (b := 2) (by omega), show nI n - 1 = nI (n - 1) from pk_sub (b := 1) (by omega), show n + 1 - 2 = n - 1 by omega]] <;> rfl))
  · -- 6 F
    refine lv_ldc (v := (-1000000)) hx hb hown (hts (.constant RX7 172 (-1000000)) (by decide +kernel)) dX7_which_9 ?_
    exact ret_I C S hr dX7_which_11 ⟨((chk1_bad c_1).symm), yab, ybl, yis, yra, nf, ref, (rfl)⟩

theorem inX7_mostAlike_X7 : ∀ w ∈ wsX70, w ∈ wsX7_mostAlike := by decide +kernel
set_option maxRecDepth 100000 in
set_option maxHeartbeats 4000000 in
theorem kX7_mostAlike (l : Launch) (g : GG) (M : Nat) (nw : Nat) (dr : Nat) (pa : Nat) (im : Nat) (ke : Nat) (fl : Nat) (fq : Nat) (te : Nat) (ni : Nat) (re : Nat) (ma : Nat) (be : Nat) (ypa : Int32) (yfa : Int32) (yty : Int32) (yat : Int32) (yst : Int32) (yso : Int32) (yva : Int32) (yab : Int32) (ybl : Int32) (yis : Int32) (yra : Int32) (gn : Nat → Int32) (n : Nat) (ww : Nat) (nu : Nat → Nat → Nat) (nf : Nat → Int32) (ref : Nat → Int32) (mf : Nat → Int32) (bm : Nat → Int32) (so : Nat → Bool) (p : Nat) (hn1 : 1 ≤ n) (hn : n ≤ 8) (hww : ww < 2 ^ n) (hg0 : gn 0 = nI n) (hgn : ∀ a i, a < 4 → i < n → gn (5 * i + (a + 1)) = nI (nu a i)) (hgw : ∀ i, i < n → gn (5 * i + 5) = nI (ww.testBit i).toNat) (hB : HB nu n) (hp : p ≤ 999) (hmf : ∀ t9, t9 ≤ n → mf t9 = bI (so t9)) : KI l g yX7_mostAlike wsX7_mostAlike 4 96 [.ref M, .int (nI p)] [(M, ob 7 [.ref nw, .ref dr, .ref pa, .int ypa, .ref im, .ref ke, .ref fl, .ref fq, .int yfa, .ref te, .int yty, .int yat, .int yst, .int yso, .int yva, .ref ni, .ref re, .int yab, .int ybl, .int yis, .int yra, .ref ma, .ref be]), (nw, aI g 41 gn), (ni, aI g 8 nf), (re, aI g 8 ref), (ma, aZ g 9 mf), (be, aI g 9 bm)] (fun (r : Int32) (w' : va_W) => r = (nI (mA so nu n ww p)) ∧ ∃ (ab' : Int32), ∃ (bl' : Int32), ∃ (is' : Int32), ∃ (ra' : Int32), ∃ (nf' : Nat → Int32), ∃ (ref' : Nat → Int32), ∃ (bm' : Nat → Int32), w' = [(M, ob 7 [.ref nw, .ref dr, .ref pa, .int ypa, .ref im, .ref ke, .ref fl, .ref fq, .int yfa, .ref te, .int yty, .int yat, .int yst, .int yso, .int yva, .ref ni, .ref re, .int ab', .int bl', .int is', .int ra', .ref ma, .ref be]), (nw, aI g 41 gn), (ni, aI g 8 nf'), (re, aI g 8 ref'), (ma, aZ g 9 mf), (be, aI g 9 bm')]) := by
  refine kI_of (cc := cX7_mostAlike) (maxL := 6) (by decide) rfl (Nat.le_of_ble_eq_true rfl) ?_
  intro pp ee ss mm bel mth cd A ls C S hr hl
  obtain ⟨hx, hb, hml, hown, hts⟩ := id C.1
  have hl : lv_has ls 6 [(0, .ref M), (1, .int (nI p))] := hl
  obtain ⟨H, hH⟩ : ∃ H, H = ss.heap := ⟨_, rfl⟩
  obtain ⟨locs, hL0⟩ : ∃ L : List Loc, L = [] := ⟨_, rfl⟩
  rw [← hH, ← hL0] at S ⊢
  refine lv_iconst (v := 0) hx hb dX7_mostAlike_0 (by decide) ?_
  refine lv_istore_n (lv' := [(2, .int 0), (0, .ref M), (1, .int (nI p))]) hx hb dX7_mostAlike_1 rfl hl (by decide) rfl (fun ls hl => ?_)
  have loop2 : ∀ (N0 : Nat) (k : Nat) (u1 : Int32) (u2 : Int32) (u3 : Int32) (u4 : Int32) (n1 : Nat → Int32) (r1 : Nat → Int32) (b1 : Nat → Int32), n + 1 - k < N0 → (k ≤ n + 1) → (∀ t9, t9 < k → so t9 = true → b1 t9 = cutS nu n ww t9 p) → ∀ (H : Heap) (locs : List Loc) (ls : Array Slot), ST g A ss H locs [(M, ob 7 [.ref nw, .ref dr, .ref pa, .int ypa, .ref im, .ref ke, .ref fl, .ref fq, .int yfa, .ref te, .int yty, .int yat, .int yst, .int yso, .int yva, .ref ni, .ref re, .int u1, .int u2, .int u3, .int u4, .ref ma, .ref be]), (nw, aI g 41 gn), (ni, aI g 8 n1), (re, aI g 8 r1), (ma, aZ g 9 mf), (be, aI g 9 b1)] → lv_has ls 6 [(2, .int (nI k)), (0, .ref M), (1, .int (nI p))] → W pp l ee { frames := 4, cells := 0, slots := 0, locals := 96 } ss mm ([.ref M, .int (nI p)] : List Value).toArray bel mth cd H locs 0 0 (QI bel ([.ref M, .int (nI p)] : List Value).toArray ss g A (fun (r : Int32) (w' : va_W) => r = (nI (mA so nu n ww p)) ∧ ∃ (ab' : Int32), ∃ (bl' : Int32), ∃ (is' : Int32), ∃ (ra' : Int32), ∃ (nf' : Nat → Int32), ∃ (ref' : Nat → Int32), ∃ (bm' : Nat → Int32), w' = [(M, ob 7 [.ref nw, .ref dr, .ref pa, .int ypa, .ref im, .ref ke, .ref fl, .ref fq, .int yfa, .ref te, .int yty, .int yat, .int yst, .int yso, .int yva, .ref ni, .ref re, .int ab', .int bl', .int is', .int ra', .ref ma, .ref be]), (nw, aI g 41 gn), (ni, aI g 8 nf'), (re, aI g 8 ref'), (ma, aZ g 9 mf), (be, aI g 9 bm')])) (F0 mm 2 ls []) := by
    intro N0
    induction N0 with
    | zero => intro k u1 u2 u3 u4 n1 r1 b1 hN; exact absurd hN (Nat.not_lt_zero _)
    | succ N0 ih2 =>
      intro k u1 u2 u3 u4 n1 r1 b1 hN hk hb1 H locs ls S hl
      refine lv_iload_n hx hb dX7_mostAlike_2 rfl (lv_at hl 0 rfl) ?_
      refine lv_aload_n hx hb dX7_mostAlike_3 rfl (lv_at hl 1 rfl) ?_
      refine top_get C S inX7_mostAlike_X7 rfl 0 rfl 0 (by decide) (by decide +kernel) rfl rfl dX7_mostAlike_4 ?_
      refine lv_iconst (v := 0) hx hb dX7_mostAlike_7 (by decide) ?_
      refine top_ild C S 1 rfl (j := 0) rfl (by omega) (by decide) dX7_mostAlike_8 ?_
      refine top_eq (y := nI n) hg0 ?_
      refine bn_igt (tgt := 45) (a := k) (b := n) hx hb rfl rfl (by omega) (by omega) dX7_mostAlike_9 (by decide) (fun c_1 => ?_) (fun c_1 => ?_)
      · -- 9 T
        have hb2 : ∀ t9, t9 ≤ n → so t9 = true → b1 t9 = cutS nu n ww t9 p := fun t9 h9 b9 => hb1 t9 (by omega) b9
        refine lv_iconst (v := 0) hx hb dX7_mostAlike_45 (by decide) ?_
        refine lv_istore_n (lv' := [(2, .int 0), (0, .ref M), (1, .int (nI p))]) hx hb dX7_mostAlike_46 rfl hl (by decide) rfl (fun ls hl => ?_)
        refine lv_iconst (v := 0) hx hb dX7_mostAlike_47 (by decide) ?_
        refine lv_istore_n (lv' := [(3, .int 0), (2, .int 0), (0, .ref M), (1, .int (nI p))]) hx hb dX7_mostAlike_48 rfl hl (by decide) rfl (fun ls hl => ?_)
        have loop49 : ∀ (N0 : Nat) (k : Nat) (x : Nat), n + 1 - k < N0 → (k ≤ n + 1) → (x = mlM so (fun s9 => cutS nu n ww s9 p) (n + 1) k) → ∀ (H : Heap) (locs : List Loc) (ls : Array Slot), ST g A ss H locs [(M, ob 7 [.ref nw, .ref dr, .ref pa, .int ypa, .ref im, .ref ke, .ref fl, .ref fq, .int yfa, .ref te, .int yty, .int yat, .int yst, .int yso, .int yva, .ref ni, .ref re, .int u1, .int u2, .int u3, .int u4, .ref ma, .ref be]), (nw, aI g 41 gn), (ni, aI g 8 n1), (re, aI g 8 r1), (ma, aZ g 9 mf), (be, aI g 9 b1)] → lv_has ls 6 [(3, .int (nI k)), (2, .int (nI x)), (0, .ref M), (1, .int (nI p))] → W pp l ee { frames := 4, cells := 0, slots := 0, locals := 96 } ss mm ([.ref M, .int (nI p)] : List Value).toArray bel mth cd H locs 0 0 (QI bel ([.ref M, .int (nI p)] : List Value).toArray ss g A (fun (r : Int32) (w' : va_W) => r = (nI (mA so nu n ww p)) ∧ ∃ (ab' : Int32), ∃ (bl' : Int32), ∃ (is' : Int32), ∃ (ra' : Int32), ∃ (nf' : Nat → Int32), ∃ (ref' : Nat → Int32), ∃ (bm' : Nat → Int32), w' = [(M, ob 7 [.ref nw, .ref dr, .ref pa, .int ypa, .ref im, .ref ke, .ref fl, .ref fq, .int yfa, .ref te, .int yty, .int yat, .int yst, .int yso, .int yva, .ref ni, .ref re, .int ab', .int bl', .int is', .int ra', .ref ma, .ref be]), (nw, aI g 41 gn), (ni, aI g 8 nf'), (re, aI g 8 ref'), (ma, aZ g 9 mf), (be, aI g 9 bm')])) (F0 mm 49 ls []) := by
          intro N0
          induction N0 with
          | zero => intro k x hN; exact absurd hN (Nat.not_lt_zero _)
          | succ N0 ih49 =>
            intro k x hN hk hx1 H locs ls S hl
            have hxl : x ≤ n + 1 := by rw [hx1]; exact mlM_bd k
            refine lv_iload_n hx hb dX7_mostAlike_49 rfl (lv_at hl 0 rfl) ?_
            refine lv_aload_n hx hb dX7_mostAlike_50 rfl (lv_at hl 2 rfl) ?_
            refine top_get C S inX7_mostAlike_X7 rfl 0 rfl 0 (by decide) (by decide +kernel) rfl rfl dX7_mostAlike_51 ?_
            refine lv_iconst (v := 0) hx hb dX7_mostAlike_54 (by decide) ?_
            refine top_ild C S 1 rfl (j := 0) rfl (by omega) (by decide) dX7_mostAlike_55 ?_
            refine top_eq (y := nI n) hg0 ?_
            refine bn_igt (tgt := 146) (a := k) (b := n) hx hb rfl rfl (by omega) (by omega) dX7_mostAlike_56 (by decide) (fun c_2 => ?_) (fun c_2 => ?_)
            · -- 56 T
              refine lv_iload_n hx hb dX7_mostAlike_146 rfl (lv_at hl 1 rfl) ?_
              exact ret_I C S hr dX7_mostAlike_147 ⟨(by rw [hx1, show k = n + 1 by omega, mlM_eq] <;> rfl), u1, u2, u3, u4, n1, r1, b1, (rfl)⟩
            · -- 56 F
              refine lv_iconst (v := 0) hx hb dX7_mostAlike_59 (by decide) ?_
              refine lv_istore (lv' := [(4, .int 0), (3, .int (nI k)), (2, .int (nI x)), (0, .ref M), (1, .int (nI p))]) hx hb dX7_mostAlike_60 hl (by decide) rfl (fun ls hl => ?_)
              refine lv_iconst (v := 0) hx hb dX7_mostAlike_62 (by decide) ?_
              refine lv_istore (lv' := [(5, .int 0), (4, .int 0), (3, .int (nI k)), (2, .int (nI x)), (0, .ref M), (1, .int (nI p))]) hx hb dX7_mostAlike_63 hl (by decide) rfl (fun ls hl => ?_)
              have loop65 : ∀ (N0 : Nat) (j : Nat) (y : Nat), n + 1 - j < N0 → (j ≤ n + 1) → (y = if so k = true then cq so (fun s9 => cutS nu n ww s9 p) k j else 0) → (y ≤ j) → ∀ (H : Heap) (locs : List Loc) (ls : Array Slot), ST g A ss H locs [(M, ob 7 [.ref nw, .ref dr, .ref pa, .int ypa, .ref im, .ref ke, .ref fl, .ref fq, .int yfa, .ref te, .int yty, .int yat, .int yst, .int yso, .int yva, .ref ni, .ref re, .int u1, .int u2, .int u3, .int u4, .ref ma, .ref be]), (nw, aI g 41 gn), (ni, aI g 8 n1), (re, aI g 8 r1), (ma, aZ g 9 mf), (be, aI g 9 b1)] → lv_has ls 6 [(5, .int (nI j)), (4, .int (nI y)), (3, .int (nI k)), (2, .int (nI x)), (0, .ref M), (1, .int (nI p))] → W pp l ee { frames := 4, cells := 0, slots := 0, locals := 96 } ss mm ([.ref M, .int (nI p)] : List Value).toArray bel mth cd H locs 0 0 (QI bel ([.ref M, .int (nI p)] : List Value).toArray ss g A (fun (r : Int32) (w' : va_W) => r = (nI (mA so nu n ww p)) ∧ ∃ (ab' : Int32), ∃ (bl' : Int32), ∃ (is' : Int32), ∃ (ra' : Int32), ∃ (nf' : Nat → Int32), ∃ (ref' : Nat → Int32), ∃ (bm' : Nat → Int32), w' = [(M, ob 7 [.ref nw, .ref dr, .ref pa, .int ypa, .ref im, .ref ke, .ref fl, .ref fq, .int yfa, .ref te, .int yty, .int yat, .int yst, .int yso, .int yva, .ref ni, .ref re, .int ab', .int bl', .int is', .int ra', .ref ma, .ref be]), (nw, aI g 41 gn), (ni, aI g 8 nf'), (re, aI g 8 ref'), (ma, aZ g 9 mf), (be, aI g 9 bm')])) (F0 mm 65 ls []) := by
                intro N0
                induction N0 with
                | zero => intro j y hN; exact absurd hN (Nat.not_lt_zero _)
                | succ N0 ih65 =>
                  intro j y hN hj hy1 hyj H locs ls S hl
                  refine lv_iload hx hb dX7_mostAlike_65 (lv_at hl 0 rfl) ?_
                  refine lv_aload_n hx hb dX7_mostAlike_67 rfl (lv_at hl 4 rfl) ?_
                  refine top_get C S inX7_mostAlike_X7 rfl 0 rfl 0 (by decide) (by decide +kernel) rfl rfl dX7_mostAlike_68 ?_
                  refine lv_iconst (v := 0) hx hb dX7_mostAlike_71 (by decide) ?_
                  refine top_ild C S 1 rfl (j := 0) rfl (by omega) (by decide) dX7_mostAlike_72 ?_
                  refine top_eq (y := nI n) hg0 ?_
                  refine bn_igt (tgt := 127) (a := j) (b := n) hx hb rfl rfl (by omega) (by omega) dX7_mostAlike_73 (by decide) (fun c_3 => ?_) (fun c_3 => ?_)
                  · -- 73 T
                    have hyf : y = if so k = true then cq so (fun s9 => cutS nu n ww s9 p) k (n + 1) else 0 := by rw [hy1, show j = n + 1 by omega]
                    refine lv_iload hx hb dX7_mostAlike_127 (lv_at hl 1 rfl) ?_
                    refine lv_iload_n hx hb dX7_mostAlike_129 rfl (lv_at hl 3 rfl) ?_
                    refine bn_ile (tgt := 138) (a := y) (b := x) hx hb rfl rfl (by omega) (by omega) dX7_mostAlike_130 (by decide) (fun c_4 => ?_) (fun c_4 => ?_)
                    · -- 130 T
                      refine lv_iload_n hx hb dX7_mostAlike_138 rfl (lv_at hl 3 rfl) ?_
                      refine lv_istore_n (lv' := [(2, .int (nI x)), (5, .int (nI j)), (4, .int (nI y)), (3, .int (nI k)), (0, .ref M), (1, .int (nI p))]) hx hb dX7_mostAlike_139 rfl hl (by decide) rfl (fun ls hl => ?_)
                      refine lv_iinc (v := nI (k + 1)) (lv' := [(3, .int (nI (k + 1))), (2, .int (nI x)), (5, .int (nI j)), (4, .int (nI y)), (0, .ref M), (1, .int (nI p))]) hx hb dX7_mostAlike_140 hl (k := 3) rfl (nI_add _ _) (by decide) rfl (fun ls hl => ?_)
                      refine lv_goto (tgt := 49) hx hb dX7_mostAlike_143 (by decide) ?_
                      exact ih49 (k + 1) x (by omega) (by first | assumption | omega) (by simp only [mlM]; rw [← hx1, ← show y = _ from hyf]; omega) H locs ls (ST.eq S (rfl)) (lv_sub hl [0, 1, 4, 5] (rfl))
                    · -- 130 F
                      refine lv_iload hx hb dX7_mostAlike_133 (lv_at hl 1 rfl) ?_
                      refine lv_goto (tgt := 139) hx hb dX7_mostAlike_135 (by decide) ?_
                      refine lv_istore_n (lv' := [(2, .int (nI y)), (5, .int (nI j)), (4, .int (nI y)), (3, .int (nI k)), (0, .ref M), (1, .int (nI p))]) hx hb dX7_mostAlike_139 rfl hl (by decide) rfl (fun ls hl => ?_)
                      refine lv_iinc (v := nI (k + 1)) (lv' := [(3, .int (nI (k + 1))), (2, .int (nI y)), (5, .int (nI j)), (4, .int (nI y)), (0, .ref M), (1, .int (nI p))]) hx hb dX7_mostAlike_140 hl (k := 3) rfl (nI_add _ _) (by decide) rfl (fun ls hl => ?_)
                      refine lv_goto (tgt := 49) hx hb dX7_mostAlike_143 (by decide) ?_
                      exact ih49 (k + 1) y (by omega) (by first | assumption | omega) (by simp only [mlM]; rw [← hx1, ← show y = _ from hyf]; omega) H locs ls (ST.eq S (rfl)) (lv_sub hl [0, 1, 4, 5] (rfl))
                  · -- 73 F
                    refine lv_iload hx hb dX7_mostAlike_76 (lv_at hl 1 rfl) ?_
                    refine lv_aload_n hx hb dX7_mostAlike_78 rfl (lv_at hl 4 rfl) ?_
                    refine top_get C S inX7_mostAlike_X7 rfl 0 rfl 21 (by decide) (by decide +kernel) rfl rfl dX7_mostAlike_79 ?_
                    refine lv_iload hx hb dX7_mostAlike_82 (lv_at hl 0 rfl) ?_
                    refine top_zld C S 4 rfl (j := j) rfl (by omega) (by decide) dX7_mostAlike_84 ?_
                    refine top_eq (y := bI (so j)) (hmf j (by omega)) ?_
                    refine br_eqB (tgt := 117) hx hb dX7_mostAlike_85 (by decide) (fun c_5 => ?_) (fun c_5 => ?_)
                    · -- 85 T
                      have hsj := c_5
                      refine lv_iconst (v := 0) hx hb dX7_mostAlike_117 (by decide) ?_
                      refine lv_iadd hx hb dX7_mostAlike_118 ?_
                      refine top_eq (y := nI (y + 0)) (nI_add _ _) ?_
                      refine lv_istore (lv' := [(4, .int (nI (y + 0))), (5, .int (nI j)), (3, .int (nI k)), (2, .int (nI x)), (0, .ref M), (1, .int (nI p))]) hx hb dX7_mostAlike_119 hl (by decide) rfl (fun ls hl => ?_)
                      refine lv_iinc (v := nI (j + 1)) (lv' := [(5, .int (nI (j + 1))), (4, .int (nI (y + 0))), (3, .int (nI k)), (2, .int (nI x)), (0, .ref M), (1, .int (nI p))]) hx hb dX7_mostAlike_121 hl (k := 1) rfl (nI_add _ _) (by decide) rfl (fun ls hl => ?_)
                      refine lv_goto (tgt := 65) hx hb dX7_mostAlike_124 (by decide) ?_
                      exact ih65 (j + 1) (y + 0) (by omega) (by first | assumption | omega) (by rw [hy1]; simp only [cq, if_neg (Bool.eq_false_iff.mp hsj), Nat.add_zero]) (by first | assumption | omega) H locs ls (ST.eq S (rfl)) (lv_sub hl [0, 1, 2, 3, 4, 5] (rfl))
                    · -- 85 F
                      have hsj := c_5
                      refine lv_aload_n hx hb dX7_mostAlike_88 rfl (lv_at hl 4 rfl) ?_
                      refine top_get C S inX7_mostAlike_X7 rfl 0 rfl 21 (by decide) (by decide +kernel) rfl rfl dX7_mostAlike_89 ?_
                      refine lv_iload_n hx hb dX7_mostAlike_92 rfl (lv_at hl 2 rfl) ?_
                      refine top_zld C S 4 rfl (j := k) rfl (by omega) (by decide) dX7_mostAlike_93 ?_
                      refine top_eq (y := bI (so k)) (hmf k (by omega)) ?_
                      refine br_eqB (tgt := 117) hx hb dX7_mostAlike_94 (by decide) (fun c_6 => ?_) (fun c_6 => ?_)
                      · -- 94 T
                        have hsk := c_6
                        refine lv_iconst (v := 0) hx hb dX7_mostAlike_117 (by decide) ?_
                        refine lv_iadd hx hb dX7_mostAlike_118 ?_
                        refine top_eq (y := nI (y + 0)) (nI_add _ _) ?_
                        refine lv_istore (lv' := [(4, .int (nI (y + 0))), (5, .int (nI j)), (3, .int (nI k)), (2, .int (nI x)), (0, .ref M), (1, .int (nI p))]) hx hb dX7_mostAlike_119 hl (by decide) rfl (fun ls hl => ?_)
                        refine lv_iinc (v := nI (j + 1)) (lv' := [(5, .int (nI (j + 1))), (4, .int (nI (y + 0))), (3, .int (nI k)), (2, .int (nI x)), (0, .ref M), (1, .int (nI p))]) hx hb dX7_mostAlike_121 hl (k := 1) rfl (nI_add _ _) (by decide) rfl (fun ls hl => ?_)
                        refine lv_goto (tgt := 65) hx hb dX7_mostAlike_124 (by decide) ?_
                        exact ih65 (j + 1) (y + 0) (by omega) (by first | assumption | omega) (by rw [hy1, if_neg (Bool.eq_false_iff.mp hsk), if_neg (Bool.eq_false_iff.mp hsk)]) (by first | assumption | omega) H locs ls (ST.eq S (rfl)) (lv_sub hl [0, 1, 2, 3, 4, 5] (rfl))
                      · -- 94 F
                        have hsk := c_6
                        refine lv_aload_n hx hb dX7_mostAlike_97 rfl (lv_at hl 4 rfl) ?_
                        refine top_get C S inX7_mostAlike_X7 rfl 0 rfl 22 (by decide) (by decide +kernel) rfl rfl dX7_mostAlike_98 ?_
                        refine lv_iload hx hb dX7_mostAlike_101 (lv_at hl 0 rfl) ?_
                        refine top_ild C S 5 rfl (j := j) rfl (by omega) (by decide) dX7_mostAlike_103 ?_
                        refine lv_aload_n hx hb dX7_mostAlike_104 rfl (lv_at hl 4 rfl) ?_
                        refine top_get C S inX7_mostAlike_X7 rfl 0 rfl 22 (by decide) (by decide +kernel) rfl rfl dX7_mostAlike_105 ?_
                        refine lv_iload_n hx hb dX7_mostAlike_108 rfl (lv_at hl 2 rfl) ?_
                        refine top_ild C S 5 rfl (j := k) rfl (by omega) (by decide) dX7_mostAlike_109 ?_
                        refine lv_icmp_ne (tgt := 117) hx hb dX7_mostAlike_110 (by decide) (fun c_7 => ?_) (fun c_7 => ?_)
                        · -- 110 T
                          have hcc : ¬ cutS nu n ww j p = cutS nu n ww k p := by rw [hb2 j (by omega) hsj, hb2 k (by omega) hsk] at c_7; exact c_7
                          refine lv_iconst (v := 0) hx hb dX7_mostAlike_117 (by decide) ?_
                          refine lv_iadd hx hb dX7_mostAlike_118 ?_
                          refine top_eq (y := nI (y + 0)) (nI_add _ _) ?_
                          refine lv_istore (lv' := [(4, .int (nI (y + 0))), (5, .int (nI j)), (3, .int (nI k)), (2, .int (nI x)), (0, .ref M), (1, .int (nI p))]) hx hb dX7_mostAlike_119 hl (by decide) rfl (fun ls hl => ?_)
                          refine lv_iinc (v := nI (j + 1)) (lv' := [(5, .int (nI (j + 1))), (4, .int (nI (y + 0))), (3, .int (nI k)), (2, .int (nI x)), (0, .ref M), (1, .int (nI p))]) hx hb dX7_mostAlike_121 hl (k := 1) rfl (nI_add _ _) (by decide) rfl (fun ls hl => ?_)
                          refine lv_goto (tgt := 65) hx hb dX7_mostAlike_124 (by decide) ?_
                          exact ih65 (j + 1) (y + 0) (by omega) (by first | assumption | omega) (by rw [hy1, if_pos hsk, if_pos hsk]; simp only [cq, if_pos hsj, if_neg hcc, Nat.add_zero]) (by first | assumption | omega) H locs ls (ST.eq S (rfl)) (lv_sub hl [0, 1, 2, 3, 4, 5] (rfl))
                        · -- 110 F
                          have hcc : cutS nu n ww j p = cutS nu n ww k p := by rw [hb2 j (by omega) hsj, hb2 k (by omega) hsk] at c_7; exact c_7
                          refine lv_iconst (v := 1) hx hb dX7_mostAlike_113 (by decide) ?_
                          refine lv_goto (tgt := 118) hx hb dX7_mostAlike_114 (by decide) ?_
                          refine lv_iadd hx hb dX7_mostAlike_118 ?_
                          refine top_eq (y := nI (y + 1)) (nI_add _ _) ?_
                          refine lv_istore (lv' := [(4, .int (nI (y + 1))), (5, .int (nI j)), (3, .int (nI k)), (2, .int (nI x)), (0, .ref M), (1, .int (nI p))]) hx hb dX7_mostAlike_119 hl (by decide) rfl (fun ls hl => ?_)
                          refine lv_iinc (v := nI (j + 1)) (lv' := [(5, .int (nI (j + 1))), (4, .int (nI (y + 1))), (3, .int (nI k)), (2, .int (nI x)), (0, .ref M), (1, .int (nI p))]) hx hb dX7_mostAlike_121 hl (k := 1) rfl (nI_add _ _) (by decide) rfl (fun ls hl => ?_)
                          refine lv_goto (tgt := 65) hx hb dX7_mostAlike_124 (by decide) ?_
                          exact ih65 (j + 1) (y + 1) (by omega) (by first | assumption | omega) (by rw [hy1, if_pos hsk, if_pos hsk]; simp only [cq, if_pos hsj, if_pos hcc]) (by first | assumption | omega) H locs ls (ST.eq S (rfl)) (lv_sub hl [0, 1, 2, 3, 4, 5] (rfl))
              exact loop65 _ 0 0 (Nat.lt_succ_self _) (by first | assumption | omega) (by split <;> rfl) (by first | assumption | omega) H locs ls (ST.eq S (rfl)) (lv_sub hl [0, 1, 2, 3, 4, 5] (rfl))
        exact loop49 _ 0 0 (Nat.lt_succ_self _) (by first | assumption | omega) (rfl) H locs ls (ST.eq S (rfl)) (lv_sub hl [0, 1, 2, 3] (rfl))
      · -- 9 F
        refine lv_aload_n hx hb dX7_mostAlike_12 rfl (lv_at hl 1 rfl) ?_
        refine top_get C S inX7_mostAlike_X7 rfl 0 rfl 22 (by decide) (by decide +kernel) rfl rfl dX7_mostAlike_13 ?_
        refine lv_iload_n hx hb dX7_mostAlike_16 rfl (lv_at hl 0 rfl) ?_
        refine lv_aload_n hx hb dX7_mostAlike_17 rfl (lv_at hl 1 rfl) ?_
        refine top_get C S inX7_mostAlike_X7 rfl 0 rfl 21 (by decide) (by decide +kernel) rfl rfl dX7_mostAlike_18 ?_
        refine lv_iload_n hx hb dX7_mostAlike_21 rfl (lv_at hl 0 rfl) ?_
        refine top_zld C S 4 rfl (j := k) rfl (by omega) (by decide) dX7_mostAlike_22 ?_
        refine top_eq (y := bI (so k)) (hmf k (by omega)) ?_
        refine br_eqB (tgt := 37) hx hb dX7_mostAlike_23 (by decide) (fun c_8 => ?_) (fun c_8 => ?_)
        · -- 23 T
          refine lv_iconst (v := (-1)) hx hb dX7_mostAlike_37 (by decide) ?_
          refine top_ist C S 5 rfl (j := k) rfl (by omega) (by decide) dX7_mostAlike_38 (fun H locs S => ?_)
          have S : ST g A ss H locs [(M, ob 7 [.ref nw, .ref dr, .ref pa, .int ypa, .ref im, .ref ke, .ref fl, .ref fq, .int yfa, .ref te, .int yty, .int yat, .int yst, .int yso, .int yva, .ref ni, .ref re, .int u1, .int u2, .int u3, .int u4, .ref ma, .ref be]), (nw, aI g 41 gn), (ni, aI g 8 n1), (re, aI g 8 r1), (ma, aZ g 9 mf), (be, aI g 9 (upd b1 k (-1)))] := S
          refine lv_iinc (v := nI (k + 1)) (lv' := [(2, .int (nI (k + 1))), (0, .ref M), (1, .int (nI p))]) hx hb dX7_mostAlike_39 hl (k := 0) rfl (nI_add _ _) (by decide) rfl (fun ls hl => ?_)
          refine lv_goto (tgt := 2) hx hb dX7_mostAlike_42 (by decide) ?_
          exact ih2 (k + 1) u1 u2 u3 u4 n1 r1 (upd b1 k (-1)) (by omega) (by first | assumption | omega) (fun t9 h9 b9 => by by_cases e9 : t9 = k; (subst e9; rw [c_8] at b9; cases b9); (rw [pk_un e9]; exact hb1 t9 (by omega) b9)) H locs ls (ST.eq S (rfl)) (lv_sub hl [0, 1, 2] (rfl))
        · -- 23 F
          rcases Nat.eq_zero_or_pos k with hk0 | hk0
          ·
            refine lv_aload_n hx hb dX7_mostAlike_26 rfl (lv_at hl 1 rfl) ?_
            refine lv_iload_n hx hb dX7_mostAlike_27 rfl (lv_at hl 0 rfl) ?_
            refine lv_iconst (v := 1) hx hb dX7_mostAlike_28 (by decide) ?_
            refine lv_isub hx hb dX7_mostAlike_29 ?_
            refine top_eq (y := (-1)) (by rw [hk0]; decide) ?_
            refine lv_iload_n hx hb dX7_mostAlike_30 rfl (lv_at hl 2 rfl) ?_
            refine after_I (wc := [(M, ob 7 [.ref nw, .ref dr, .ref pa, .int ypa, .ref im, .ref ke, .ref fl, .ref fq, .int yfa, .ref te, .int yty, .int yat, .int yst, .int yso, .int yva, .ref ni, .ref re, .int u1, .int u2, .int u3, .int u4, .ref ma, .ref be]), (nw, aI g 41 gn), (ni, aI g 8 n1), (re, aI g 8 r1)]) (y := yX7_bendWithout) C S (va_runV (As := [.int (-1), .int (nI p)]) (rest := [.int (nI k), .ref be]) C.1 (kX7_bendWithoutn l g M nw dr pa im ke fl fq te ni re ma be ypa yfa yty yat yst yso yva u1 u2 u3 u4 gn n ww nu n1 r1 p (by first | assumption | omega) (by first | assumption | omega) (by first | assumption | omega) (by first | assumption | omega) (by first | assumption | omega) (by first | assumption | omega) (by first | assumption | omega) (by first | assumption | omega) H.size) (cwV 2 hts gX7_mostAlike_X7_bendWithout rfl rfl rfl (by decide +kernel) ⟨Nat.le_of_ble_eq_true rfl, Nat.le_of_ble_eq_true rfl⟩) (preV_at C S 0 rfl rfl [0, 1, 2, 3] rfl (by decide)) rfl rfl hl.1 rfl (lv_room (Nat.le_of_ble_eq_true rfl)) dX7_mostAlike_31 ⟨Nat.le_of_ble_eq_true rfl, Nat.le_of_ble_eq_true rfl⟩) [0, 1, 2, 3] [4, 5] rfl (wr := [(ma, aZ g 9 mf), (be, aI g 9 b1)]) rfl (by decide) (by decide) (fun r0 w0 H locs hq S => ?_)
            obtain ⟨rfl, ab'_9, bl'_10, is'_11, ra'_12, nf'_13, ref'_14, rfl⟩ := hq
            have S : ST g A ss H locs [(M, ob 7 [.ref nw, .ref dr, .ref pa, .int ypa, .ref im, .ref ke, .ref fl, .ref fq, .int yfa, .ref te, .int yty, .int yat, .int yst, .int yso, .int yva, .ref ni, .ref re, .int ab'_9, .int bl'_10, .int is'_11, .int ra'_12, .ref ma, .ref be]), (nw, aI g 41 gn), (ni, aI g 8 nf'_13), (re, aI g 8 ref'_14), (ma, aZ g 9 mf), (be, aI g 9 b1)] := ST.sub S [2, 3, 4, 5, 0, 1] (by decide) rfl
            refine top_eq (y := cutS nu n ww k p) (by rw [hk0]) ?_
            refine lv_goto (tgt := 38) hx hb dX7_mostAlike_34 (by decide) ?_
            refine top_ist C S 5 rfl (j := k) rfl (by omega) (by decide) dX7_mostAlike_38 (fun H locs S => ?_)
            have S : ST g A ss H locs [(M, ob 7 [.ref nw, .ref dr, .ref pa, .int ypa, .ref im, .ref ke, .ref fl, .ref fq, .int yfa, .ref te, .int yty, .int yat, .int yst, .int yso, .int yva, .ref ni, .ref re, .int ab'_9, .int bl'_10, .int is'_11, .int ra'_12, .ref ma, .ref be]), (nw, aI g 41 gn), (ni, aI g 8 nf'_13), (re, aI g 8 ref'_14), (ma, aZ g 9 mf), (be, aI g 9 (upd b1 k (cutS nu n ww k p)))] := S
            refine lv_iinc (v := nI (k + 1)) (lv' := [(2, .int (nI (k + 1))), (0, .ref M), (1, .int (nI p))]) hx hb dX7_mostAlike_39 hl (k := 0) rfl (nI_add _ _) (by decide) rfl (fun ls hl => ?_)
            refine lv_goto (tgt := 2) hx hb dX7_mostAlike_42 (by decide) ?_
            exact ih2 (k + 1) ab'_9 bl'_10 is'_11 ra'_12 nf'_13 ref'_14 (upd b1 k (cutS nu n ww k p)) (by omega) (by first | assumption | omega) (fun t9 h9 b9 => by by_cases e9 : t9 = k; (subst e9; rw [pk_us]); (rw [pk_un e9]; exact hb1 t9 (by omega) b9)) H locs ls (ST.eq S (rfl)) (lv_sub hl [0, 1, 2] (rfl))
          ·
            refine lv_aload_n hx hb dX7_mostAlike_26 rfl (lv_at hl 1 rfl) ?_
            refine lv_iload_n hx hb dX7_mostAlike_27 rfl (lv_at hl 0 rfl) ?_
            refine lv_iconst (v := 1) hx hb dX7_mostAlike_28 (by decide) ?_
            refine lv_isub hx hb dX7_mostAlike_29 ?_
            refine top_eq (y := nI (k - 1)) (pk_sub (b := 1) (by omega)) ?_
            refine lv_iload_n hx hb dX7_mostAlike_30 rfl (lv_at hl 2 rfl) ?_
            refine after_I (wc := [(M, ob 7 [.ref nw, .ref dr, .ref pa, .int ypa, .ref im, .ref ke, .ref fl, .ref fq, .int yfa, .ref te, .int yty, .int yat, .int yst, .int yso, .int yva, .ref ni, .ref re, .int u1, .int u2, .int u3, .int u4, .ref ma, .ref be]), (nw, aI g 41 gn), (ni, aI g 8 n1), (re, aI g 8 r1)]) (y := yX7_bendWithout) C S (va_runV (As := [.int (nI (k - 1)), .int (nI p)]) (rest := [.int (nI k), .ref be]) C.1 (kX7_bendWithouty l g M nw dr pa im ke fl fq te ni re ma be ypa yfa yty yat yst yso yva u1 u2 u3 u4 gn n ww nu n1 r1 (k - 1) p (by first | assumption | omega) (by first | assumption | omega) (by first | assumption | omega) (by first | assumption | omega) (by first | assumption | omega) (by first | assumption | omega) (by first | assumption | omega) (by first | assumption | omega) (by first | assumption | omega) H.size) (cwV 2 hts gX7_mostAlike_X7_bendWithout rfl rfl rfl (by decide +kernel) ⟨Nat.le_of_ble_eq_true rfl, Nat.le_of_ble_eq_true rfl⟩) (preV_at C S 0 rfl rfl [0, 1, 2, 3] rfl (by decide)) rfl rfl hl.1 rfl (lv_room (Nat.le_of_ble_eq_true rfl)) dX7_mostAlike_31 ⟨Nat.le_of_ble_eq_true rfl, Nat.le_of_ble_eq_true rfl⟩) [0, 1, 2, 3] [4, 5] rfl (wr := [(ma, aZ g 9 mf), (be, aI g 9 b1)]) rfl (by decide) (by decide) (fun r0 w0 H locs hq S => ?_)
            obtain ⟨rfl, ab'_15, bl'_16, is'_17, ra'_18, nf'_19, ref'_20, rfl⟩ := hq
            have S : ST g A ss H locs [(M, ob 7 [.ref nw, .ref dr, .ref pa, .int ypa, .ref im, .ref ke, .ref fl, .ref fq, .int yfa, .ref te, .int yty, .int yat, .int yst, .int yso, .int yva, .ref ni, .ref re, .int ab'_15, .int bl'_16, .int is'_17, .int ra'_18, .ref ma, .ref be]), (nw, aI g 41 gn), (ni, aI g 8 nf'_19), (re, aI g 8 ref'_20), (ma, aZ g 9 mf), (be, aI g 9 b1)] := ST.sub S [2, 3, 4, 5, 0, 1] (by decide) rfl
            refine top_eq (y := cutS nu n ww k p) (by rw [show k - 1 + 1 = k by omega]) ?_
            refine lv_goto (tgt := 38) hx hb dX7_mostAlike_34 (by decide) ?_
            refine top_ist C S 5 rfl (j := k) rfl (by omega) (by decide) dX7_mostAlike_38 (fun H locs S => ?_)
            have S : ST g A ss H locs [(M, ob 7 [.ref nw, .ref dr, .ref pa, .int ypa, .ref im, .ref ke, .ref fl, .ref fq, .int yfa, .ref te, .int yty, .int yat, .int yst, .int yso, .int yva, .ref ni, .ref re, .int ab'_15, .int bl'_16, .int is'_17, .int ra'_18, .ref ma, .ref be]), (nw, aI g 41 gn), (ni, aI g 8 nf'_19), (re, aI g 8 ref'_20), (ma, aZ g 9 mf), (be, aI g 9 (upd b1 k (cutS nu n ww k p)))] := S
            refine lv_iinc (v := nI (k + 1)) (lv' := [(2, .int (nI (k + 1))), (0, .ref M), (1, .int (nI p))]) hx hb dX7_mostAlike_39 hl (k := 0) rfl (nI_add _ _) (by decide) rfl (fun ls hl => ?_)
            refine lv_goto (tgt := 2) hx hb dX7_mostAlike_42 (by decide) ?_
            exact ih2 (k + 1) ab'_15 bl'_16 is'_17 ra'_18 nf'_19 ref'_20 (upd b1 k (cutS nu n ww k p)) (by omega) (by first | assumption | omega) (fun t9 h9 b9 => by by_cases e9 : t9 = k; (subst e9; rw [pk_us]); (rw [pk_un e9]; exact hb1 t9 (by omega) b9)) H locs ls (ST.eq S (rfl)) (lv_sub hl [0, 1, 2] (rfl))
  exact loop2 _ 0 yab ybl yis yra nf ref bm (Nat.lt_succ_self _) (by first | assumption | omega) (fun t9 h9 => absurd h9 (Nat.not_lt_zero _)) H locs ls (ST.eq S (rfl)) (lv_sub hl [0, 1, 2] (rfl))
