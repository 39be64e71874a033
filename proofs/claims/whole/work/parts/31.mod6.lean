set_option maxRecDepth 100000 in
set_option maxHeartbeats 4000000 in
theorem kX7_least (l : Launch) (g : GG) (M : Nat) (nw : Nat) (dr : Nat) (pa : Nat) (im : Nat) (ke : Nat) (fl : Nat) (fq : Nat) (te : Nat) (ni : Nat) (re : Nat) (ma : Nat) (be : Nat) (ypa : Int32) (yfa : Int32) (yty : Int32) (yat : Int32) (yst : Int32) (yso : Int32) (yva : Int32) (yab : Int32) (ybl : Int32) (yis : Int32) (yra : Int32) (gn : Nat → Int32) (n : Nat) (ww : Nat) (nu : Nat → Nat → Nat) (nf : Nat → Int32) (ref : Nat → Int32) (x : Int32) (hn1 : 1 ≤ n) (hn : n ≤ 8) (hww : ww < 2 ^ n) (hg0 : gn 0 = nI n) (hgn : ∀ a i, a < 4 → i < n → gn (5 * i + (a + 1)) = nI (nu a i)) (hgw : ∀ i, i < n → gn (5 * i + 5) = nI (ww.testBit i).toNat) (hB : HB nu n) : KI l g yX7_least wsX7_least 5 115 [.ref M, .int x] [(M, ob 7 [.ref nw, .ref dr, .ref pa, .int ypa, .ref im, .ref ke, .ref fl, .ref fq, .int yfa, .ref te, .int yty, .int yat, .int yst, .int yso, .int yva, .ref ni, .ref re, .int yab, .int ybl, .int yis, .int yra, .ref ma, .ref be]), (nw, aI g 41 gn), (ni, aI g 8 nf), (re, aI g 8 ref)] (fun (r : Int32) (w' : va_W) => r = (chk1 (-1) 3 (leastA nu n ww) x) ∧ ∃ (ab' : Int32), ∃ (bl' : Int32), ∃ (is' : Int32), ∃ (ra' : Int32), ∃ (nf' : Nat → Int32), ∃ (ref' : Nat → Int32), w' = [(M, ob 7 [.ref nw, .ref dr, .ref pa, .int ypa, .ref im, .ref ke, .ref fl, .ref fq, .int yfa, .ref te, .int yty, .int yat, .int yst, .int yso, .int yva, .ref ni, .ref re, .int ab', .int bl', .int is', .int ra', .ref ma, .ref be]), (nw, aI g 41 gn), (ni, aI g 8 nf'), (re, aI g 8 ref')]) := by
  refine kI_of (cc := cX7_least) (maxL := 5) (by decide) rfl (Nat.le_of_ble_eq_true rfl) ?_
  intro pp ee ss mm bel mth cd A ls C S hr hl
  obtain ⟨hx, hb, hml, hown, hts⟩ := id C.1
  have hl : lv_has ls 5 [(0, .ref M), (1, .int x)] := hl
  obtain ⟨H, hH⟩ : ∃ H, H = ss.heap := ⟨_, rfl⟩
  obtain ⟨locs, hL0⟩ : ∃ L : List Loc, L = [] := ⟨_, rfl⟩
  rw [← hH, ← hL0] at S ⊢
  have hca : ∀ i, i < n → nu 2 i ≤ 30 := fun i9 h9 => (hB i9 h9).2.2.1
  have hSb : ∀ i, i < n → nu 1 i ≤ 9 := fun i9 h9 => (hB i9 h9).2.1.2
  have hTb : ∀ i, i < n → nu 3 i ≤ 99 := fun i9 h9 => (hB i9 h9).2.2.2.2
  have hRb : ∀ i, i < n → R0 nu i ≤ 240 := RC_le hn hca
  have hst : ∀ i, i < n → 1 ≤ nu 1 i ∧ nu 1 i ≤ 9 := fun i9 h9 => (hB i9 h9).2.1
  have w8 : ww < 256 := wlt hn hww
  have a8 : 2 ^ n - 1 < 256 := all_lt hn
  refine lv_iload_n hx hb dX7_least_0 rfl (lv_at hl 1 rfl) ?_
  refine lv_iconst (v := 0) hx hb dX7_least_1 (by decide) ?_
  refine lv_iconst (v := 2) hx hb dX7_least_2 (by decide) ?_
  refine after_I (wc := []) (y := yX7_in) C S (va_runS (As := [.int x, .int 0, .int 2]) (rest := []) C.1 (kX7_inz l g x 2 (by first | assumption | omega) H.size) (va_cwS 3 hts gX7_least_X7_in rfl rfl rfl (by decide +kernel) ⟨Nat.le_of_ble_eq_true rfl, Nat.le_of_ble_eq_true rfl⟩) (preS_at C S [] rfl (by decide)) rfl rfl hl.1 rfl (lv_room (Nat.le_of_ble_eq_true rfl)) dX7_least_3 ⟨Nat.le_of_ble_eq_true rfl, Nat.le_of_ble_eq_true rfl⟩) [] [0, 1, 2, 3] rfl (wr := [(M, ob 7 [.ref nw, .ref dr, .ref pa, .int ypa, .ref im, .ref ke, .ref fl, .ref fq, .int yfa, .ref te, .int yty, .int yat, .int yst, .int yso, .int yva, .ref ni, .ref re, .int yab, .int ybl, .int yis, .int yra, .ref ma, .ref be]), (nw, aI g 41 gn), (ni, aI g 8 nf), (re, aI g 8 ref)]) rfl (by decide) (by decide) (fun r0 w0 H locs hq S => ?_)
  obtain ⟨rfl, rfl⟩ := hq
  have S : ST g A ss H locs [(M, ob 7 [.ref nw, .ref dr, .ref pa, .int ypa, .ref im, .ref ke, .ref fl, .ref fq, .int yfa, .ref te, .int yty, .int yat, .int yst, .int yso, .int yva, .ref ni, .ref re, .int yab, .int ybl, .int yis, .int yra, .ref ma, .ref be]), (nw, aI g 41 gn), (ni, aI g 8 nf), (re, aI g 8 ref)] := S
  refine br_neB (tgt := 11) hx hb dX7_least_6 (by decide) (fun c_1 => ?_) (fun c_1 => ?_)
  · -- 6 T
    obtain ⟨w, hw, rfl⟩ := ok_ex (k := 3) (by omega) c_1
    refine lv_aload_n hx hb dX7_least_11 rfl (lv_at hl 0 rfl) ?_
    refine after_I (wc := [(M, ob 7 [.ref nw, .ref dr, .ref pa, .int ypa, .ref im, .ref ke, .ref fl, .ref fq, .int yfa, .ref te, .int yty, .int yat, .int yst, .int yso, .int yva, .ref ni, .ref re, .int yab, .int ybl, .int yis, .int yra, .ref ma, .ref be]), (nw, aI g 41 gn)]) (y := yX7_whole) C S (va_runV (As := []) (rest := []) C.1 (kX7_whole l g M nw dr pa im ke fl fq te ni re ma be ypa yfa yty yat yst yso yva yab ybl yis yra gn n ww (by first | assumption | omega) (by first | assumption | omega) (by first | assumption | omega) (by first | assumption | omega) H.size) (cwV 0 hts gX7_least_X7_whole rfl rfl rfl (by decide +kernel) ⟨Nat.le_of_ble_eq_true rfl, Nat.le_of_ble_eq_true rfl⟩) (preV_at C S 0 rfl rfl [0, 1] rfl (by decide)) rfl rfl hl.1 rfl (lv_room (Nat.le_of_ble_eq_true rfl)) dX7_least_12 ⟨Nat.le_of_ble_eq_true rfl, Nat.le_of_ble_eq_true rfl⟩) [0, 1] [2, 3] rfl (wr := [(ni, aI g 8 nf), (re, aI g 8 ref)]) rfl (by decide) (by decide) (fun r0 w0 H locs hq S => ?_)
    obtain ⟨rfl, rfl⟩ := hq
    have S : ST g A ss H locs [(M, ob 7 [.ref nw, .ref dr, .ref pa, .int ypa, .ref im, .ref ke, .ref fl, .ref fq, .int yfa, .ref te, .int yty, .int yat, .int yst, .int yso, .int yva, .ref ni, .ref re, .int yab, .int ybl, .int yis, .int yra, .ref ma, .ref be]), (nw, aI g 41 gn), (ni, aI g 8 nf), (re, aI g 8 ref)] := ST.sub S [2, 3, 0, 1] (by decide) rfl
    refine lv_istore_n (lv' := [(2, .int (nI ww)), (0, .ref M), (1, .int (nI w))]) hx hb dX7_least_15 rfl hl (by decide) rfl (fun ls hl => ?_)
    refine lv_iconst (v := 1) hx hb dX7_least_16 (by decide) ?_
    refine lv_istore_n (lv' := [(3, .int 1), (2, .int (nI ww)), (0, .ref M), (1, .int (nI w))]) hx hb dX7_least_17 rfl hl (by decide) rfl (fun ls hl => ?_)
    have loop18 : ∀ (N0 : Nat) (p : Nat) (u1 : Int32) (u2 : Int32) (u3 : Int32) (u4 : Int32) (n1 : Nat → Int32) (r1 : Nat → Int32), 1000 - p < N0 → (1 ≤ p) → (p ≤ 1000) → (∀ q9, 1 ≤ q9 → q9 < p → fb (nu 1) (R0 nu) (nu 3) n q9 ww = none) → ∀ (H : Heap) (locs : List Loc) (ls : Array Slot), ST g A ss H locs [(M, ob 7 [.ref nw, .ref dr, .ref pa, .int ypa, .ref im, .ref ke, .ref fl, .ref fq, .int yfa, .ref te, .int yty, .int yat, .int yst, .int yso, .int yva, .ref ni, .ref re, .int u1, .int u2, .int u3, .int u4, .ref ma, .ref be]), (nw, aI g 41 gn), (ni, aI g 8 n1), (re, aI g 8 r1)] → lv_has ls 5 [(3, .int (nI p)), (2, .int (nI ww)), (0, .ref M), (1, .int (nI w))] → W pp l ee { frames := 5, cells := 0, slots := 0, locals := 115 } ss mm ([.ref M, .int (nI w)] : List Value).toArray bel mth cd H locs 0 0 (QI bel ([.ref M, .int (nI w)] : List Value).toArray ss g A (fun (r : Int32) (w' : va_W) => r = (chk1 (-1) 3 (leastA nu n ww) (nI w)) ∧ ∃ (ab' : Int32), ∃ (bl' : Int32), ∃ (is' : Int32), ∃ (ra' : Int32), ∃ (nf' : Nat → Int32), ∃ (ref' : Nat → Int32), w' = [(M, ob 7 [.ref nw, .ref dr, .ref pa, .int ypa, .ref im, .ref ke, .ref fl, .ref fq, .int yfa, .ref te, .int yty, .int yat, .int yst, .int yso, .int yva, .ref ni, .ref re, .int ab', .int bl', .int is', .int ra', .ref ma, .ref be]), (nw, aI g 41 gn), (ni, aI g 8 nf'), (re, aI g 8 ref')])) (F0 mm 18 ls []) := by
      intro N0
      induction N0 with
      | zero => intro p u1 u2 u3 u4 n1 r1 hN; exact absurd hN (Nat.not_lt_zero _)
      | succ N0 ih18 =>
        intro p u1 u2 u3 u4 n1 r1 hN h1 h2 hno H locs ls S hl
        refine lv_iload_n hx hb dX7_least_18 rfl (lv_at hl 0 rfl) ?_
        refine lv_sipush (v := 999) hx hb dX7_least_19 (by decide) ?_
        refine bn_igt (tgt := 91) (a := p) (b := 999) hx hb rfl rfl (by omega) (by omega) dX7_least_22 (by decide) (fun c_2 => ?_) (fun c_2 => ?_)
        · -- 22 T
          have hL : LST nu n ww = 1000 := (lst_eq 999 1 1000 (by decide) (by decide) (fun q9 a9 b9 => hno q9 a9 (by omega)) (fun z9 => absurd z9 (by decide))).symm
          refine lv_bipush (v := (-9)) hx hb dX7_least_91 (by decide) ?_
          exact ret_I C S hr dX7_least_93 ⟨(Eq.trans (show _ = leastA nu n ww w by unfold leastA; rw [hL, if_neg (by decide)]) (chk1_ok (by omega) (by decide)).symm), u1, u2, u3, u4, n1, r1, (rfl)⟩
        · -- 22 F
          refine lv_iload_n hx hb dX7_least_25 rfl (lv_at hl 1 rfl) ?_
          refine bn_zeq (tgt := 91) (a := ww) hx hb rfl (by omega) dX7_least_26 (by decide) (fun c_3 => ?_) (fun c_3 => ?_)
          · -- 26 T
            have hL : LST nu n ww = 1000 := (lst_eq 999 1 1000 (by decide) (by decide) (fun q9 a9 b9 => by show fb (nu 1) (R0 nu) (nu 3) n q9 ww = none; rw [c_3]; exact fb_b0 (by omega)) (fun z9 => absurd z9 (by decide))).symm
            refine lv_bipush (v := (-9)) hx hb dX7_least_91 (by decide) ?_
            exact ret_I C S hr dX7_least_93 ⟨(Eq.trans (show _ = leastA nu n ww w by unfold leastA; rw [hL, if_neg (by decide)]) (chk1_ok (by omega) (by decide)).symm), u1, u2, u3, u4, n1, r1, (rfl)⟩
          · -- 26 F
            have hpos : 0 < lowN (nu 1) (R0 nu) ww p n := (bent (fun i9 h9 => (hst i9 h9).1) hww).mpr (Or.inr c_3)
            refine lv_aload_n hx hb dX7_least_29 rfl (lv_at hl 2 rfl) ?_
            refine lv_aload_n hx hb dX7_least_30 rfl (lv_at hl 2 rfl) ?_
            refine after_I (wc := [(M, ob 7 [.ref nw, .ref dr, .ref pa, .int ypa, .ref im, .ref ke, .ref fl, .ref fq, .int yfa, .ref te, .int yty, .int yat, .int yst, .int yso, .int yva, .ref ni, .ref re, .int u1, .int u2, .int u3, .int u4, .ref ma, .ref be]), (nw, aI g 41 gn)]) (y := yX7_all) C S (va_runV (As := []) (rest := [.ref M]) C.1 (kX7_all l g M nw dr pa im ke fl fq te ni re ma be ypa yfa yty yat yst yso yva u1 u2 u3 u4 gn n (by first | assumption | omega) (by first | assumption | omega) H.size) (cwV 0 hts gX7_least_X7_all rfl rfl rfl (by decide +kernel) ⟨Nat.le_of_ble_eq_true rfl, Nat.le_of_ble_eq_true rfl⟩) (preV_at C S 0 rfl rfl [0, 1] rfl (by decide)) rfl rfl hl.1 rfl (lv_room (Nat.le_of_ble_eq_true rfl)) dX7_least_31 ⟨Nat.le_of_ble_eq_true rfl, Nat.le_of_ble_eq_true rfl⟩) [0, 1] [2, 3] rfl (wr := [(ni, aI g 8 n1), (re, aI g 8 r1)]) rfl (by decide) (by decide) (fun r0 w0 H locs hq S => ?_)
            obtain ⟨rfl, rfl⟩ := hq
            have S : ST g A ss H locs [(M, ob 7 [.ref nw, .ref dr, .ref pa, .int ypa, .ref im, .ref ke, .ref fl, .ref fq, .int yfa, .ref te, .int yty, .int yat, .int yst, .int yso, .int yva, .ref ni, .ref re, .int u1, .int u2, .int u3, .int u4, .ref ma, .ref be]), (nw, aI g 41 gn), (ni, aI g 8 n1), (re, aI g 8 r1)] := ST.sub S [2, 3, 0, 1] (by decide) rfl
            refine lv_iload_n hx hb dX7_least_34 rfl (lv_at hl 1 rfl) ?_
            refine lv_iload_n hx hb dX7_least_35 rfl (lv_at hl 0 rfl) ?_
            refine after_V (wc := [(M, ob 7 [.ref nw, .ref dr, .ref pa, .int ypa, .ref im, .ref ke, .ref fl, .ref fq, .int yfa, .ref te, .int yty, .int yat, .int yst, .int yso, .int yva, .ref ni, .ref re, .int u1, .int u2, .int u3, .int u4, .ref ma, .ref be]), (nw, aI g 41 gn), (ni, aI g 8 n1), (re, aI g 8 r1)]) (y := yX7_bends) C S (va_runV (As := [.int (nI (2 ^ n - 1)), .int (nI ww), .int (nI p)]) (rest := []) C.1 (kX7_bends l g M nw dr pa im ke fl fq te ni re ma be ypa yfa yty yat yst yso yva u1 u2 u3 u4 gn n nu n1 r1 (R0 nu) (2 ^ n - 1) ww p (by first | assumption | omega) (by first | assumption | omega) (by first | assumption | omega) (by first | assumption | omega) (by first | assumption | omega) (by omega) hww (fun j9 h9 _ => all_tb h9) (fun j9 h9 _ => RC_all hn h9) (by first | assumption | omega) (by omega) H.size) (cwV 3 hts gX7_least_X7_bends rfl rfl rfl (by decide +kernel) ⟨Nat.le_of_ble_eq_true rfl, Nat.le_of_ble_eq_true rfl⟩) (preV_at C S 0 rfl rfl [0, 1, 2, 3] rfl (by decide)) rfl rfl hl.1 rfl (lv_room (Nat.le_of_ble_eq_true rfl)) dX7_least_36 ⟨Nat.le_of_ble_eq_true rfl, Nat.le_of_ble_eq_true rfl⟩) [0, 1, 2, 3] [] rfl (wr := []) rfl (by decide) (by decide) (fun w0 H locs hq S => ?_)
            obtain ⟨nf1, ref1, hRe1, rfl⟩ := hq
            have S : ST g A ss H locs [(M, ob 7 [.ref nw, .ref dr, .ref pa, .int ypa, .ref im, .ref ke, .ref fl, .ref fq, .int yfa, .ref te, .int yty, .int yat, .int yst, .int yso, .int yva, .ref ni, .ref re, .int (nI (abN (nu 1) (R0 nu) ww p n)), .int (nI (beN (nu 1) (R0 nu) ww p n)), .int (bI (decide (0 < lowN (nu 1) (R0 nu) ww p n))), .int (nI ((pr (nu 1) (R0 nu) ww p n).1)), .ref ma, .ref be]), (nw, aI g 41 gn), (ni, aI g 8 nf1), (re, aI g 8 ref1)] := S
            rw [(ab_eq hpos).1, (ab_eq hpos).2] at S
            have S : ST g A ss H locs [(M, ob 7 [.ref nw, .ref dr, .ref pa, .int ypa, .ref im, .ref ke, .ref fl, .ref fq, .int yfa, .ref te, .int yty, .int yat, .int yst, .int yso, .int yva, .ref ni, .ref re, .int (nI (uppN (nu 1) (R0 nu) ww p n)), .int (nI (lowN (nu 1) (R0 nu) ww p n)), .int (bI (decide (0 < lowN (nu 1) (R0 nu) ww p n))), .int (nI ((pr (nu 1) (R0 nu) ww p n).1)), .ref ma, .ref be]), (nw, aI g 41 gn), (ni, aI g 8 nf1), (re, aI g 8 ref1)] := S
            have eU : uppN (nu 1) (R0 nu) ww p n ≤ 20000 := upp_le hn (by omega) hSb hRb
            have eL : lowN (nu 1) (R0 nu) ww p n ≤ 72 := low_le hn hSb hRb
            refine lv_aload_n hx hb dX7_least_39 rfl (lv_at hl 2 rfl) ?_
            refine lv_iload_n hx hb dX7_least_40 rfl (lv_at hl 1 rfl) ?_
            refine after_I (wc := [(M, ob 7 [.ref nw, .ref dr, .ref pa, .int ypa, .ref im, .ref ke, .ref fl, .ref fq, .int yfa, .ref te, .int yty, .int yat, .int yst, .int yso, .int yva, .ref ni, .ref re, .int (nI (uppN (nu 1) (R0 nu) ww p n)), .int (nI (lowN (nu 1) (R0 nu) ww p n)), .int (bI (decide (0 < lowN (nu 1) (R0 nu) ww p n))), .int (nI ((pr (nu 1) (R0 nu) ww p n).1)), .ref ma, .ref be]), (nw, aI g 41 gn), (re, aI g 8 ref1)]) (y := yX7_breaking) C S (va_runV (As := [.int (nI ww)]) (rest := []) C.1 (kX7_breaking l g M nw dr pa im ke fl fq te ni re ma be ypa yfa yty yat yst yso yva (bI (decide (0 < lowN (nu 1) (R0 nu) ww p n))) (nI ((pr (nu 1) (R0 nu) ww p n).1)) gn n nu ref1 (uppN (nu 1) (R0 nu) ww p n) (lowN (nu 1) (R0 nu) ww p n) (R0 nu) ww (by first | assumption | omega) (by first | assumption | omega) (by first | assumption | omega) eU eL (by omega) (fun j9 h9 _ => hRe1 j9 h9 (all_tb h9)) (by first | assumption | omega) (by first | assumption | omega) (by first | assumption | omega) H.size) (cwV 1 hts gX7_least_X7_breaking rfl rfl rfl (by decide +kernel) ⟨Nat.le_of_ble_eq_true rfl, Nat.le_of_ble_eq_true rfl⟩) (preV_at C S 0 rfl rfl [0, 1, 3] rfl (by decide)) rfl rfl hl.1 rfl (lv_room (Nat.le_of_ble_eq_true rfl)) dX7_least_41 ⟨Nat.le_of_ble_eq_true rfl, Nat.le_of_ble_eq_true rfl⟩) [0, 1, 3] [2] rfl (wr := [(ni, aI g 8 nf1)]) rfl (by decide) (by decide) (fun r0 w0 H locs hq S => ?_)
            obtain ⟨rfl, rfl⟩ := hq
            have S : ST g A ss H locs [(M, ob 7 [.ref nw, .ref dr, .ref pa, .int ypa, .ref im, .ref ke, .ref fl, .ref fq, .int yfa, .ref te, .int yty, .int yat, .int yst, .int yso, .int yva, .ref ni, .ref re, .int (nI (uppN (nu 1) (R0 nu) ww p n)), .int (nI (lowN (nu 1) (R0 nu) ww p n)), .int (bI (decide (0 < lowN (nu 1) (R0 nu) ww p n))), .int (nI ((pr (nu 1) (R0 nu) ww p n).1)), .ref ma, .ref be]), (nw, aI g 41 gn), (ni, aI g 8 nf1), (re, aI g 8 ref1)] := ST.sub S [1, 2, 0, 3] (by decide) rfl
            refine top_eq (y := o9 (fb (nu 1) (R0 nu) (nu 3) n p ww)) (by unfold fb; rw [if_pos hpos]) ?_
            refine lv_istore (lv' := [(4, .int (o9 (fb (nu 1) (R0 nu) (nu 3) n p ww))), (3, .int (nI p)), (2, .int (nI ww)), (0, .ref M), (1, .int (nI w))]) hx hb dX7_least_44 hl (by decide) rfl (fun ls hl => ?_)
            cases hfb : fb (nu 1) (R0 nu) (nu 3) n p ww with
            | none =>
              rw [hfb] at hl
              have hl : lv_has ls 5 [(4, .int (-9)), (3, .int (nI p)), (2, .int (nI ww)), (0, .ref M), (1, .int (nI w))] := hl
              refine lv_iload hx hb dX7_least_46 (lv_at hl 0 rfl) ?_
              refine lv_bipush (v := (-9)) hx hb dX7_least_48 (by decide) ?_
              refine lv_icmp_eq (tgt := 85) hx hb dX7_least_50 (by decide) (fun c_4 => ?_) (fun c_4 => ?_)
              · -- 50 T
                refine lv_iinc (v := nI (p + 1)) (lv' := [(3, .int (nI (p + 1))), (4, .int (-9)), (2, .int (nI ww)), (0, .ref M), (1, .int (nI w))]) hx hb dX7_least_85 hl (k := 1) rfl (nI_add _ _) (by decide) rfl (fun ls hl => ?_)
                refine lv_goto (tgt := 18) hx hb dX7_least_88 (by decide) ?_
                exact ih18 (p + 1) (nI (uppN (nu 1) (R0 nu) ww p n)) (nI (lowN (nu 1) (R0 nu) ww p n)) (bI (decide (0 < lowN (nu 1) (R0 nu) ww p n))) (nI ((pr (nu 1) (R0 nu) ww p n).1)) nf1 ref1 (by omega) (by first | assumption | omega) (by first | assumption | omega) (fun q9 a9 b9 => by rcases (show q9 < p ∨ q9 = p by omega) with z9 | rfl; exact hno q9 a9 z9; exact hfb) H locs ls (ST.eq S (rfl)) (lv_sub hl [0, 2, 3, 4] (rfl))
              · -- 50 F
                exact absurd rfl c_4
            | some j =>
              rw [hfb] at hl
              have hl : lv_has ls 5 [(4, .int (nI j)), (3, .int (nI p)), (2, .int (nI ww)), (0, .ref M), (1, .int (nI w))] := hl
              have hjn := fb_lt hfb
              refine lv_iload hx hb dX7_least_46 (lv_at hl 0 rfl) ?_
              refine lv_bipush (v := (-9)) hx hb dX7_least_48 (by decide) ?_
              refine lv_icmp_eq (tgt := 85) hx hb dX7_least_50 (by decide) (fun c_5 => ?_) (fun c_5 => ?_)
              · -- 50 T
                exact absurd c_5 (nI_n9 (by omega))
              · -- 50 F
                have hL : LST nu n ww = p := (lst_eq 999 1 p (by omega) (by omega) (fun q9 a9 b9 => hno q9 a9 b9) (fun _ => by show fb (nu 1) (R0 nu) (nu 3) n p ww ≠ none; rw [hfb]; exact fun q9 => by cases q9)).symm
                refine lv_iload_n hx hb dX7_least_53 rfl (lv_at hl 4 rfl) ?_
                refine bn_zne (tgt := 61) (a := w) hx hb rfl (by omega) dX7_least_54 (by decide) (fun c_6 => ?_) (fun c_6 => ?_)
                · -- 54 T
                  refine lv_iload_n hx hb dX7_least_61 rfl (lv_at hl 4 rfl) ?_
                  refine lv_iconst (v := 1) hx hb dX7_least_62 (by decide) ?_
                  refine bn_ine (tgt := 71) (a := w) (b := 1) hx hb rfl rfl (by omega) (by omega) dX7_least_63 (by decide) (fun c_7 => ?_) (fun c_7 => ?_)
                  · -- 63 T
                    refine lv_iload_n hx hb dX7_least_71 rfl (lv_at hl 2 rfl) ?_
                    refine after_I (wc := []) (y := yX7_ones) C S (va_runS (As := [.int (nI ww)]) (rest := []) C.1 (kX7_ones l g ww (by first | assumption | omega) H.size) (va_cwS 1 hts gX7_least_X7_ones rfl rfl rfl (by decide +kernel) ⟨Nat.le_of_ble_eq_true rfl, Nat.le_of_ble_eq_true rfl⟩) (preS_at C S [] rfl (by decide)) rfl rfl hl.1 rfl (lv_room (Nat.le_of_ble_eq_true rfl)) dX7_least_72 ⟨Nat.le_of_ble_eq_true rfl, Nat.le_of_ble_eq_true rfl⟩) [] [0, 1, 2, 3] rfl (wr := [(M, ob 7 [.ref nw, .ref dr, .ref pa, .int ypa, .ref im, .ref ke, .ref fl, .ref fq, .int yfa, .ref te, .int yty, .int yat, .int yst, .int yso, .int yva, .ref ni, .ref re, .int (nI (uppN (nu 1) (R0 nu) ww p n)), .int (nI (lowN (nu 1) (R0 nu) ww p n)), .int (bI (decide (0 < lowN (nu 1) (R0 nu) ww p n))), .int (nI ((pr (nu 1) (R0 nu) ww p n).1)), .ref ma, .ref be]), (nw, aI g 41 gn), (ni, aI g 8 nf1), (re, aI g 8 ref1)]) rfl (by decide) (by decide) (fun r0 w0 H locs hq S => ?_)
                    obtain ⟨rfl, rfl⟩ := hq
                    have S : ST g A ss H locs [(M, ob 7 [.ref nw, .ref dr, .ref pa, .int ypa, .ref im, .ref ke, .ref fl, .ref fq, .int yfa, .ref te, .int yty, .int yat, .int yst, .int yso, .int yva, .ref ni, .ref re, .int (nI (uppN (nu 1) (R0 nu) ww p n)), .int (nI (lowN (nu 1) (R0 nu) ww p n)), .int (bI (decide (0 < lowN (nu 1) (R0 nu) ww p n))), .int (nI ((pr (nu 1) (R0 nu) ww p n).1)), .ref ma, .ref be]), (nw, aI g 41 gn), (ni, aI g 8 nf1), (re, aI g 8 ref1)] := S
                    refine lv_aload_n hx hb dX7_least_75 rfl (lv_at hl 3 rfl) ?_
                    refine lv_iload_n hx hb dX7_least_76 rfl (lv_at hl 1 rfl) ?_
                    refine after_I (wc := [(M, ob 7 [.ref nw, .ref dr, .ref pa, .int ypa, .ref im, .ref ke, .ref fl, .ref fq, .int yfa, .ref te, .int yty, .int yat, .int yst, .int yso, .int yva, .ref ni, .ref re, .int (nI (uppN (nu 1) (R0 nu) ww p n)), .int (nI (lowN (nu 1) (R0 nu) ww p n)), .int (bI (decide (0 < lowN (nu 1) (R0 nu) ww p n))), .int (nI ((pr (nu 1) (R0 nu) ww p n).1)), .ref ma, .ref be]), (nw, aI g 41 gn), (ni, aI g 8 nf1), (re, aI g 8 ref1)]) (y := yX7_wholeBehind) C S (va_runV (As := [.int (nI p)]) (rest := [.int (nI (pop ww))]) C.1 (kX7_wholeBehind l g M nw dr pa im ke fl fq te ni re ma be ypa yfa yty yat yst yso yva (nI (uppN (nu 1) (R0 nu) ww p n)) (nI (lowN (nu 1) (R0 nu) ww p n)) (bI (decide (0 < lowN (nu 1) (R0 nu) ww p n))) (nI ((pr (nu 1) (R0 nu) ww p n).1)) gn n ww nu nf1 ref1 p (by first | assumption | omega) (by first | assumption | omega) (by first | assumption | omega) (by first | assumption | omega) (by first | assumption | omega) (by first | assumption | omega) (by first | assumption | omega) (by omega) H.size) (cwV 1 hts gX7_least_X7_wholeBehind rfl rfl rfl (by decide +kernel) ⟨Nat.le_of_ble_eq_true rfl, Nat.le_of_ble_eq_true rfl⟩) (preV_at C S 0 rfl rfl [0, 1, 2, 3] rfl (by decide)) rfl rfl hl.1 rfl (lv_room (Nat.le_of_ble_eq_true rfl)) dX7_least_77 ⟨Nat.le_of_ble_eq_true rfl, Nat.le_of_ble_eq_true rfl⟩) [0, 1, 2, 3] [] rfl (wr := []) rfl (by decide) (by decide) (fun r0 w0 H locs hq S => ?_)
                    obtain ⟨rfl, ab'_8, bl'_9, is'_10, ra'_11, nf'_12, ref'_13, rfl⟩ := hq
                    have S : ST g A ss H locs [(M, ob 7 [.ref nw, .ref dr, .ref pa, .int ypa, .ref im, .ref ke, .ref fl, .ref fq, .int yfa, .ref te, .int yty, .int yat, .int yst, .int yso, .int yva, .ref ni, .ref re, .int ab'_8, .int bl'_9, .int is'_10, .int ra'_11, .ref ma, .ref be]), (nw, aI g 41 gn), (ni, aI g 8 nf'_12), (re, aI g 8 ref'_13)] := S
                    refine after_I (wc := []) (y := yX7_ones) C S (va_runS (As := [.int (nI (wa (fb (nu 1) (R0 nu) (nu 3) n p) 8 ww))]) (rest := [.int (nI (pop ww))]) C.1 (kX7_ones l g (wa (fb (nu 1) (R0 nu) (nu 3) n p) 8 ww) (wa_lt 8 ww w8) H.size) (va_cwS 1 hts gX7_least_X7_ones rfl rfl rfl (by decide +kernel) ⟨Nat.le_of_ble_eq_true rfl, Nat.le_of_ble_eq_true rfl⟩) (preS_at C S [] rfl (by decide)) rfl rfl hl.1 rfl (lv_room (Nat.le_of_ble_eq_true rfl)) dX7_least_80 ⟨Nat.le_of_ble_eq_true rfl, Nat.le_of_ble_eq_true rfl⟩) [] [0, 1, 2, 3] rfl (wr := [(M, ob 7 [.ref nw, .ref dr, .ref pa, .int ypa, .ref im, .ref ke, .ref fl, .ref fq, .int yfa, .ref te, .int yty, .int yat, .int yst, .int yso, .int yva, .ref ni, .ref re, .int ab'_8, .int bl'_9, .int is'_10, .int ra'_11, .ref ma, .ref be]), (nw, aI g 41 gn), (ni, aI g 8 nf'_12), (re, aI g 8 ref'_13)]) rfl (by decide) (by decide) (fun r0 w0 H locs hq S => ?_)
                    obtain ⟨rfl, rfl⟩ := hq
                    have S : ST g A ss H locs [(M, ob 7 [.ref nw, .ref dr, .ref pa, .int ypa, .ref im, .ref ke, .ref fl, .ref fq, .int yfa, .ref te, .int yty, .int yat, .int yst, .int yso, .int yva, .ref ni, .ref re, .int ab'_8, .int bl'_9, .int is'_10, .int ra'_11, .ref ma, .ref be]), (nw, aI g 41 gn), (ni, aI g 8 nf'_12), (re, aI g 8 ref'_13)] := S
                    refine lv_isub hx hb dX7_least_83 ?_
                    exact ret_I C S hr dX7_least_84 ⟨(Eq.trans (show _ = leastA nu n ww w by unfold leastA; rw [hL, if_pos (by omega), if_neg c_6, if_neg c_7]) (chk1_ok (by omega) (by decide)).symm), ab'_8, bl'_9, is'_10, ra'_11, nf'_12, ref'_13, (rfl)⟩
                  · -- 63 F
                    refine lv_iload hx hb dX7_least_66 (lv_at hl 0 rfl) ?_
                    refine lv_goto (tgt := 84) hx hb dX7_least_68 (by decide) ?_
                    exact ret_I C S hr dX7_least_84 ⟨(Eq.trans (show _ = leastA nu n ww w by unfold leastA; rw [hL, if_pos (by omega), if_neg c_6, if_pos c_7, show FB nu n p ww = some j from hfb] <;> rfl) (chk1_ok (by omega) (by decide)).symm), (nI (uppN (nu 1) (R0 nu) ww p n)), (nI (lowN (nu 1) (R0 nu) ww p n)), (bI (decide (0 < lowN (nu 1) (R0 nu) ww p n))), (nI ((pr (nu 1) (R0 nu) ww p n).1)), nf1, ref1, (rfl)⟩
                · -- 54 F
                  refine lv_iload_n hx hb dX7_least_57 rfl (lv_at hl 1 rfl) ?_
                  refine lv_goto (tgt := 84) hx hb dX7_least_58 (by decide) ?_
                  exact ret_I C S hr dX7_least_84 ⟨(Eq.trans (show _ = leastA nu n ww w by unfold leastA; rw [hL, if_pos (by omega), if_pos c_6]) (chk1_ok (by omega) (by decide)).symm), (nI (uppN (nu 1) (R0 nu) ww p n)), (nI (lowN (nu 1) (R0 nu) ww p n)), (bI (decide (0 < lowN (nu 1) (R0 nu) ww p n))), (nI ((pr (nu 1) (R0 nu) ww p n).1)), nf1, ref1, (rfl)⟩
    exact loop18 _ 1 yab ybl yis yra nf ref (Nat.lt_succ_self _) (by first | assumption | omega) (by first | assumption | omega) (fun q9 a9 b9 => by omega) H locs ls (ST.eq S (rfl)) (lv_sub hl [0, 1, 2, 3] (rfl))
  · -- 6 F
    refine lv_iconst (v := (-1)) hx hb dX7_least_9 (by decide) ?_
    exact ret_I C S hr dX7_least_10 ⟨((chk1_bad c_1).symm), yab, ybl, yis, yra, nf, ref, (rfl)⟩

theorem inX7_knee_X7 : ∀ w ∈ wsX70, w ∈ wsX7_knee := by decide +kernel
set_option maxRecDepth 100000 in
set_option maxHeartbeats 4000000 in
theorem kX7_knee (l : Launch) (g : GG) (M : Nat) (nw : Nat) (dr : Nat) (pa : Nat) (im : Nat) (ke : Nat) (fl : Nat) (fq : Nat) (te : Nat) (ni : Nat) (re : Nat) (ma : Nat) (be : Nat) (ypa : Int32) (yfa : Int32) (yty : Int32) (yat : Int32) (yst : Int32) (yso : Int32) (yva : Int32) (yab : Int32) (ybl : Int32) (yis : Int32) (yra : Int32) (gn : Nat → Int32) (n : Nat) (ww : Nat) (nu : Nat → Nat → Nat) (nf : Nat → Int32) (ref : Nat → Int32) (x : Int32) (hn1 : 1 ≤ n) (hn : n ≤ 8) (hww : ww < 2 ^ n) (hg0 : gn 0 = nI n) (hgn : ∀ a i, a < 4 → i < n → gn (5 * i + (a + 1)) = nI (nu a i)) (hgw : ∀ i, i < n → gn (5 * i + 5) = nI (ww.testBit i).toNat) (hB : HB nu n) : KI l g yX7_knee wsX7_knee 3 66 [.ref M, .int x] [(M, ob 7 [.ref nw, .ref dr, .ref pa, .int ypa, .ref im, .ref ke, .ref fl, .ref fq, .int yfa, .ref te, .int yty, .int yat, .int yst, .int yso, .int yva, .ref ni, .ref re, .int yab, .int ybl, .int yis, .int yra, .ref ma, .ref be]), (nw, aI g 41 gn), (ni, aI g 8 nf), (re, aI g 8 ref)] (fun (r : Int32) (w' : va_W) => r = (kneeS nu n ww x) ∧ ∃ (nf' : Nat → Int32), ∃ (ref' : Nat → Int32), w' = [(M, ob 7 [.ref nw, .ref dr, .ref pa, .int ypa, .ref im, .ref ke, .ref fl, .ref fq, .int yfa, .ref te, .int yty, .int yat, .int yst, .int yso, .int yva, .ref ni, .ref re, .int yab, .int ybl, .int yis, .int yra, .ref ma, .ref be]), (nw, aI g 41 gn), (ni, aI g 8 nf'), (re, aI g 8 ref')]) := by
  refine kI_of (cc := cX7_knee) (maxL := 7) (by decide) rfl (Nat.le_of_ble_eq_true rfl) ?_
  intro pp ee ss mm bel mth cd A ls C S hr hl
  obtain ⟨hx, hb, hml, hown, hts⟩ := id C.1
  have hl : lv_has ls 7 [(0, .ref M), (1, .int x)] := hl
  obtain ⟨H, hH⟩ : ∃ H, H = ss.heap := ⟨_, rfl⟩
  obtain ⟨locs, hL0⟩ : ∃ L : List Loc, L = [] := ⟨_, rfl⟩
  rw [← hH, ← hL0] at S ⊢
  have hca : ∀ i, i < n → nu 2 i ≤ 30 := fun i9 h9 => (hB i9 h9).2.2.1
  have hSb : ∀ i, i < n → nu 1 i ≤ 9 := fun i9 h9 => (hB i9 h9).2.1.2
  have hTb : ∀ i, i < n → nu 3 i ≤ 99 := fun i9 h9 => (hB i9 h9).2.2.2.2
  have hRb : ∀ i, i < n → R0 nu i ≤ 240 := RC_le hn hca
  have hst : ∀ i, i < n → 1 ≤ nu 1 i ∧ nu 1 i ≤ 9 := fun i9 h9 => (hB i9 h9).2.1
  have w8 : ww < 256 := wlt hn hww
  have a8 : 2 ^ n - 1 < 256 := all_lt hn
  refine lv_iload_n hx hb dX7_knee_0 rfl (lv_at hl 1 rfl) ?_
  refine lv_iconst (v := (-1)) hx hb dX7_knee_1 (by decide) ?_
  refine lv_icmp_ge (tgt := 7) hx hb dX7_knee_2 (by decide) (fun c_1 => ?_) (fun c_1 => ?_)
  · -- 2 T
    have hm1 := c_1
    refine lv_aload_n hx hb dX7_knee_7 rfl (lv_at hl 0 rfl) ?_
    refine lv_aload_n hx hb dX7_knee_8 rfl (lv_at hl 0 rfl) ?_
    refine after_I (wc := [(M, ob 7 [.ref nw, .ref dr, .ref pa, .int ypa, .ref im, .ref ke, .ref fl, .ref fq, .int yfa, .ref te, .int yty, .int yat, .int yst, .int yso, .int yva, .ref ni, .ref re, .int yab, .int ybl, .int yis, .int yra, .ref ma, .ref be]), (nw, aI g 41 gn)]) (y := yX7_all) C S (va_runV (As := []) (rest := [.ref M]) C.1 (kX7_all l g M nw dr pa im ke fl fq te ni re ma be ypa yfa yty yat yst yso yva yab ybl yis yra gn n (by first | assumption | omega) (by first | assumption | omega) H.size) (cwV 0 hts gX7_knee_X7_all rfl rfl rfl (by decide +kernel) ⟨Nat.le_of_ble_eq_true rfl, Nat.le_of_ble_eq_true rfl⟩) (preV_at C S 0 rfl rfl [0, 1] rfl (by decide)) rfl rfl hl.1 rfl (lv_room (Nat.le_of_ble_eq_true rfl)) dX7_knee_9 ⟨Nat.le_of_ble_eq_true rfl, Nat.le_of_ble_eq_true rfl⟩) [0, 1] [2, 3] rfl (wr := [(ni, aI g 8 nf), (re, aI g 8 ref)]) rfl (by decide) (by decide) (fun r0 w0 H locs hq S => ?_)
    obtain ⟨rfl, rfl⟩ := hq
    have S : ST g A ss H locs [(M, ob 7 [.ref nw, .ref dr, .ref pa, .int ypa, .ref im, .ref ke, .ref fl, .ref fq, .int yfa, .ref te, .int yty, .int yat, .int yst, .int yso, .int yva, .ref ni, .ref re, .int yab, .int ybl, .int yis, .int yra, .ref ma, .ref be]), (nw, aI g 41 gn), (ni, aI g 8 nf), (re, aI g 8 ref)] := ST.sub S [2, 3, 0, 1] (by decide) rfl
    refine after_V (wc := [(M, ob 7 [.ref nw, .ref dr, .ref pa, .int ypa, .ref im, .ref ke, .ref fl, .ref fq, .int yfa, .ref te, .int yty, .int yat, .int yst, .int yso, .int yva, .ref ni, .ref re, .int yab, .int ybl, .int yis, .int yra, .ref ma, .ref be]), (nw, aI g 41 gn), (ni, aI g 8 nf), (re, aI g 8 ref)]) (y := yX7_reaches) C S (va_runV (As := [.int (nI (2 ^ n - 1))]) (rest := []) C.1 (kX7_reaches l g M nw dr pa im ke fl fq te ni re ma be ypa yfa yty yat yst yso yva yab ybl yis yra gn n nu nf ref (2 ^ n - 1) (by first | assumption | omega) (by first | assumption | omega) (by first | assumption | omega) (by omega) (by first | assumption | omega) H.size) (cwV 1 hts gX7_knee_X7_reaches rfl rfl rfl (by decide +kernel) ⟨Nat.le_of_ble_eq_true rfl, Nat.le_of_ble_eq_true rfl⟩) (preV_at C S 0 rfl rfl [0, 1, 2, 3] rfl (by decide)) rfl rfl hl.1 rfl (lv_room (Nat.le_of_ble_eq_true rfl)) dX7_knee_12 ⟨Nat.le_of_ble_eq_true rfl, Nat.le_of_ble_eq_true rfl⟩) [0, 1, 2, 3] [] rfl (wr := []) rfl (by decide) (by decide) (fun w0 H locs hq S => ?_)
    obtain ⟨nf1, ref1, hRe1, hNi1, rfl⟩ := hq
    have S : ST g A ss H locs [(M, ob 7 [.ref nw, .ref dr, .ref pa, .int ypa, .ref im, .ref ke, .ref fl, .ref fq, .int yfa, .ref te, .int yty, .int yat, .int yst, .int yso, .int yva, .ref ni, .ref re, .int yab, .int ybl, .int yis, .int yra, .ref ma, .ref be]), (nw, aI g 41 gn), (ni, aI g 8 nf1), (re, aI g 8 ref1)] := S
    have hRe2 : ∀ j, j < n → ref1 j = nI (R0 nu j) := fun j9 h9 => by rw [hRe1 j9 h9 (all_tb h9), RC_all hn h9]
    refine lv_iconst (v := 0) hx hb dX7_knee_15 (by decide) ?_
    refine lv_istore_n (lv' := [(2, .int 0), (0, .ref M), (1, .int x)]) hx hb dX7_knee_16 rfl hl (by decide) rfl (fun ls hl => ?_)
    refine lv_bipush (v := (-9)) hx hb dX7_knee_17 (by decide) ?_
    refine lv_istore_n (lv' := [(3, .int (-9)), (2, .int 0), (0, .ref M), (1, .int x)]) hx hb dX7_knee_19 rfl hl (by decide) rfl (fun ls hl => ?_)
    refine lv_iconst (v := 0) hx hb dX7_knee_20 (by decide) ?_
    refine lv_istore (lv' := [(4, .int 0), (3, .int (-9)), (2, .int 0), (0, .ref M), (1, .int x)]) hx hb dX7_knee_21 hl (by decide) rfl (fun ls hl => ?_)
    refine lv_iconst (v := 0) hx hb dX7_knee_23 (by decide) ?_
    refine lv_istore (lv' := [(5, .int 0), (4, .int 0), (3, .int (-9)), (2, .int 0), (0, .ref M), (1, .int x)]) hx hb dX7_knee_24 hl (by decide) rfl (fun ls hl => ?_)
    have loop26 : ∀ (N0 : Nat) (i : Nat) (k0 : Nat) (l0 : Nat) (fd : Int32), n - i < N0 → (i ≤ n) → (kn (ldN nu n ww) i = (k0, l0)) → (¬ x = (-1) → fd = o9 (kth (ldN nu n ww) x.toNatClampNeg i)) → (l0 ≤ 20000) → ∀ (H : Heap) (locs : List Loc) (ls : Array Slot), ST g A ss H locs [(M, ob 7 [.ref nw, .ref dr, .ref pa, .int ypa, .ref im, .ref ke, .ref fl, .ref fq, .int yfa, .ref te, .int yty, .int yat, .int yst, .int yso, .int yva, .ref ni, .ref re, .int yab, .int ybl, .int yis, .int yra, .ref ma, .ref be]), (nw, aI g 41 gn), (ni, aI g 8 nf1), (re, aI g 8 ref1)] → lv_has ls 7 [(5, .int (nI i)), (4, .int (nI l0)), (3, .int fd), (2, .int (nI k0)), (0, .ref M), (1, .int x)] → W pp l ee { frames := 3, cells := 0, slots := 0, locals := 66 } ss mm ([.ref M, .int x] : List Value).toArray bel mth cd H locs 0 0 (QI bel ([.ref M, .int x] : List Value).toArray ss g A (fun (r : Int32) (w' : va_W) => r = (kneeS nu n ww x) ∧ ∃ (nf' : Nat → Int32), ∃ (ref' : Nat → Int32), w' = [(M, ob 7 [.ref nw, .ref dr, .ref pa, .int ypa, .ref im, .ref ke, .ref fl, .ref fq, .int yfa, .ref te, .int yty, .int yat, .int yst, .int yso, .int yva, .ref ni, .ref re, .int yab, .int ybl, .int yis, .int yra, .ref ma, .ref be]), (nw, aI g 41 gn), (ni, aI g 8 nf'), (re, aI g 8 ref')])) (F0 mm 26 ls []) := by
      intro N0
      induction N0 with
      | zero => intro i k0 l0 fd hN; exact absurd hN (Nat.not_lt_zero _)
      | succ N0 ih26 =>
        intro i k0 l0 fd hN hi hk0 hfd hl0 H locs ls S hl
        have hk9 : k0 ≤ i := by have := kn_le (ld := ldN nu n ww) i; rw [hk0] at this; exact this
        refine lv_iload hx hb dX7_knee_26 (lv_at hl 0 rfl) ?_
        refine lv_aload_n hx hb dX7_knee_28 rfl (lv_at hl 4 rfl) ?_
        refine top_get C S inX7_knee_X7 rfl 0 rfl 0 (by decide) (by decide +kernel) rfl rfl dX7_knee_29 ?_
        refine lv_iconst (v := 0) hx hb dX7_knee_32 (by decide) ?_
        refine top_ild C S 1 rfl (j := 0) rfl (by omega) (by decide) dX7_knee_33 ?_
        refine top_eq (y := nI n) hg0 ?_
        refine bn_ige (tgt := 95) (a := i) (b := n) hx hb rfl rfl (by omega) (by omega) dX7_knee_34 (by decide) (fun c_2 => ?_) (fun c_2 => ?_)
        · -- 34 T
          have hin : i = n := by omega
          rw [hin] at hk0 hfd
          refine lv_iload_n hx hb dX7_knee_95 rfl (lv_at hl 5 rfl) ?_
          refine lv_iconst (v := (-1)) hx hb dX7_knee_96 (by decide) ?_
          refine lv_icmp_ne (tgt := 104) hx hb dX7_knee_97 (by decide) (fun c_3 => ?_) (fun c_3 => ?_)
          · -- 97 T
            refine lv_iload_n hx hb dX7_knee_104 rfl (lv_at hl 2 rfl) ?_
            exact ret_I C S hr dX7_knee_105 ⟨(by rw [knee_o9 hm1 c_3]; exact hfd c_3), nf1, ref1, (rfl)⟩
          · -- 97 F
            refine lv_iload_n hx hb dX7_knee_100 rfl (lv_at hl 3 rfl) ?_
            refine lv_goto (tgt := 105) hx hb dX7_knee_101 (by decide) ?_
            exact ret_I C S hr dX7_knee_105 ⟨(by rw [c_3, knee_all, hk0]), nf1, ref1, (rfl)⟩
        · -- 34 F
          have hin : i < n := by omega
          refine lv_aload_n hx hb dX7_knee_37 rfl (lv_at hl 4 rfl) ?_
          refine lv_iload hx hb dX7_knee_38 (lv_at hl 0 rfl) ?_
          refine after_I (wc := [(M, ob 7 [.ref nw, .ref dr, .ref pa, .int ypa, .ref im, .ref ke, .ref fl, .ref fq, .int yfa, .ref te, .int yty, .int yat, .int yst, .int yso, .int yva, .ref ni, .ref re, .int yab, .int ybl, .int yis, .int yra, .ref ma, .ref be]), (nw, aI g 41 gn)]) (y := yX7_isWhole) C S (va_runV (As := [.int (nI i)]) (rest := []) C.1 (kX7_isWhole l g M nw dr pa im ke fl fq te ni re ma be ypa yfa yty yat yst yso yva yab ybl yis yra gn n ww i (by first | assumption | omega) (by first | assumption | omega) (by first | assumption | omega) (by first | assumption | omega) H.size) (cwV 1 hts gX7_knee_X7_isWhole rfl rfl rfl (by decide +kernel) ⟨Nat.le_of_ble_eq_true rfl, Nat.le_of_ble_eq_true rfl⟩) (preV_at C S 0 rfl rfl [0, 1] rfl (by decide)) rfl rfl hl.1 rfl (lv_room (Nat.le_of_ble_eq_true rfl)) dX7_knee_40 ⟨Nat.le_of_ble_eq_true rfl, Nat.le_of_ble_eq_true rfl⟩) [0, 1] [2, 3] rfl (wr := [(ni, aI g 8 nf1), (re, aI g 8 ref1)]) rfl (by decide) (by decide) (fun r0 w0 H locs hq S => ?_)
          obtain ⟨rfl, rfl⟩ := hq
          have S : ST g A ss H locs [(M, ob 7 [.ref nw, .ref dr, .ref pa, .int ypa, .ref im, .ref ke, .ref fl, .ref fq, .int yfa, .ref te, .int yty, .int yat, .int yst, .int yso, .int yva, .ref ni, .ref re, .int yab, .int ybl, .int yis, .int yra, .ref ma, .ref be]), (nw, aI g 41 gn), (ni, aI g 8 nf1), (re, aI g 8 ref1)] := ST.sub S [2, 3, 0, 1] (by decide) rfl
          refine br_eqB (tgt := 60) hx hb dX7_knee_43 (by decide) (fun c_4 => ?_) (fun c_4 => ?_)
          · -- 43 T
            refine lv_iconst (v := 0) hx hb dX7_knee_60 (by decide) ?_
            refine top_eq (y := nI (ldN nu n ww i)) (by rw [show ldN nu n ww i = 0 by simp only [ldN, if_neg (Bool.eq_false_iff.mp c_4)]]; rfl) ?_
            have hld : ldN nu n ww i ≤ 20000 := ld_le hn hSb hRb hin
            refine lv_istore (lv' := [(6, .int (nI (ldN nu n ww i))), (5, .int (nI i)), (4, .int (nI l0)), (3, .int fd), (2, .int (nI k0)), (0, .ref M), (1, .int x)]) hx hb dX7_knee_61 hl (by decide) rfl (fun ls hl => ?_)
            refine lv_iload hx hb dX7_knee_63 (lv_at hl 0 rfl) ?_
            refine lv_iload hx hb dX7_knee_65 (lv_at hl 2 rfl) ?_
            refine bn_ile (tgt := 89) (a := ldN nu n ww i) (b := l0) hx hb rfl rfl (by omega) (by omega) dX7_knee_67 (by decide) (fun c_5 => ?_) (fun c_5 => ?_)
            · -- 67 T
              refine lv_iinc (v := nI (i + 1)) (lv' := [(5, .int (nI (i + 1))), (6, .int (nI (ldN nu n ww i))), (4, .int (nI l0)), (3, .int fd), (2, .int (nI k0)), (0, .ref M), (1, .int x)]) hx hb dX7_knee_89 hl (k := 1) rfl (nI_add _ _) (by decide) rfl (fun ls hl => ?_)
              refine lv_goto (tgt := 26) hx hb dX7_knee_92 (by decide) ?_
              exact ih26 (i + 1) k0 l0 fd (by omega) (by first | assumption | omega) (by simp only [kn, hk0, if_pos c_5]) (fun h9 => by simp only [kth, hk0, if_pos c_5]; exact hfd h9) (by first | assumption | omega) H locs ls (ST.eq S (rfl)) (lv_sub hl [0, 2, 3, 4, 5, 6] (rfl))
            · -- 67 F
              refine lv_iload_n hx hb dX7_knee_70 rfl (lv_at hl 4 rfl) ?_
              refine lv_iload_n hx hb dX7_knee_71 rfl (lv_at hl 6 rfl) ?_
              refine lv_icmp_ne (tgt := 80) hx hb dX7_knee_72 (by decide) (fun c_6 => ?_) (fun c_6 => ?_)
              · -- 72 T
                refine lv_iload_n hx hb dX7_knee_80 rfl (lv_at hl 3 rfl) ?_
                refine lv_istore_n (lv' := [(3, .int fd), (6, .int (nI (ldN nu n ww i))), (5, .int (nI i)), (4, .int (nI l0)), (2, .int (nI k0)), (0, .ref M), (1, .int x)]) hx hb dX7_knee_81 rfl hl (by decide) rfl (fun ls hl => ?_)
                refine lv_iinc (v := nI (k0 + 1)) (lv' := [(2, .int (nI (k0 + 1))), (3, .int fd), (6, .int (nI (ldN nu n ww i))), (5, .int (nI i)), (4, .int (nI l0)), (0, .ref M), (1, .int x)]) hx hb dX7_knee_82 hl (k := 4) rfl (nI_add _ _) (by decide) rfl (fun ls hl => ?_)
                refine lv_iload hx hb dX7_knee_85 (lv_at hl 2 rfl) ?_
                refine lv_istore (lv' := [(4, .int (nI (ldN nu n ww i))), (2, .int (nI (k0 + 1))), (3, .int fd), (6, .int (nI (ldN nu n ww i))), (5, .int (nI i)), (0, .ref M), (1, .int x)]) hx hb dX7_knee_87 hl (by decide) rfl (fun ls hl => ?_)
                refine lv_iinc (v := nI (i + 1)) (lv' := [(5, .int (nI (i + 1))), (4, .int (nI (ldN nu n ww i))), (2, .int (nI (k0 + 1))), (3, .int fd), (6, .int (nI (ldN nu n ww i))), (0, .ref M), (1, .int x)]) hx hb dX7_knee_89 hl (k := 4) rfl (nI_add _ _) (by decide) rfl (fun ls hl => ?_)
                refine lv_goto (tgt := 26) hx hb dX7_knee_92 (by decide) ?_
                exact ih26 (i + 1) (k0 + 1) (ldN nu n ww i) fd (by omega) (by first | assumption | omega) (by simp only [kn, hk0, if_neg c_5]) (fun h9 => by simp only [kth, hk0, if_neg c_5, if_neg (fun q9 : k0 = x.toNatClampNeg => c_6 (by rw [q9]; exact (nm_clamp hm1 h9).symm))]; exact hfd h9) (by first | assumption | omega) H locs ls (ST.eq S (rfl)) (lv_sub hl [0, 1, 3, 2, 5, 6] (rfl))
              · -- 72 F
                refine lv_iload hx hb dX7_knee_75 (lv_at hl 0 rfl) ?_
                refine lv_goto (tgt := 81) hx hb dX7_knee_77 (by decide) ?_
                refine lv_istore_n (lv' := [(3, .int (nI (ldN nu n ww i))), (6, .int (nI (ldN nu n ww i))), (5, .int (nI i)), (4, .int (nI l0)), (2, .int (nI k0)), (0, .ref M), (1, .int x)]) hx hb dX7_knee_81 rfl hl (by decide) rfl (fun ls hl => ?_)
                refine lv_iinc (v := nI (k0 + 1)) (lv' := [(2, .int (nI (k0 + 1))), (3, .int (nI (ldN nu n ww i))), (6, .int (nI (ldN nu n ww i))), (5, .int (nI i)), (4, .int (nI l0)), (0, .ref M), (1, .int x)]) hx hb dX7_knee_82 hl (k := 4) rfl (nI_add _ _) (by decide) rfl (fun ls hl => ?_)
                refine lv_iload hx hb dX7_knee_85 (lv_at hl 2 rfl) ?_
                refine lv_istore (lv' := [(4, .int (nI (ldN nu n ww i))), (2, .int (nI (k0 + 1))), (3, .int (nI (ldN nu n ww i))), (6, .int (nI (ldN nu n ww i))), (5, .int (nI i)), (0, .ref M), (1, .int x)]) hx hb dX7_knee_87 hl (by decide) rfl (fun ls hl => ?_)
                refine lv_iinc (v := nI (i + 1)) (lv' := [(5, .int (nI (i + 1))), (4, .int (nI (ldN nu n ww i))), (2, .int (nI (k0 + 1))), (3, .int (nI (ldN nu n ww i))), (6, .int (nI (ldN nu n ww i))), (0, .ref M), (1, .int x)]) hx hb dX7_knee_89 hl (k := 4) rfl (nI_add _ _) (by decide) rfl (fun ls hl => ?_)
                refine lv_goto (tgt := 26) hx hb dX7_knee_92 (by decide) ?_
                exact ih26 (i + 1) (k0 + 1) (ldN nu n ww i) (nI (ldN nu n ww i)) (by omega) (by first | assumption | omega) (by simp only [kn, hk0, if_neg c_5]) (fun h9 => by simp only [kth, hk0, if_neg c_5, if_pos (show k0 = x.toNatClampNeg by rw [← c_6, nI_clamp (by omega)])] <;> rfl) (by first | assumption | omega) H locs ls (ST.eq S (rfl)) (lv_sub hl [0, 1, 3, 2, 5, 6] (rfl))
          · -- 43 F
            refine lv_aload_n hx hb dX7_knee_46 rfl (lv_at hl 4 rfl) ?_
            refine lv_aload_n hx hb dX7_knee_47 rfl (lv_at hl 4 rfl) ?_
            refine top_get C S inX7_knee_X7 rfl 0 rfl 16 (by decide) (by decide +kernel) rfl rfl dX7_knee_48 ?_
            refine lv_iload hx hb dX7_knee_51 (lv_at hl 0 rfl) ?_
            refine top_ild C S 3 rfl (j := i) rfl (by omega) (by decide) dX7_knee_53 ?_
            refine top_eq (y := nI (R0 nu i)) (hRe2 _ (by omega)) ?_
            refine after_I (wc := [(M, ob 7 [.ref nw, .ref dr, .ref pa, .int ypa, .ref im, .ref ke, .ref fl, .ref fq, .int yfa, .ref te, .int yty, .int yat, .int yst, .int yso, .int yva, .ref ni, .ref re, .int yab, .int ybl, .int yis, .int yra, .ref ma, .ref be]), (nw, aI g 41 gn), (re, aI g 8 ref1)]) (y := yX7_loadAt) C S (va_runV (As := [.int (nI (R0 nu i))]) (rest := []) C.1 (kX7_loadAt l g M nw dr pa im ke fl fq te ni re ma be ypa yfa yty yat yst yso yva yab ybl yis yra gn n ww nu ref1 (R0 nu i) (by first | assumption | omega) (by first | assumption | omega) (by first | assumption | omega) (by first | assumption | omega) (by first | assumption | omega) (by first | assumption | omega) (by first | assumption | omega) hRe2 (by first | assumption | omega) (hRb _ (by omega)) H.size) (cwV 1 hts gX7_knee_X7_loadAt rfl rfl rfl (by decide +kernel) ⟨Nat.le_of_ble_eq_true rfl, Nat.le_of_ble_eq_true rfl⟩) (preV_at C S 0 rfl rfl [0, 1, 3] rfl (by decide)) rfl rfl hl.1 rfl (lv_room (Nat.le_of_ble_eq_true rfl)) dX7_knee_54 ⟨Nat.le_of_ble_eq_true rfl, Nat.le_of_ble_eq_true rfl⟩) [0, 1, 3] [2] rfl (wr := [(ni, aI g 8 nf1)]) rfl (by decide) (by decide) (fun r0 w0 H locs hq S => ?_)
            obtain ⟨rfl, rfl⟩ := hq
            have S : ST g A ss H locs [(M, ob 7 [.ref nw, .ref dr, .ref pa, .int ypa, .ref im, .ref ke, .ref fl, .ref fq, .int yfa, .ref te, .int yty, .int yat, .int yst, .int yso, .int yva, .ref ni, .ref re, .int yab, .int ybl, .int yis, .int yra, .ref ma, .ref be]), (nw, aI g 41 gn), (ni, aI g 8 nf1), (re, aI g 8 ref1)] := ST.sub S [1, 2, 0, 3] (by decide) rfl
            refine lv_goto (tgt := 61) hx hb dX7_knee_57 (by decide) ?_
            refine top_eq (y := nI (ldN nu n ww i)) (by simp only [ldN, if_pos c_4]) ?_
            have hld : ldN nu n ww i ≤ 20000 := ld_le hn hSb hRb hin
            refine lv_istore (lv' := [(6, .int (nI (ldN nu n ww i))), (5, .int (nI i)), (4, .int (nI l0)), (3, .int fd), (2, .int (nI k0)), (0, .ref M), (1, .int x)]) hx hb dX7_knee_61 hl (by decide) rfl (fun ls hl => ?_)
            refine lv_iload hx hb dX7_knee_63 (lv_at hl 0 rfl) ?_
            refine lv_iload hx hb dX7_knee_65 (lv_at hl 2 rfl) ?_
            refine bn_ile (tgt := 89) (a := ldN nu n ww i) (b := l0) hx hb rfl rfl (by omega) (by omega) dX7_knee_67 (by decide) (fun c_7 => ?_) (fun c_7 => ?_)
            · -- 67 T
              refine lv_iinc (v := nI (i + 1)) (lv' := [(5, .int (nI (i + 1))), (6, .int (nI (ldN nu n ww i))), (4, .int (nI l0)), (3, .int fd), (2, .int (nI k0)), (0, .ref M), (1, .int x)]) hx hb dX7_knee_89 hl (k := 1) rfl (nI_add _ _) (by decide) rfl (fun ls hl => ?_)
              refine lv_goto (tgt := 26) hx hb dX7_knee_92 (by decide) ?_
              exact ih26 (i + 1) k0 l0 fd (by omega) (by first | assumption | omega) (by simp only [kn, hk0, if_pos c_7]) (fun h9 => by simp only [kth, hk0, if_pos c_7]; exact hfd h9) (by first | assumption | omega) H locs ls (ST.eq S (rfl)) (lv_sub hl [0, 2, 3, 4, 5, 6] (rfl))
            · -- 67 F
              refine lv_iload_n hx hb dX7_knee_70 rfl (lv_at hl 4 rfl) ?_
              refine lv_iload_n hx hb dX7_knee_71 rfl (lv_at hl 6 rfl) ?_
              refine lv_icmp_ne (tgt := 80) hx hb dX7_knee_72 (by decide) (fun c_8 => ?_) (fun c_8 => ?_)
              · -- 72 T
                refine lv_iload_n hx hb dX7_knee_80 rfl (lv_at hl 3 rfl) ?_
                refine lv_istore_n (lv' := [(3, .int fd), (6, .int (nI (ldN nu n ww i))), (5, .int (nI i)), (4, .int (nI l0)), (2, .int (nI k0)), (0, .ref M), (1, .int x)]) hx hb dX7_knee_81 rfl hl (by decide) rfl (fun ls hl => ?_)
                refine lv_iinc (v := nI (k0 + 1)) (lv' := [(2, .int (nI (k0 + 1))), (3, .int fd), (6, .int (nI (ldN nu n ww i))), (5, .int (nI i)), (4, .int (nI l0)), (0, .ref M), (1, .int x)]) hx hb dX7_knee_82 hl (k := 4) rfl (nI_add _ _) (by decide) rfl (fun ls hl => ?_)
                refine lv_iload hx hb dX7_knee_85 (lv_at hl 2 rfl) ?_
                refine lv_istore (lv' := [(4, .int (nI (ldN nu n ww i))), (2, .int (nI (k0 + 1))), (3, .int fd), (6, .int (nI (ldN nu n ww i))), (5, .int (nI i)), (0, .ref M), (1, .int x)]) hx hb dX7_knee_87 hl (by decide) rfl (fun ls hl => ?_)
                refine lv_iinc (v := nI (i + 1)) (lv' := [(5, .int (nI (i + 1))), (4, .int (nI (ldN nu n ww i))), (2, .int (nI (k0 + 1))), (3, .int fd), (6, .int (nI (ldN nu n ww i))), (0, .ref M), (1, .int x)]) hx hb dX7_knee_89 hl (k := 4) rfl (nI_add _ _) (by decide) rfl (fun ls hl => ?_)
                refine lv_goto (tgt := 26) hx hb dX7_knee_92 (by decide) ?_
                exact ih26 (i + 1) (k0 + 1) (ldN nu n ww i) fd (by omega) (by first | assumption | omega) (by simp only [kn, hk0, if_neg c_7]) (fun h9 => by simp only [kth, hk0, if_neg c_7, if_neg (fun q9 : k0 = x.toNatClampNeg => c_8 (by rw [q9]; exact (nm_clamp hm1 h9).symm))]; exact hfd h9) (by first | assumption | omega) H locs ls (ST.eq S (rfl)) (lv_sub hl [0, 1, 3, 2, 5, 6] (rfl))
              · -- 72 F
                refine lv_iload hx hb dX7_knee_75 (lv_at hl 0 rfl) ?_
                refine lv_goto (tgt := 81) hx hb dX7_knee_77 (by decide) ?_
                refine lv_istore_n (lv' := [(3, .int (nI (ldN nu n ww i))), (6, .int (nI (ldN nu n ww i))), (5, .int (nI i)), (4, .int (nI l0)), (2, .int (nI k0)), (0, .ref M), (1, .int x)]) hx hb dX7_knee_81 rfl hl (by decide) rfl (fun ls hl => ?_)
                refine lv_iinc (v := nI (k0 + 1)) (lv' := [(2, .int (nI (k0 + 1))), (3, .int (nI (ldN nu n ww i))), (6, .int (nI (ldN nu n ww i))), (5, .int (nI i)), (4, .int (nI l0)), (0, .ref M), (1, .int x)]) hx hb dX7_knee_82 hl (k := 4) rfl (nI_add _ _) (by decide) rfl (fun ls hl => ?_)
                refine lv_iload hx hb dX7_knee_85 (lv_at hl 2 rfl) ?_
                refine lv_istore (lv' := [(4, .int (nI (ldN nu n ww i))), (2, .int (nI (k0 + 1))), (3, .int (nI (ldN nu n ww i))), (6, .int (nI (ldN nu n ww i))), (5, .int (nI i)), (0, .ref M), (1, .int x)]) hx hb dX7_knee_87 hl (by decide) rfl (fun ls hl => ?_)
                refine lv_iinc (v := nI (i + 1)) (lv' := [(5, .int (nI (i + 1))), (4, .int (nI (ldN nu n ww i))), (2, .int (nI (k0 + 1))), (3, .int (nI (ldN nu n ww i))), (6, .int (nI (ldN nu n ww i))), (0, .ref M), (1, .int x)]) hx hb dX7_knee_89 hl (k := 4) rfl (nI_add _ _) (by decide) rfl (fun ls hl => ?_)
                refine lv_goto (tgt := 26) hx hb dX7_knee_92 (by decide) ?_
                exact ih26 (i + 1) (k0 + 1) (ldN nu n ww i) (nI (ldN nu n ww i)) (by omega) (by first | assumption | omega) (by simp only [kn, hk0, if_neg c_7]) (fun h9 => by simp only [kth, hk0, if_neg c_7, if_pos (show k0 = x.toNatClampNeg by rw [← c_8, nI_clamp (by omega)])] <;> rfl) (by first | assumption | omega) H locs ls (ST.eq S (rfl)) (lv_sub hl [0, 1, 3, 2, 5, 6] (rfl))
    exact loop26 _ 0 0 0 (-9) (Nat.lt_succ_self _) (by first | assumption | omega) (rfl) (fun _ => rfl) (by first | assumption | omega) H locs ls (ST.eq S (rfl)) (lv_sub hl [0, 1, 2, 3, 4, 5] (rfl))
  · -- 2 F
    refine lv_iconst (v := (-1)) hx hb dX7_knee_5 (by decide) ?_
    exact ret_I C S hr dX7_knee_6 ⟨((knee_bad c_1).symm), nf, ref, (rfl)⟩

theorem inX7_isChoice_X7 : ∀ w ∈ wsX70, w ∈ wsX7_isChoice := by decide +kernel
set_option maxRecDepth 100000 in
set_option maxHeartbeats 4000000 in
theorem kX7_isChoice (l : Launch) (g : GG) (M : Nat) (nw : Nat) (dr : Nat) (pa : Nat) (im : Nat) (ke : Nat) (fl : Nat) (fq : Nat) (te : Nat) (ni : Nat) (re : Nat) (ma : Nat) (be : Nat) (ypa : Int32) (yfa : Int32) (yty : Int32) (yat : Int32) (yst : Int32) (yso : Int32) (yva : Int32) (yab : Int32) (ybl : Int32) (yis : Int32) (yra : Int32) (gn : Nat → Int32) (n : Nat) (ww : Nat) (nu : Nat → Nat → Nat) (nf : Nat → Int32) (ref : Nat → Int32) (kk : Nat) (p : Nat) (d : Nat) (hn1 : 1 ≤ n) (hn : n ≤ 8) (hww : ww < 2 ^ n) (hg0 : gn 0 = nI n) (hgn : ∀ a i, a < 4 → i < n → gn (5 * i + (a + 1)) = nI (nu a i)) (hgw : ∀ i, i < n → gn (5 * i + 5) = nI (ww.testBit i).toNat) (hB : HB nu n) (hk : kk < 2 ^ n) (hk0 : kk ≠ 0) (hp : p ≤ 999) (hd : d ≤ 99) : KI l g yX7_isChoice wsX7_isChoice 4 91 [.ref M, .int (nI kk), .int (nI p), .int (nI d)] [(M, ob 7 [.ref nw, .ref dr, .ref pa, .int ypa, .ref im, .ref ke, .ref fl, .ref fq, .int yfa, .ref te, .int yty, .int yat, .int yst, .int yso, .int yva, .ref ni, .ref re, .int yab, .int ybl, .int yis, .int yra, .ref ma, .ref be]), (nw, aI g 41 gn), (ni, aI g 8 nf), (re, aI g 8 ref)] (fun (r : Int32) (w' : va_W) => r = (bI (okP nu n p d kk)) ∧ ∃ (ab' : Int32), ∃ (bl' : Int32), ∃ (is' : Int32), ∃ (ra' : Int32), ∃ (nf' : Nat → Int32), ∃ (ref' : Nat → Int32), w' = [(M, ob 7 [.ref nw, .ref dr, .ref pa, .int ypa, .ref im, .ref ke, .ref fl, .ref fq, .int yfa, .ref te, .int yty, .int yat, .int yst, .int yso, .int yva, .ref ni, .ref re, .int ab', .int bl', .int is', .int ra', .ref ma, .ref be]), (nw, aI g 41 gn), (ni, aI g 8 nf'), (re, aI g 8 ref')]) := by
  refine kI_of (cc := cX7_isChoice) (maxL := 4) (by decide) rfl (Nat.le_of_ble_eq_true rfl) ?_
  intro pp ee ss mm bel mth cd A ls C S hr hl
  obtain ⟨hx, hb, hml, hown, hts⟩ := id C.1
  have hl : lv_has ls 4 [(0, .ref M), (1, .int (nI kk)), (2, .int (nI p)), (3, .int (nI d))] := hl
  obtain ⟨H, hH⟩ : ∃ H, H = ss.heap := ⟨_, rfl⟩
  obtain ⟨locs, hL0⟩ : ∃ L : List Loc, L = [] := ⟨_, rfl⟩
  rw [← hH, ← hL0] at S ⊢
  have hca : ∀ i, i < n → nu 2 i ≤ 30 := fun i9 h9 => (hB i9 h9).2.2.1
  have hSb : ∀ i, i < n → nu 1 i ≤ 9 := fun i9 h9 => (hB i9 h9).2.1.2
  have hTb : ∀ i, i < n → nu 3 i ≤ 99 := fun i9 h9 => (hB i9 h9).2.2.2.2
  have hRb : ∀ i, i < n → R0 nu i ≤ 240 := RC_le hn hca
  have hst : ∀ i, i < n → 1 ≤ nu 1 i ∧ nu 1 i ≤ 9 := fun i9 h9 => (hB i9 h9).2.1
  have w8 : ww < 256 := wlt hn hww
  have a8 : 2 ^ n - 1 < 256 := all_lt hn
  have k8 : kk < 256 := wlt hn hk
  have hRk : ∀ i, i < n → RC (nu 2) kk i ≤ 240 := RC_le hn hca
  refine lv_aload_n hx hb dX7_isChoice_0 rfl (lv_at hl 0 rfl) ?_
  refine lv_iload_n hx hb dX7_isChoice_1 rfl (lv_at hl 1 rfl) ?_
  refine lv_iload_n hx hb dX7_isChoice_2 rfl (lv_at hl 1 rfl) ?_
  refine lv_iload_n hx hb dX7_isChoice_3 rfl (lv_at hl 2 rfl) ?_
  refine after_V (wc := [(M, ob 7 [.ref nw, .ref dr, .ref pa, .int ypa, .ref im, .ref ke, .ref fl, .ref fq, .int yfa, .ref te, .int yty, .int yat, .int yst, .int yso, .int yva, .ref ni, .ref re, .int yab, .int ybl, .int yis, .int yra, .ref ma, .ref be]), (nw, aI g 41 gn), (ni, aI g 8 nf), (re, aI g 8 ref)]) (y := yX7_bends) C S (va_runV (As := [.int (nI kk), .int (nI kk), .int (nI p)]) (rest := []) C.1 (kX7_bends l g M nw dr pa im ke fl fq te ni re ma be ypa yfa yty yat yst yso yva yab ybl yis yra gn n nu nf ref (RC (nu 2) kk) kk kk p (by first | assumption | omega) (by first | assumption | omega) (by first | assumption | omega) (by first | assumption | omega) (by first | assumption | omega) (by omega) hk (fun _ _ b9 => b9) (fun _ _ _ => rfl) hRk (by first | assumption | omega) H.size) (cwV 3 hts gX7_isChoice_X7_bends rfl rfl rfl (by decide +kernel) ⟨Nat.le_of_ble_eq_true rfl, Nat.le_of_ble_eq_true rfl⟩) (preV_at C S 0 rfl rfl [0, 1, 2, 3] rfl (by decide)) rfl rfl hl.1 rfl (lv_room (Nat.le_of_ble_eq_true rfl)) dX7_isChoice_4 ⟨Nat.le_of_ble_eq_true rfl, Nat.le_of_ble_eq_true rfl⟩) [0, 1, 2, 3] [] rfl (wr := []) rfl (by decide) (by decide) (fun w0 H locs hq S => ?_)
  obtain ⟨nf1, ref1, hRe1, rfl⟩ := hq
  have S : ST g A ss H locs [(M, ob 7 [.ref nw, .ref dr, .ref pa, .int ypa, .ref im, .ref ke, .ref fl, .ref fq, .int yfa, .ref te, .int yty, .int yat, .int yst, .int yso, .int yva, .ref ni, .ref re, .int (nI (abN (nu 1) (RC (nu 2) kk) kk p n)), .int (nI (beN (nu 1) (RC (nu 2) kk) kk p n)), .int (bI (decide (0 < lowN (nu 1) (RC (nu 2) kk) kk p n))), .int (nI ((pr (nu 1) (RC (nu 2) kk) kk p n).1)), .ref ma, .ref be]), (nw, aI g 41 gn), (ni, aI g 8 nf1), (re, aI g 8 ref1)] := S
  have hpos : 0 < lowN (nu 1) (RC (nu 2) kk) kk p n := (bent (fun i9 h9 => (hst i9 h9).1) hk).mpr (Or.inr hk0)
  rw [(ab_eq hpos).1, (ab_eq hpos).2] at S
  have S : ST g A ss H locs [(M, ob 7 [.ref nw, .ref dr, .ref pa, .int ypa, .ref im, .ref ke, .ref fl, .ref fq, .int yfa, .ref te, .int yty, .int yat, .int yst, .int yso, .int yva, .ref ni, .ref re, .int (nI (uppN (nu 1) (RC (nu 2) kk) kk p n)), .int (nI (lowN (nu 1) (RC (nu 2) kk) kk p n)), .int (bI (decide (0 < lowN (nu 1) (RC (nu 2) kk) kk p n))), .int (nI ((pr (nu 1) (RC (nu 2) kk) kk p n).1)), .ref ma, .ref be]), (nw, aI g 41 gn), (ni, aI g 8 nf1), (re, aI g 8 ref1)] := S
  have eU : uppN (nu 1) (RC (nu 2) kk) kk p n ≤ 20000 := upp_le hn (by omega) hSb hRk
  have eL : lowN (nu 1) (RC (nu 2) kk) kk p n ≤ 72 := low_le hn hSb hRk
  have e3 : d * lowN (nu 1) (RC (nu 2) kk) kk p n ≤ 99 * 72 := Nat.mul_le_mul hd eL
  refine lv_aload_n hx hb dX7_isChoice_7 rfl (lv_at hl 0 rfl) ?_
  refine lv_iload_n hx hb dX7_isChoice_8 rfl (lv_at hl 1 rfl) ?_
  refine after_I (wc := [(M, ob 7 [.ref nw, .ref dr, .ref pa, .int ypa, .ref im, .ref ke, .ref fl, .ref fq, .int yfa, .ref te, .int yty, .int yat, .int yst, .int yso, .int yva, .ref ni, .ref re, .int (nI (uppN (nu 1) (RC (nu 2) kk) kk p n)), .int (nI (lowN (nu 1) (RC (nu 2) kk) kk p n)), .int (bI (decide (0 < lowN (nu 1) (RC (nu 2) kk) kk p n))), .int (nI ((pr (nu 1) (RC (nu 2) kk) kk p n).1)), .ref ma, .ref be]), (nw, aI g 41 gn), (re, aI g 8 ref1)]) (y := yX7_breaking) C S (va_runV (As := [.int (nI kk)]) (rest := []) C.1 (kX7_breaking l g M nw dr pa im ke fl fq te ni re ma be ypa yfa yty yat yst yso yva (bI (decide (0 < lowN (nu 1) (RC (nu 2) kk) kk p n))) (nI ((pr (nu 1) (RC (nu 2) kk) kk p n).1)) gn n nu ref1 (uppN (nu 1) (RC (nu 2) kk) kk p n) (lowN (nu 1) (RC (nu 2) kk) kk p n) (RC (nu 2) kk) kk (by first | assumption | omega) (by first | assumption | omega) (by first | assumption | omega) eU eL (by omega) (fun j9 h9 b9 => hRe1 j9 h9 b9) hRk (by first | assumption | omega) (by first | assumption | omega) H.size) (cwV 1 hts gX7_isChoice_X7_breaking rfl rfl rfl (by decide +kernel) ⟨Nat.le_of_ble_eq_true rfl, Nat.le_of_ble_eq_true rfl⟩) (preV_at C S 0 rfl rfl [0, 1, 3] rfl (by decide)) rfl rfl hl.1 rfl (lv_room (Nat.le_of_ble_eq_true rfl)) dX7_isChoice_9 ⟨Nat.le_of_ble_eq_true rfl, Nat.le_of_ble_eq_true rfl⟩) [0, 1, 3] [2] rfl (wr := [(ni, aI g 8 nf1)]) rfl (by decide) (by decide) (fun r0 w0 H locs hq S => ?_)
  obtain ⟨rfl, rfl⟩ := hq
  have S : ST g A ss H locs [(M, ob 7 [.ref nw, .ref dr, .ref pa, .int ypa, .ref im, .ref ke, .ref fl, .ref fq, .int yfa, .ref te, .int yty, .int yat, .int yst, .int yso, .int yva, .ref ni, .ref re, .int (nI (uppN (nu 1) (RC (nu 2) kk) kk p n)), .int (nI (lowN (nu 1) (RC (nu 2) kk) kk p n)), .int (bI (decide (0 < lowN (nu 1) (RC (nu 2) kk) kk p n))), .int (nI ((pr (nu 1) (RC (nu 2) kk) kk p n).1)), .ref ma, .ref be]), (nw, aI g 41 gn), (ni, aI g 8 nf1), (re, aI g 8 ref1)] := ST.sub S [1, 2, 0, 3] (by decide) rfl
  refine top_eq (y := o9 (fb (nu 1) (RC (nu 2) kk) (nu 3) n p kk)) (by unfold fb; rw [if_pos hpos]) ?_
  refine lv_bipush (v := (-9)) hx hb dX7_isChoice_12 (by decide) ?_
  refine lv_icmp_ne (tgt := 34) hx hb dX7_isChoice_14 (by decide) (fun c_1 => ?_) (fun c_1 => ?_)
  · -- 14 T
    have hfn : fb (nu 1) (RC (nu 2) kk) (nu 3) n p kk ≠ none := fun q9 => c_1 (by rw [q9]; rfl)
    refine lv_iconst (v := 0) hx hb dX7_isChoice_34 (by decide) ?_
    exact ret_Z (okP nu n p d kk) C S hr dX7_isChoice_35 (by unfold okP bwN; rw [if_pos hpos, show (fb (nu 1) (RC (nu 2) kk) (nu 3) n p kk).isNone = false from isNone_f hfn]; split <;> rfl) ⟨(by unfold okP bwN; rw [if_pos hpos, show (fb (nu 1) (RC (nu 2) kk) (nu 3) n p kk).isNone = false from isNone_f hfn]; split <;> rfl), (nI (uppN (nu 1) (RC (nu 2) kk) kk p n)), (nI (lowN (nu 1) (RC (nu 2) kk) kk p n)), (bI (decide (0 < lowN (nu 1) (RC (nu 2) kk) kk p n))), (nI ((pr (nu 1) (RC (nu 2) kk) kk p n).1)), nf1, ref1, (rfl)⟩
  · -- 14 F
    have hfn : fb (nu 1) (RC (nu 2) kk) (nu 3) n p kk = none := o9_none (fun j9 h9 => by have := fb_lt h9; omega) c_1
    refine lv_aload_n hx hb dX7_isChoice_17 rfl (lv_at hl 0 rfl) ?_
    refine top_get C S inX7_isChoice_X7 rfl 0 rfl 17 (by decide) (by decide +kernel) rfl rfl dX7_isChoice_18 ?_
    refine lv_iload_n hx hb dX7_isChoice_21 rfl (lv_at hl 3 rfl) ?_
    refine lv_aload_n hx hb dX7_isChoice_22 rfl (lv_at hl 0 rfl) ?_
    refine top_get C S inX7_isChoice_X7 rfl 0 rfl 18 (by decide) (by decide +kernel) rfl rfl dX7_isChoice_23 ?_
    refine lv_imul hx hb dX7_isChoice_26 ?_
    refine top_eq (y := nI (d * (lowN (nu 1) (RC (nu 2) kk) kk p n))) (pk_mul _ _) ?_
    refine bn_igt (tgt := 34) (a := uppN (nu 1) (RC (nu 2) kk) kk p n) (b := d * (lowN (nu 1) (RC (nu 2) kk) kk p n)) hx hb rfl rfl (by omega) (by omega) dX7_isChoice_27 (by decide) (fun c_2 => ?_) (fun c_2 => ?_)
    · -- 27 T
      refine lv_iconst (v := 0) hx hb dX7_isChoice_34 (by decide) ?_
      exact ret_Z (okP nu n p d kk) C S hr dX7_isChoice_35 (by unfold okP bwN; rw [if_pos hpos, if_pos c_2] <;> rfl) ⟨(by unfold okP bwN; rw [if_pos hpos, if_pos c_2] <;> rfl), (nI (uppN (nu 1) (RC (nu 2) kk) kk p n)), (nI (lowN (nu 1) (RC (nu 2) kk) kk p n)), (bI (decide (0 < lowN (nu 1) (RC (nu 2) kk) kk p n))), (nI ((pr (nu 1) (RC (nu 2) kk) kk p n).1)), nf1, ref1, (rfl)⟩
    · -- 27 F
      refine lv_iconst (v := 1) hx hb dX7_isChoice_30 (by decide) ?_
      refine lv_goto (tgt := 35) hx hb dX7_isChoice_31 (by decide) ?_
      exact ret_Z (okP nu n p d kk) C S hr dX7_isChoice_35 (by unfold okP bwN; rw [if_pos hpos, if_neg c_2, hfn] <;> rfl) ⟨(by unfold okP bwN; rw [if_pos hpos, if_neg c_2, hfn] <;> rfl), (nI (uppN (nu 1) (RC (nu 2) kk) kk p n)), (nI (lowN (nu 1) (RC (nu 2) kk) kk p n)), (bI (decide (0 < lowN (nu 1) (RC (nu 2) kk) kk p n))), (nI ((pr (nu 1) (RC (nu 2) kk) kk p n).1)), nf1, ref1, (rfl)⟩
