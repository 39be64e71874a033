set_option maxRecDepth 100000 in
set_option maxHeartbeats 4000000 in
theorem kX7_chosen (l : Launch) (g : GG) (M : Nat) (nw : Nat) (dr : Nat) (pa : Nat) (im : Nat) (ke : Nat) (fl : Nat) (fq : Nat) (te : Nat) (ni : Nat) (re : Nat) (ma : Nat) (be : Nat) (ypa : Int32) (yfa : Int32) (yty : Int32) (yat : Int32) (yst : Int32) (yso : Int32) (yva : Int32) (yab : Int32) (ybl : Int32) (yis : Int32) (yra : Int32) (gn : Nat → Int32) (n : Nat) (ww : Nat) (nu : Nat → Nat → Nat) (nf : Nat → Int32) (ref : Nat → Int32) (x : Int32) (y : Int32) (z : Int32) (hn1 : 1 ≤ n) (hn : n ≤ 8) (hww : ww < 2 ^ n) (hg0 : gn 0 = nI n) (hgn : ∀ a i, a < 4 → i < n → gn (5 * i + (a + 1)) = nI (nu a i)) (hgw : ∀ i, i < n → gn (5 * i + 5) = nI (ww.testBit i).toNat) (hB : HB nu n) : KI l g yX7_chosen wsX7_chosen 5 114 [.ref M, .int x, .int y, .int z] [(M, ob 7 [.ref nw, .ref dr, .ref pa, .int ypa, .ref im, .ref ke, .ref fl, .ref fq, .int yfa, .ref te, .int yty, .int yat, .int yst, .int yso, .int yva, .ref ni, .ref re, .int yab, .int ybl, .int yis, .int yra, .ref ma, .ref be]), (nw, aI g 41 gn), (ni, aI g 8 nf), (re, aI g 8 ref)] (fun (r : Int32) (w' : va_W) => r = (chk3 (-1) 1000 100 2 (chosenA nu n ww) x y z) ∧ ∃ (ab' : Int32), ∃ (bl' : Int32), ∃ (is' : Int32), ∃ (ra' : Int32), ∃ (nf' : Nat → Int32), ∃ (ref' : Nat → Int32), w' = [(M, ob 7 [.ref nw, .ref dr, .ref pa, .int ypa, .ref im, .ref ke, .ref fl, .ref fq, .int yfa, .ref te, .int yty, .int yat, .int yst, .int yso, .int yva, .ref ni, .ref re, .int ab', .int bl', .int is', .int ra', .ref ma, .ref be]), (nw, aI g 41 gn), (ni, aI g 8 nf'), (re, aI g 8 ref')]) := by
  refine kI_of (cc := cX7_chosen) (maxL := 9) (by decide) rfl (Nat.le_of_ble_eq_true rfl) ?_
  intro pp ee ss mm bel mth cd A ls C S hr hl
  obtain ⟨hx, hb, hml, hown, hts⟩ := id C.1
  have hl : lv_has ls 9 [(0, .ref M), (1, .int x), (2, .int y), (3, .int z)] := hl
  obtain ⟨H, hH⟩ : ∃ H, H = ss.heap := ⟨_, rfl⟩
  obtain ⟨locs, hL0⟩ : ∃ L : List Loc, L = [] := ⟨_, rfl⟩
  rw [← hH, ← hL0] at S ⊢
  have hca : ∀ i, i < n → nu 2 i ≤ 30 := fun i9 h9 => (hB i9 h9).2.2.1
  have hSb : ∀ i, i < n → nu 1 i ≤ 9 := fun i9 h9 => (hB i9 h9).2.1.2
  have hTb : ∀ i, i < n → nu 3 i ≤ 99 := fun i9 h9 => (hB i9 h9).2.2.2.2
  have hRb : ∀ i, i < n → R0 nu i ≤ 240 := RC_le hn hca
  have hst : ∀ i, i < n → 1 ≤ nu 1 i ∧ nu 1 i ≤ 9 := fun i9 h9 => (hB i9 h9).2.1
  have w8 : ww < 256 := wlt hn hww
  have a8 : 2 ^ n - 1 < 256 := all_lt hn
  refine lv_iload_n hx hb dX7_chosen_0 rfl (lv_at hl 1 rfl) ?_
  refine lv_iconst (v := 0) hx hb dX7_chosen_1 (by decide) ?_
  refine lv_sipush (v := 999) hx hb dX7_chosen_2 (by decide) ?_
  refine after_I (wc := []) (y := yX7_in) C S (va_runS (As := [.int x, .int 0, .int 999]) (rest := []) C.1 (kX7_inz l g x 999 (by first | assumption | omega) H.size) (va_cwS 3 hts gX7_chosen_X7_in rfl rfl rfl (by decide +kernel) ⟨Nat.le_of_ble_eq_true rfl, Nat.le_of_ble_eq_true rfl⟩) (preS_at C S [] rfl (by decide)) rfl rfl hl.1 rfl (lv_room (Nat.le_of_ble_eq_true rfl)) dX7_chosen_5 ⟨Nat.le_of_ble_eq_true rfl, Nat.le_of_ble_eq_true rfl⟩) [] [0, 1, 2, 3] rfl (wr := [(M, ob 7 [.ref nw, .ref dr, .ref pa, .int ypa, .ref im, .ref ke, .ref fl, .ref fq, .int yfa, .ref te, .int yty, .int yat, .int yst, .int yso, .int yva, .ref ni, .ref re, .int yab, .int ybl, .int yis, .int yra, .ref ma, .ref be]), (nw, aI g 41 gn), (ni, aI g 8 nf), (re, aI g 8 ref)]) rfl (by decide) (by decide) (fun r0 w0 H locs hq S => ?_)
  obtain ⟨rfl, rfl⟩ := hq
  have S : ST g A ss H locs [(M, ob 7 [.ref nw, .ref dr, .ref pa, .int ypa, .ref im, .ref ke, .ref fl, .ref fq, .int yfa, .ref te, .int yty, .int yat, .int yst, .int yso, .int yva, .ref ni, .ref re, .int yab, .int ybl, .int yis, .int yra, .ref ma, .ref be]), (nw, aI g 41 gn), (ni, aI g 8 nf), (re, aI g 8 ref)] := S
  refine br_eqB (tgt := 30) hx hb dX7_chosen_8 (by decide) (fun c_1 => ?_) (fun c_1 => ?_)
  · -- 8 T
    refine lv_iconst (v := (-1)) hx hb dX7_chosen_30 (by decide) ?_
    exact ret_I C S hr dX7_chosen_31 ⟨((chk3_bad1 c_1).symm), yab, ybl, yis, yra, nf, ref, (rfl)⟩
  · -- 8 F
    obtain ⟨p, hp, rfl⟩ := ok_ex (k := 1000) (by omega) c_1
    refine lv_iload_n hx hb dX7_chosen_11 rfl (lv_at hl 2 rfl) ?_
    refine lv_iconst (v := 0) hx hb dX7_chosen_12 (by decide) ?_
    refine lv_bipush (v := 99) hx hb dX7_chosen_13 (by decide) ?_
    refine after_I (wc := []) (y := yX7_in) C S (va_runS (As := [.int y, .int 0, .int 99]) (rest := []) C.1 (kX7_inz l g y 99 (by first | assumption | omega) H.size) (va_cwS 3 hts gX7_chosen_X7_in rfl rfl rfl (by decide +kernel) ⟨Nat.le_of_ble_eq_true rfl, Nat.le_of_ble_eq_true rfl⟩) (preS_at C S [] rfl (by decide)) rfl rfl hl.1 rfl (lv_room (Nat.le_of_ble_eq_true rfl)) dX7_chosen_15 ⟨Nat.le_of_ble_eq_true rfl, Nat.le_of_ble_eq_true rfl⟩) [] [0, 1, 2, 3] rfl (wr := [(M, ob 7 [.ref nw, .ref dr, .ref pa, .int ypa, .ref im, .ref ke, .ref fl, .ref fq, .int yfa, .ref te, .int yty, .int yat, .int yst, .int yso, .int yva, .ref ni, .ref re, .int yab, .int ybl, .int yis, .int yra, .ref ma, .ref be]), (nw, aI g 41 gn), (ni, aI g 8 nf), (re, aI g 8 ref)]) rfl (by decide) (by decide) (fun r0 w0 H locs hq S => ?_)
    obtain ⟨rfl, rfl⟩ := hq
    have S : ST g A ss H locs [(M, ob 7 [.ref nw, .ref dr, .ref pa, .int ypa, .ref im, .ref ke, .ref fl, .ref fq, .int yfa, .ref te, .int yty, .int yat, .int yst, .int yso, .int yva, .ref ni, .ref re, .int yab, .int ybl, .int yis, .int yra, .ref ma, .ref be]), (nw, aI g 41 gn), (ni, aI g 8 nf), (re, aI g 8 ref)] := S
    refine br_eqB (tgt := 30) hx hb dX7_chosen_18 (by decide) (fun c_2 => ?_) (fun c_2 => ?_)
    · -- 18 T
      refine lv_iconst (v := (-1)) hx hb dX7_chosen_30 (by decide) ?_
      exact ret_I C S hr dX7_chosen_31 ⟨((chk3_bad2 c_2).symm), yab, ybl, yis, yra, nf, ref, (rfl)⟩
    · -- 18 F
      obtain ⟨d, hd, rfl⟩ := ok_ex (k := 100) (by omega) c_2
      refine lv_iload_n hx hb dX7_chosen_21 rfl (lv_at hl 3 rfl) ?_
      refine lv_iconst (v := 0) hx hb dX7_chosen_22 (by decide) ?_
      refine lv_iconst (v := 1) hx hb dX7_chosen_23 (by decide) ?_
      refine after_I (wc := []) (y := yX7_in) C S (va_runS (As := [.int z, .int 0, .int 1]) (rest := []) C.1 (kX7_inz l g z 1 (by first | assumption | omega) H.size) (va_cwS 3 hts gX7_chosen_X7_in rfl rfl rfl (by decide +kernel) ⟨Nat.le_of_ble_eq_true rfl, Nat.le_of_ble_eq_true rfl⟩) (preS_at C S [] rfl (by decide)) rfl rfl hl.1 rfl (lv_room (Nat.le_of_ble_eq_true rfl)) dX7_chosen_24 ⟨Nat.le_of_ble_eq_true rfl, Nat.le_of_ble_eq_true rfl⟩) [] [0, 1, 2, 3] rfl (wr := [(M, ob 7 [.ref nw, .ref dr, .ref pa, .int ypa, .ref im, .ref ke, .ref fl, .ref fq, .int yfa, .ref te, .int yty, .int yat, .int yst, .int yso, .int yva, .ref ni, .ref re, .int yab, .int ybl, .int yis, .int yra, .ref ma, .ref be]), (nw, aI g 41 gn), (ni, aI g 8 nf), (re, aI g 8 ref)]) rfl (by decide) (by decide) (fun r0 w0 H locs hq S => ?_)
      obtain ⟨rfl, rfl⟩ := hq
      have S : ST g A ss H locs [(M, ob 7 [.ref nw, .ref dr, .ref pa, .int ypa, .ref im, .ref ke, .ref fl, .ref fq, .int yfa, .ref te, .int yty, .int yat, .int yst, .int yso, .int yva, .ref ni, .ref re, .int yab, .int ybl, .int yis, .int yra, .ref ma, .ref be]), (nw, aI g 41 gn), (ni, aI g 8 nf), (re, aI g 8 ref)] := S
      refine br_neB (tgt := 32) hx hb dX7_chosen_27 (by decide) (fun c_3 => ?_) (fun c_3 => ?_)
      · -- 27 T
        obtain ⟨w, hw, rfl⟩ := ok_ex (k := 2) (by omega) c_3
        refine lv_aload_n hx hb dX7_chosen_32 rfl (lv_at hl 0 rfl) ?_
        refine after_I (wc := [(M, ob 7 [.ref nw, .ref dr, .ref pa, .int ypa, .ref im, .ref ke, .ref fl, .ref fq, .int yfa, .ref te, .int yty, .int yat, .int yst, .int yso, .int yva, .ref ni, .ref re, .int yab, .int ybl, .int yis, .int yra, .ref ma, .ref be]), (nw, aI g 41 gn)]) (y := yX7_whole) C S (va_runV (As := []) (rest := []) C.1 (kX7_whole l g M nw dr pa im ke fl fq te ni re ma be ypa yfa yty yat yst yso yva yab ybl yis yra gn n ww (by first | assumption | omega) (by first | assumption | omega) (by first | assumption | omega) (by first | assumption | omega) H.size) (cwV 0 hts gX7_chosen_X7_whole rfl rfl rfl (by decide +kernel) ⟨Nat.le_of_ble_eq_true rfl, Nat.le_of_ble_eq_true rfl⟩) (preV_at C S 0 rfl rfl [0, 1] rfl (by decide)) rfl rfl hl.1 rfl (lv_room (Nat.le_of_ble_eq_true rfl)) dX7_chosen_33 ⟨Nat.le_of_ble_eq_true rfl, Nat.le_of_ble_eq_true rfl⟩) [0, 1] [2, 3] rfl (wr := [(ni, aI g 8 nf), (re, aI g 8 ref)]) rfl (by decide) (by decide) (fun r0 w0 H locs hq S => ?_)
        obtain ⟨rfl, rfl⟩ := hq
        have S : ST g A ss H locs [(M, ob 7 [.ref nw, .ref dr, .ref pa, .int ypa, .ref im, .ref ke, .ref fl, .ref fq, .int yfa, .ref te, .int yty, .int yat, .int yst, .int yso, .int yva, .ref ni, .ref re, .int yab, .int ybl, .int yis, .int yra, .ref ma, .ref be]), (nw, aI g 41 gn), (ni, aI g 8 nf), (re, aI g 8 ref)] := ST.sub S [2, 3, 0, 1] (by decide) rfl
        refine lv_istore (lv' := [(4, .int (nI ww)), (0, .ref M), (1, .int (nI p)), (2, .int (nI d)), (3, .int (nI w))]) hx hb dX7_chosen_36 hl (by decide) rfl (fun ls hl => ?_)
        refine lv_iload hx hb dX7_chosen_38 (lv_at hl 0 rfl) ?_
        refine lv_iload hx hb dX7_chosen_40 (lv_at hl 0 rfl) ?_
        refine lv_ineg hx hb dX7_chosen_42 ?_
        refine lv_iand hx hb dX7_chosen_43 ?_
        refine lv_istore (lv' := [(5, .int ((nI ww) &&& (-(nI ww)))), (4, .int (nI ww)), (0, .ref M), (1, .int (nI p)), (2, .int (nI d)), (3, .int (nI w))]) hx hb dX7_chosen_44 hl (by decide) rfl (fun ls hl => ?_)
        refine lv_bipush (v := (-9)) hx hb dX7_chosen_46 (by decide) ?_
        refine lv_istore (lv' := [(6, .int (-9)), (5, .int ((nI ww) &&& (-(nI ww)))), (4, .int (nI ww)), (0, .ref M), (1, .int (nI p)), (2, .int (nI d)), (3, .int (nI w))]) hx hb dX7_chosen_48 hl (by decide) rfl (fun ls hl => ?_)
        refine lv_iconst (v := 1) hx hb dX7_chosen_50 (by decide) ?_
        refine lv_istore (lv' := [(7, .int 1), (6, .int (-9)), (5, .int ((nI ww) &&& (-(nI ww)))), (4, .int (nI ww)), (0, .ref M), (1, .int (nI p)), (2, .int (nI d)), (3, .int (nI w))]) hx hb dX7_chosen_51 hl (by decide) rfl (fun ls hl => ?_)
        have loop53 : ∀ (N0 : Nat) (j : Nat) (bst : Nat) (u1 : Int32) (u2 : Int32) (u3 : Int32) (u4 : Int32) (n1 : Nat → Int32) (r1 : Nat → Int32), ww - j < N0 → (j ≤ ww) → (bst = chB (mayB ww) (okP nu n p d) j) → ∀ (H : Heap) (locs : List Loc) (ls : Array Slot), ST g A ss H locs [(M, ob 7 [.ref nw, .ref dr, .ref pa, .int ypa, .ref im, .ref ke, .ref fl, .ref fq, .int yfa, .ref te, .int yty, .int yat, .int yst, .int yso, .int yva, .ref ni, .ref re, .int u1, .int u2, .int u3, .int u4, .ref ma, .ref be]), (nw, aI g 41 gn), (ni, aI g 8 n1), (re, aI g 8 r1)] → lv_has ls 9 [(7, .int (nI (j + 1))), (6, .int (fI bst)), (5, .int ((nI ww) &&& (-(nI ww)))), (4, .int (nI ww)), (0, .ref M), (1, .int (nI p)), (2, .int (nI d)), (3, .int (nI w))] → W pp l ee { frames := 5, cells := 0, slots := 0, locals := 114 } ss mm ([.ref M, .int (nI p), .int (nI d), .int (nI w)] : List Value).toArray bel mth cd H locs 0 0 (QI bel ([.ref M, .int (nI p), .int (nI d), .int (nI w)] : List Value).toArray ss g A (fun (r : Int32) (w' : va_W) => r = (chk3 (-1) 1000 100 2 (chosenA nu n ww) (nI p) (nI d) (nI w)) ∧ ∃ (ab' : Int32), ∃ (bl' : Int32), ∃ (is' : Int32), ∃ (ra' : Int32), ∃ (nf' : Nat → Int32), ∃ (ref' : Nat → Int32), w' = [(M, ob 7 [.ref nw, .ref dr, .ref pa, .int ypa, .ref im, .ref ke, .ref fl, .ref fq, .int yfa, .ref te, .int yty, .int yat, .int yst, .int yso, .int yva, .ref ni, .ref re, .int ab', .int bl', .int is', .int ra', .ref ma, .ref be]), (nw, aI g 41 gn), (ni, aI g 8 nf'), (re, aI g 8 ref')])) (F0 mm 53 ls []) := by
          intro N0
          induction N0 with
          | zero => intro j bst u1 u2 u3 u4 n1 r1 hN; exact absurd hN (Nat.not_lt_zero _)
          | succ N0 ih53 =>
            intro j bst u1 u2 u3 u4 n1 r1 hN hj hb0 H locs ls S hl
            have hbl : bst ≤ j := by rw [hb0]; exact chB_le j
            have hq1 := pop_le (j + 1)
            have hq2 := pop_le bst
            refine lv_iload hx hb dX7_chosen_53 (lv_at hl 0 rfl) ?_
            refine lv_iload hx hb dX7_chosen_55 (lv_at hl 3 rfl) ?_
            refine bn_igt (tgt := 136) (a := j + 1) (b := ww) hx hb rfl rfl (by omega) (by omega) dX7_chosen_57 (by decide) (fun c_4 => ?_) (fun c_4 => ?_)
            · -- 57 T
              have hjw : j = ww := by omega
              have hC : chB (mayB ww) (okP nu n p d) 255 = bst := by rw [chB_all w8, hb0, hjw]
              by_cases hbz : bst = 0
              ·
                rw [show fI bst = (-9) by unfold fI; rw [if_pos hbz]] at hl
                have hl : lv_has ls 9 [(7, .int (nI (j + 1))), (6, .int (-9)), (5, .int ((nI ww) &&& (-(nI ww)))), (4, .int (nI ww)), (0, .ref M), (1, .int (nI p)), (2, .int (nI d)), (3, .int (nI w))] := hl
                refine lv_iload_n hx hb dX7_chosen_136 rfl (lv_at hl 7 rfl) ?_
                refine lv_iconst (v := 1) hx hb dX7_chosen_137 (by decide) ?_
                refine bn_ieq (tgt := 148) (a := w) (b := 1) hx hb rfl rfl (by omega) (by omega) dX7_chosen_138 (by decide) (fun c_5 => ?_) (fun c_5 => ?_)
                · -- 138 T
                  refine lv_iload hx hb dX7_chosen_148 (lv_at hl 1 rfl) ?_
                  refine lv_goto (tgt := 158) hx hb dX7_chosen_150 (by decide) ?_
                  exact ret_I C S hr dX7_chosen_158 ⟨(Eq.trans (show _ = chosenA nu n ww p d w by unfold chosenA; rw [hC, if_pos hbz]) (chk3_ok (i := p) (j := d) (k := w) (by omega) (by omega) (by omega) (by decide) (by decide) (by decide)).symm), u1, u2, u3, u4, n1, r1, (rfl)⟩
                · -- 138 F
                  refine lv_iload hx hb dX7_chosen_141 (lv_at hl 1 rfl) ?_
                  refine lv_bipush (v := (-9)) hx hb dX7_chosen_143 (by decide) ?_
                  refine lv_icmp_ne (tgt := 153) hx hb dX7_chosen_145 (by decide) (fun c_6 => ?_) (fun c_6 => ?_)
                  · -- 145 T
                    exact absurd rfl c_6
                  · -- 145 F
                    refine lv_iload hx hb dX7_chosen_148 (lv_at hl 1 rfl) ?_
                    refine lv_goto (tgt := 158) hx hb dX7_chosen_150 (by decide) ?_
                    exact ret_I C S hr dX7_chosen_158 ⟨(Eq.trans (show _ = chosenA nu n ww p d w by unfold chosenA; rw [hC, if_pos hbz]) (chk3_ok (i := p) (j := d) (k := w) (by omega) (by omega) (by omega) (by decide) (by decide) (by decide)).symm), u1, u2, u3, u4, n1, r1, (rfl)⟩
              ·
                rw [show fI bst = nI bst by unfold fI; rw [if_neg hbz]] at hl
                have hl : lv_has ls 9 [(7, .int (nI (j + 1))), (6, .int (nI bst)), (5, .int ((nI ww) &&& (-(nI ww)))), (4, .int (nI ww)), (0, .ref M), (1, .int (nI p)), (2, .int (nI d)), (3, .int (nI w))] := hl
                refine lv_iload_n hx hb dX7_chosen_136 rfl (lv_at hl 7 rfl) ?_
                refine lv_iconst (v := 1) hx hb dX7_chosen_137 (by decide) ?_
                refine bn_ieq (tgt := 148) (a := w) (b := 1) hx hb rfl rfl (by omega) (by omega) dX7_chosen_138 (by decide) (fun c_7 => ?_) (fun c_7 => ?_)
                · -- 138 T
                  refine lv_iload hx hb dX7_chosen_148 (lv_at hl 1 rfl) ?_
                  refine lv_goto (tgt := 158) hx hb dX7_chosen_150 (by decide) ?_
                  exact ret_I C S hr dX7_chosen_158 ⟨(Eq.trans (show _ = chosenA nu n ww p d w by unfold chosenA; rw [hC, if_neg hbz, if_neg (by omega)]) (chk3_ok (i := p) (j := d) (k := w) (by omega) (by omega) (by omega) (by decide) (by decide) (by decide)).symm), u1, u2, u3, u4, n1, r1, (rfl)⟩
                · -- 138 F
                  refine lv_iload hx hb dX7_chosen_141 (lv_at hl 1 rfl) ?_
                  refine lv_bipush (v := (-9)) hx hb dX7_chosen_143 (by decide) ?_
                  refine lv_icmp_ne (tgt := 153) hx hb dX7_chosen_145 (by decide) (fun c_8 => ?_) (fun c_8 => ?_)
                  · -- 145 T
                    refine lv_iload hx hb dX7_chosen_153 (lv_at hl 1 rfl) ?_
                    refine after_I (wc := []) (y := yX7_ones) C S (va_runS (As := [.int (nI bst)]) (rest := []) C.1 (kX7_ones l g bst (by omega) H.size) (va_cwS 1 hts gX7_chosen_X7_ones rfl rfl rfl (by decide +kernel) ⟨Nat.le_of_ble_eq_true rfl, Nat.le_of_ble_eq_true rfl⟩) (preS_at C S [] rfl (by decide)) rfl rfl hl.1 rfl (lv_room (Nat.le_of_ble_eq_true rfl)) dX7_chosen_155 ⟨Nat.le_of_ble_eq_true rfl, Nat.le_of_ble_eq_true rfl⟩) [] [0, 1, 2, 3] rfl (wr := [(M, ob 7 [.ref nw, .ref dr, .ref pa, .int ypa, .ref im, .ref ke, .ref fl, .ref fq, .int yfa, .ref te, .int yty, .int yat, .int yst, .int yso, .int yva, .ref ni, .ref re, .int u1, .int u2, .int u3, .int u4, .ref ma, .ref be]), (nw, aI g 41 gn), (ni, aI g 8 n1), (re, aI g 8 r1)]) rfl (by decide) (by decide) (fun r0 w0 H locs hq S => ?_)
                    obtain ⟨rfl, rfl⟩ := hq
                    have S : ST g A ss H locs [(M, ob 7 [.ref nw, .ref dr, .ref pa, .int ypa, .ref im, .ref ke, .ref fl, .ref fq, .int yfa, .ref te, .int yty, .int yat, .int yst, .int yso, .int yva, .ref ni, .ref re, .int u1, .int u2, .int u3, .int u4, .ref ma, .ref be]), (nw, aI g 41 gn), (ni, aI g 8 n1), (re, aI g 8 r1)] := S
                    exact ret_I C S hr dX7_chosen_158 ⟨(Eq.trans (show _ = chosenA nu n ww p d w by unfold chosenA; rw [hC, if_neg hbz, if_pos (by omega)]) (chk3_ok (i := p) (j := d) (k := w) (by omega) (by omega) (by omega) (by decide) (by decide) (by decide)).symm), u1, u2, u3, u4, n1, r1, (rfl)⟩
                  · -- 145 F
                    exact absurd c_8 (nI_n9 (by omega))
            · -- 57 F
              refine lv_iload hx hb dX7_chosen_60 (lv_at hl 0 rfl) ?_
              refine lv_iload hx hb dX7_chosen_62 (lv_at hl 3 rfl) ?_
              refine lv_iconst (v := (-1)) hx hb dX7_chosen_64 (by decide) ?_
              refine lv_ixor hx hb dX7_chosen_65 ?_
              refine lv_iand hx hb dX7_chosen_66 ?_
              refine lv_if_ne (tgt := 102) hx hb dX7_chosen_67 (by decide) (fun c_9 => ?_) (fun c_9 => ?_)
              · -- 67 T
                refine lv_iconst (v := 0) hx hb dX7_chosen_102 (by decide) ?_
                refine lv_istore (lv' := [(8, .int 0), (7, .int (nI (j + 1))), (6, .int (fI bst)), (5, .int ((nI ww) &&& (-(nI ww)))), (4, .int (nI ww)), (0, .ref M), (1, .int (nI p)), (2, .int (nI d)), (3, .int (nI w))]) hx hb dX7_chosen_103 hl (by decide) rfl (fun ls hl => ?_)
                refine lv_iload hx hb dX7_chosen_105 (lv_at hl 0 rfl) ?_
                refine bn_zeq (tgt := 126) (a := 0) hx hb rfl (by omega) dX7_chosen_107 (by decide) (fun c_10 => ?_) (fun c_10 => ?_)
                · -- 107 T
                  refine lv_iload hx hb dX7_chosen_126 (lv_at hl 2 rfl) ?_
                  refine lv_istore (lv' := [(6, .int (fI bst)), (8, .int 0), (7, .int (nI (j + 1))), (5, .int ((nI ww) &&& (-(nI ww)))), (4, .int (nI ww)), (0, .ref M), (1, .int (nI p)), (2, .int (nI d)), (3, .int (nI w))]) hx hb dX7_chosen_128 hl (by decide) rfl (fun ls hl => ?_)
                  refine lv_iinc (v := nI ((j + 1) + 1)) (lv' := [(7, .int (nI ((j + 1) + 1))), (6, .int (fI bst)), (8, .int 0), (5, .int ((nI ww) &&& (-(nI ww)))), (4, .int (nI ww)), (0, .ref M), (1, .int (nI p)), (2, .int (nI d)), (3, .int (nI w))]) hx hb dX7_chosen_130 hl (k := 2) rfl (nI_add _ _) (by decide) rfl (fun ls hl => ?_)
                  refine lv_goto (tgt := 53) hx hb dX7_chosen_133 (by decide) ?_
                  exact ih53 (j + 1) bst u1 u2 u3 u4 n1 r1 (by omega) (by first | assumption | omega) (by simp only [chB, ← hb0, mayB, if_pos c_1, if_pos c_2, if_pos c_3, if_neg c_4, if_neg c_9, if_pos c_10, if_true, if_false, Bool.false_eq_true, reduceIte]) H locs ls (ST.eq S (rfl)) (lv_sub hl [0, 1, 3, 4, 5, 6, 7, 8] (rfl))
                · -- 107 F
                  exact absurd c_10 (by decide)
              · -- 67 F
                refine lv_iload hx hb dX7_chosen_70 (lv_at hl 0 rfl) ?_
                refine lv_iload hx hb dX7_chosen_72 (lv_at hl 2 rfl) ?_
                refine lv_iand hx hb dX7_chosen_74 ?_
                refine lv_if_eq (tgt := 102) hx hb dX7_chosen_75 (by decide) (fun c_11 => ?_) (fun c_11 => ?_)
                · -- 75 T
                  refine lv_iconst (v := 0) hx hb dX7_chosen_102 (by decide) ?_
                  refine lv_istore (lv' := [(8, .int 0), (7, .int (nI (j + 1))), (6, .int (fI bst)), (5, .int ((nI ww) &&& (-(nI ww)))), (4, .int (nI ww)), (0, .ref M), (1, .int (nI p)), (2, .int (nI d)), (3, .int (nI w))]) hx hb dX7_chosen_103 hl (by decide) rfl (fun ls hl => ?_)
                  refine lv_iload hx hb dX7_chosen_105 (lv_at hl 0 rfl) ?_
                  refine bn_zeq (tgt := 126) (a := 0) hx hb rfl (by omega) dX7_chosen_107 (by decide) (fun c_12 => ?_) (fun c_12 => ?_)
                  · -- 107 T
                    refine lv_iload hx hb dX7_chosen_126 (lv_at hl 2 rfl) ?_
                    refine lv_istore (lv' := [(6, .int (fI bst)), (8, .int 0), (7, .int (nI (j + 1))), (5, .int ((nI ww) &&& (-(nI ww)))), (4, .int (nI ww)), (0, .ref M), (1, .int (nI p)), (2, .int (nI d)), (3, .int (nI w))]) hx hb dX7_chosen_128 hl (by decide) rfl (fun ls hl => ?_)
                    refine lv_iinc (v := nI ((j + 1) + 1)) (lv' := [(7, .int (nI ((j + 1) + 1))), (6, .int (fI bst)), (8, .int 0), (5, .int ((nI ww) &&& (-(nI ww)))), (4, .int (nI ww)), (0, .ref M), (1, .int (nI p)), (2, .int (nI d)), (3, .int (nI w))]) hx hb dX7_chosen_130 hl (k := 2) rfl (nI_add _ _) (by decide) rfl (fun ls hl => ?_)
                    refine lv_goto (tgt := 53) hx hb dX7_chosen_133 (by decide) ?_
                    exact ih53 (j + 1) bst u1 u2 u3 u4 n1 r1 (by omega) (by first | assumption | omega) (by simp only [chB, ← hb0, mayB, if_pos c_1, if_pos c_2, if_pos c_3, if_neg c_4, if_pos c_9, if_pos c_11, if_pos c_12, if_true, if_false, Bool.false_eq_true, reduceIte]) H locs ls (ST.eq S (rfl)) (lv_sub hl [0, 1, 3, 4, 5, 6, 7, 8] (rfl))
                  · -- 107 F
                    exact absurd c_12 (by decide)
                · -- 75 F
                  by_cases hbz : bst = 0
                  ·
                    rw [show fI bst = (-9) by unfold fI; rw [if_pos hbz]] at hl
                    have hl : lv_has ls 9 [(7, .int (nI (j + 1))), (6, .int (-9)), (5, .int ((nI ww) &&& (-(nI ww)))), (4, .int (nI ww)), (0, .ref M), (1, .int (nI p)), (2, .int (nI d)), (3, .int (nI w))] := hl
                    refine lv_iload hx hb dX7_chosen_78 (lv_at hl 1 rfl) ?_
                    refine lv_bipush (v := (-9)) hx hb dX7_chosen_80 (by decide) ?_
                    refine lv_icmp_eq (tgt := 98) hx hb dX7_chosen_82 (by decide) (fun c_13 => ?_) (fun c_13 => ?_)
                    · -- 82 T
                      refine lv_iconst (v := 1) hx hb dX7_chosen_98 (by decide) ?_
                      refine lv_goto (tgt := 103) hx hb dX7_chosen_99 (by decide) ?_
                      refine lv_istore (lv' := [(8, .int 1), (7, .int (nI (j + 1))), (6, .int (-9)), (5, .int ((nI ww) &&& (-(nI ww)))), (4, .int (nI ww)), (0, .ref M), (1, .int (nI p)), (2, .int (nI d)), (3, .int (nI w))]) hx hb dX7_chosen_103 hl (by decide) rfl (fun ls hl => ?_)
                      refine lv_iload hx hb dX7_chosen_105 (lv_at hl 0 rfl) ?_
                      refine bn_zeq (tgt := 126) (a := 1) hx hb rfl (by omega) dX7_chosen_107 (by decide) (fun c_14 => ?_) (fun c_14 => ?_)
                      · -- 107 T
                        exact absurd c_14 (by decide)
                      · -- 107 F
                        refine lv_aload_n hx hb dX7_chosen_110 rfl (lv_at hl 5 rfl) ?_
                        refine lv_iload hx hb dX7_chosen_111 (lv_at hl 1 rfl) ?_
                        refine lv_iload_n hx hb dX7_chosen_113 rfl (lv_at hl 6 rfl) ?_
                        refine lv_iload_n hx hb dX7_chosen_114 rfl (lv_at hl 7 rfl) ?_
                        refine after_I (wc := [(M, ob 7 [.ref nw, .ref dr, .ref pa, .int ypa, .ref im, .ref ke, .ref fl, .ref fq, .int yfa, .ref te, .int yty, .int yat, .int yst, .int yso, .int yva, .ref ni, .ref re, .int u1, .int u2, .int u3, .int u4, .ref ma, .ref be]), (nw, aI g 41 gn), (ni, aI g 8 n1), (re, aI g 8 r1)]) (y := yX7_isChoice) C S (va_runV (As := [.int (nI (j + 1)), .int (nI p), .int (nI d)]) (rest := []) C.1 (kX7_isChoice l g M nw dr pa im ke fl fq te ni re ma be ypa yfa yty yat yst yso yva u1 u2 u3 u4 gn n ww nu n1 r1 (j + 1) p d (by first | assumption | omega) (by first | assumption | omega) (by first | assumption | omega) (by first | assumption | omega) (by first | assumption | omega) (by first | assumption | omega) (by first | assumption | omega) (by omega) (by omega) (by omega) (by omega) H.size) (cwV 3 hts gX7_chosen_X7_isChoice rfl rfl rfl (by decide +kernel) ⟨Nat.le_of_ble_eq_true rfl, Nat.le_of_ble_eq_true rfl⟩) (preV_at C S 0 rfl rfl [0, 1, 2, 3] rfl (by decide)) rfl rfl hl.1 rfl (lv_room (Nat.le_of_ble_eq_true rfl)) dX7_chosen_115 ⟨Nat.le_of_ble_eq_true rfl, Nat.le_of_ble_eq_true rfl⟩) [0, 1, 2, 3] [] rfl (wr := []) rfl (by decide) (by decide) (fun r0 w0 H locs hq S => ?_)
                        obtain ⟨rfl, ab'_15, bl'_16, is'_17, ra'_18, nf'_19, ref'_20, rfl⟩ := hq
                        have S : ST g A ss H locs [(M, ob 7 [.ref nw, .ref dr, .ref pa, .int ypa, .ref im, .ref ke, .ref fl, .ref fq, .int yfa, .ref te, .int yty, .int yat, .int yst, .int yso, .int yva, .ref ni, .ref re, .int ab'_15, .int bl'_16, .int is'_17, .int ra'_18, .ref ma, .ref be]), (nw, aI g 41 gn), (ni, aI g 8 nf'_19), (re, aI g 8 ref'_20)] := S
                        refine br_eqB (tgt := 126) hx hb dX7_chosen_118 (by decide) (fun c_21 => ?_) (fun c_21 => ?_)
                        · -- 118 T
                          refine lv_iload hx hb dX7_chosen_126 (lv_at hl 2 rfl) ?_
                          refine lv_istore (lv' := [(6, .int (-9)), (8, .int 1), (7, .int (nI (j + 1))), (5, .int ((nI ww) &&& (-(nI ww)))), (4, .int (nI ww)), (0, .ref M), (1, .int (nI p)), (2, .int (nI d)), (3, .int (nI w))]) hx hb dX7_chosen_128 hl (by decide) rfl (fun ls hl => ?_)
                          refine lv_iinc (v := nI ((j + 1) + 1)) (lv' := [(7, .int (nI ((j + 1) + 1))), (6, .int (-9)), (8, .int 1), (5, .int ((nI ww) &&& (-(nI ww)))), (4, .int (nI ww)), (0, .ref M), (1, .int (nI p)), (2, .int (nI d)), (3, .int (nI w))]) hx hb dX7_chosen_130 hl (k := 2) rfl (nI_add _ _) (by decide) rfl (fun ls hl => ?_)
                          refine lv_goto (tgt := 53) hx hb dX7_chosen_133 (by decide) ?_
                          exact ih53 (j + 1) bst ab'_15 bl'_16 is'_17 ra'_18 nf'_19 ref'_20 (by omega) (by first | assumption | omega) (by simp only [chB, ← hb0, mayB, if_pos c_1, if_pos c_2, if_pos c_3, if_neg c_4, if_pos c_9, if_neg c_11, if_neg c_14, if_neg (Bool.eq_false_iff.mp c_21), if_pos hbz, if_true, if_false, Bool.false_eq_true, reduceIte]) H locs ls (ST.eq S (rfl)) (lv_sub hl [0, 1, 3, 4, 5, 6, 7, 8] (by rw [show fI bst = (-9) by unfold fI; rw [if_pos hbz]] <;> rfl))
                        · -- 118 F
                          refine lv_iload hx hb dX7_chosen_121 (lv_at hl 1 rfl) ?_
                          refine lv_goto (tgt := 128) hx hb dX7_chosen_123 (by decide) ?_
                          refine lv_istore (lv' := [(6, .int (nI (j + 1))), (8, .int 1), (7, .int (nI (j + 1))), (5, .int ((nI ww) &&& (-(nI ww)))), (4, .int (nI ww)), (0, .ref M), (1, .int (nI p)), (2, .int (nI d)), (3, .int (nI w))]) hx hb dX7_chosen_128 hl (by decide) rfl (fun ls hl => ?_)
                          refine lv_iinc (v := nI ((j + 1) + 1)) (lv' := [(7, .int (nI ((j + 1) + 1))), (6, .int (nI (j + 1))), (8, .int 1), (5, .int ((nI ww) &&& (-(nI ww)))), (4, .int (nI ww)), (0, .ref M), (1, .int (nI p)), (2, .int (nI d)), (3, .int (nI w))]) hx hb dX7_chosen_130 hl (k := 2) rfl (nI_add _ _) (by decide) rfl (fun ls hl => ?_)
                          refine lv_goto (tgt := 53) hx hb dX7_chosen_133 (by decide) ?_
                          exact ih53 (j + 1) (j + 1) ab'_15 bl'_16 is'_17 ra'_18 nf'_19 ref'_20 (by omega) (by first | assumption | omega) (by simp only [chB, ← hb0, mayB, if_pos c_1, if_pos c_2, if_pos c_3, if_neg c_4, if_pos c_9, if_neg c_11, if_neg c_14, if_pos c_21, if_pos hbz, if_true, if_false, Bool.false_eq_true, reduceIte]) H locs ls (ST.eq S (rfl)) (lv_sub hl [0, 1, 3, 4, 5, 6, 7, 8] (rfl))
                    · -- 82 F
                      exact absurd rfl c_13
                  ·
                    rw [show fI bst = nI bst by unfold fI; rw [if_neg hbz]] at hl
                    have hl : lv_has ls 9 [(7, .int (nI (j + 1))), (6, .int (nI bst)), (5, .int ((nI ww) &&& (-(nI ww)))), (4, .int (nI ww)), (0, .ref M), (1, .int (nI p)), (2, .int (nI d)), (3, .int (nI w))] := hl
                    refine lv_iload hx hb dX7_chosen_78 (lv_at hl 1 rfl) ?_
                    refine lv_bipush (v := (-9)) hx hb dX7_chosen_80 (by decide) ?_
                    refine lv_icmp_eq (tgt := 98) hx hb dX7_chosen_82 (by decide) (fun c_22 => ?_) (fun c_22 => ?_)
                    · -- 82 T
                      exact absurd c_22 (nI_n9 (by omega))
                    · -- 82 F
                      refine lv_iload hx hb dX7_chosen_85 (lv_at hl 0 rfl) ?_
                      refine after_I (wc := []) (y := yX7_ones) C S (va_runS (As := [.int (nI (j + 1))]) (rest := []) C.1 (kX7_ones l g (j + 1) (by omega) H.size) (va_cwS 1 hts gX7_chosen_X7_ones rfl rfl rfl (by decide +kernel) ⟨Nat.le_of_ble_eq_true rfl, Nat.le_of_ble_eq_true rfl⟩) (preS_at C S [] rfl (by decide)) rfl rfl hl.1 rfl (lv_room (Nat.le_of_ble_eq_true rfl)) dX7_chosen_87 ⟨Nat.le_of_ble_eq_true rfl, Nat.le_of_ble_eq_true rfl⟩) [] [0, 1, 2, 3] rfl (wr := [(M, ob 7 [.ref nw, .ref dr, .ref pa, .int ypa, .ref im, .ref ke, .ref fl, .ref fq, .int yfa, .ref te, .int yty, .int yat, .int yst, .int yso, .int yva, .ref ni, .ref re, .int u1, .int u2, .int u3, .int u4, .ref ma, .ref be]), (nw, aI g 41 gn), (ni, aI g 8 n1), (re, aI g 8 r1)]) rfl (by decide) (by decide) (fun r0 w0 H locs hq S => ?_)
                      obtain ⟨rfl, rfl⟩ := hq
                      have S : ST g A ss H locs [(M, ob 7 [.ref nw, .ref dr, .ref pa, .int ypa, .ref im, .ref ke, .ref fl, .ref fq, .int yfa, .ref te, .int yty, .int yat, .int yst, .int yso, .int yva, .ref ni, .ref re, .int u1, .int u2, .int u3, .int u4, .ref ma, .ref be]), (nw, aI g 41 gn), (ni, aI g 8 n1), (re, aI g 8 r1)] := S
                      refine lv_iload hx hb dX7_chosen_90 (lv_at hl 1 rfl) ?_
                      refine after_I (wc := []) (y := yX7_ones) C S (va_runS (As := [.int (nI bst)]) (rest := [.int (nI (pop (j + 1)))]) C.1 (kX7_ones l g bst (by omega) H.size) (va_cwS 1 hts gX7_chosen_X7_ones rfl rfl rfl (by decide +kernel) ⟨Nat.le_of_ble_eq_true rfl, Nat.le_of_ble_eq_true rfl⟩) (preS_at C S [] rfl (by decide)) rfl rfl hl.1 rfl (lv_room (Nat.le_of_ble_eq_true rfl)) dX7_chosen_92 ⟨Nat.le_of_ble_eq_true rfl, Nat.le_of_ble_eq_true rfl⟩) [] [0, 1, 2, 3] rfl (wr := [(M, ob 7 [.ref nw, .ref dr, .ref pa, .int ypa, .ref im, .ref ke, .ref fl, .ref fq, .int yfa, .ref te, .int yty, .int yat, .int yst, .int yso, .int yva, .ref ni, .ref re, .int u1, .int u2, .int u3, .int u4, .ref ma, .ref be]), (nw, aI g 41 gn), (ni, aI g 8 n1), (re, aI g 8 r1)]) rfl (by decide) (by decide) (fun r0 w0 H locs hq S => ?_)
                      obtain ⟨rfl, rfl⟩ := hq
                      have S : ST g A ss H locs [(M, ob 7 [.ref nw, .ref dr, .ref pa, .int ypa, .ref im, .ref ke, .ref fl, .ref fq, .int yfa, .ref te, .int yty, .int yat, .int yst, .int yso, .int yva, .ref ni, .ref re, .int u1, .int u2, .int u3, .int u4, .ref ma, .ref be]), (nw, aI g 41 gn), (ni, aI g 8 n1), (re, aI g 8 r1)] := S
                      refine bn_ige (tgt := 102) (a := pop (j + 1)) (b := pop bst) hx hb rfl rfl (by omega) (by omega) dX7_chosen_95 (by decide) (fun c_23 => ?_) (fun c_23 => ?_)
                      · -- 95 T
                        refine lv_iconst (v := 0) hx hb dX7_chosen_102 (by decide) ?_
                        refine lv_istore (lv' := [(8, .int 0), (7, .int (nI (j + 1))), (6, .int (nI bst)), (5, .int ((nI ww) &&& (-(nI ww)))), (4, .int (nI ww)), (0, .ref M), (1, .int (nI p)), (2, .int (nI d)), (3, .int (nI w))]) hx hb dX7_chosen_103 hl (by decide) rfl (fun ls hl => ?_)
                        refine lv_iload hx hb dX7_chosen_105 (lv_at hl 0 rfl) ?_
                        refine bn_zeq (tgt := 126) (a := 0) hx hb rfl (by omega) dX7_chosen_107 (by decide) (fun c_24 => ?_) (fun c_24 => ?_)
                        · -- 107 T
                          refine lv_iload hx hb dX7_chosen_126 (lv_at hl 2 rfl) ?_
                          refine lv_istore (lv' := [(6, .int (nI bst)), (8, .int 0), (7, .int (nI (j + 1))), (5, .int ((nI ww) &&& (-(nI ww)))), (4, .int (nI ww)), (0, .ref M), (1, .int (nI p)), (2, .int (nI d)), (3, .int (nI w))]) hx hb dX7_chosen_128 hl (by decide) rfl (fun ls hl => ?_)
                          refine lv_iinc (v := nI ((j + 1) + 1)) (lv' := [(7, .int (nI ((j + 1) + 1))), (6, .int (nI bst)), (8, .int 0), (5, .int ((nI ww) &&& (-(nI ww)))), (4, .int (nI ww)), (0, .ref M), (1, .int (nI p)), (2, .int (nI d)), (3, .int (nI w))]) hx hb dX7_chosen_130 hl (k := 2) rfl (nI_add _ _) (by decide) rfl (fun ls hl => ?_)
                          refine lv_goto (tgt := 53) hx hb dX7_chosen_133 (by decide) ?_
                          exact ih53 (j + 1) bst u1 u2 u3 u4 n1 r1 (by omega) (by first | assumption | omega) (by simp only [chB, ← hb0, mayB, if_pos c_1, if_pos c_2, if_pos c_3, if_neg c_4, if_pos c_9, if_neg c_11, if_pos c_23, if_pos c_24, if_neg hbz, if_true, if_false, Bool.false_eq_true, reduceIte]) H locs ls (ST.eq S (rfl)) (lv_sub hl [0, 1, 3, 4, 5, 6, 7, 8] (by rw [show fI bst = nI bst by unfold fI; rw [if_neg hbz]] <;> rfl))
                        · -- 107 F
                          exact absurd c_24 (by decide)
                      · -- 95 F
                        refine lv_iconst (v := 1) hx hb dX7_chosen_98 (by decide) ?_
                        refine lv_goto (tgt := 103) hx hb dX7_chosen_99 (by decide) ?_
                        refine lv_istore (lv' := [(8, .int 1), (7, .int (nI (j + 1))), (6, .int (nI bst)), (5, .int ((nI ww) &&& (-(nI ww)))), (4, .int (nI ww)), (0, .ref M), (1, .int (nI p)), (2, .int (nI d)), (3, .int (nI w))]) hx hb dX7_chosen_103 hl (by decide) rfl (fun ls hl => ?_)
                        refine lv_iload hx hb dX7_chosen_105 (lv_at hl 0 rfl) ?_
                        refine bn_zeq (tgt := 126) (a := 1) hx hb rfl (by omega) dX7_chosen_107 (by decide) (fun c_25 => ?_) (fun c_25 => ?_)
                        · -- 107 T
                          exact absurd c_25 (by decide)
                        · -- 107 F
                          refine lv_aload_n hx hb dX7_chosen_110 rfl (lv_at hl 5 rfl) ?_
                          refine lv_iload hx hb dX7_chosen_111 (lv_at hl 1 rfl) ?_
                          refine lv_iload_n hx hb dX7_chosen_113 rfl (lv_at hl 6 rfl) ?_
                          refine lv_iload_n hx hb dX7_chosen_114 rfl (lv_at hl 7 rfl) ?_
                          refine after_I (wc := [(M, ob 7 [.ref nw, .ref dr, .ref pa, .int ypa, .ref im, .ref ke, .ref fl, .ref fq, .int yfa, .ref te, .int yty, .int yat, .int yst, .int yso, .int yva, .ref ni, .ref re, .int u1, .int u2, .int u3, .int u4, .ref ma, .ref be]), (nw, aI g 41 gn), (ni, aI g 8 n1), (re, aI g 8 r1)]) (y := yX7_isChoice) C S (va_runV (As := [.int (nI (j + 1)), .int (nI p), .int (nI d)]) (rest := []) C.1 (kX7_isChoice l g M nw dr pa im ke fl fq te ni re ma be ypa yfa yty yat yst yso yva u1 u2 u3 u4 gn n ww nu n1 r1 (j + 1) p d (by first | assumption | omega) (by first | assumption | omega) (by first | assumption | omega) (by first | assumption | omega) (by first | assumption | omega) (by first | assumption | omega) (by first | assumption | omega) (by omega) (by omega) (by omega) (by omega) H.size) (cwV 3 hts gX7_chosen_X7_isChoice rfl rfl rfl (by decide +kernel) ⟨Nat.le_of_ble_eq_true rfl, Nat.le_of_ble_eq_true rfl⟩) (preV_at C S 0 rfl rfl [0, 1, 2, 3] rfl (by decide)) rfl rfl hl.1 rfl (lv_room (Nat.le_of_ble_eq_true rfl)) dX7_chosen_115 ⟨Nat.le_of_ble_eq_true rfl, Nat.le_of_ble_eq_true rfl⟩) [0, 1, 2, 3] [] rfl (wr := []) rfl (by decide) (by decide) (fun r0 w0 H locs hq S => ?_)
                          obtain ⟨rfl, ab'_26, bl'_27, is'_28, ra'_29, nf'_30, ref'_31, rfl⟩ := hq
                          have S : ST g A ss H locs [(M, ob 7 [.ref nw, .ref dr, .ref pa, .int ypa, .ref im, .ref ke, .ref fl, .ref fq, .int yfa, .ref te, .int yty, .int yat, .int yst, .int yso, .int yva, .ref ni, .ref re, .int ab'_26, .int bl'_27, .int is'_28, .int ra'_29, .ref ma, .ref be]), (nw, aI g 41 gn), (ni, aI g 8 nf'_30), (re, aI g 8 ref'_31)] := S
                          refine br_eqB (tgt := 126) hx hb dX7_chosen_118 (by decide) (fun c_32 => ?_) (fun c_32 => ?_)
                          · -- 118 T
                            refine lv_iload hx hb dX7_chosen_126 (lv_at hl 2 rfl) ?_
                            refine lv_istore (lv' := [(6, .int (nI bst)), (8, .int 1), (7, .int (nI (j + 1))), (5, .int ((nI ww) &&& (-(nI ww)))), (4, .int (nI ww)), (0, .ref M), (1, .int (nI p)), (2, .int (nI d)), (3, .int (nI w))]) hx hb dX7_chosen_128 hl (by decide) rfl (fun ls hl => ?_)
                            refine lv_iinc (v := nI ((j + 1) + 1)) (lv' := [(7, .int (nI ((j + 1) + 1))), (6, .int (nI bst)), (8, .int 1), (5, .int ((nI ww) &&& (-(nI ww)))), (4, .int (nI ww)), (0, .ref M), (1, .int (nI p)), (2, .int (nI d)), (3, .int (nI w))]) hx hb dX7_chosen_130 hl (k := 2) rfl (nI_add _ _) (by decide) rfl (fun ls hl => ?_)
                            refine lv_goto (tgt := 53) hx hb dX7_chosen_133 (by decide) ?_
                            exact ih53 (j + 1) bst ab'_26 bl'_27 is'_28 ra'_29 nf'_30 ref'_31 (by omega) (by first | assumption | omega) (by simp only [chB, ← hb0, mayB, if_pos c_1, if_pos c_2, if_pos c_3, if_neg c_4, if_pos c_9, if_neg c_11, if_neg c_23, if_neg c_25, if_neg (Bool.eq_false_iff.mp c_32), if_neg hbz, if_true, if_false, Bool.false_eq_true, reduceIte]) H locs ls (ST.eq S (rfl)) (lv_sub hl [0, 1, 3, 4, 5, 6, 7, 8] (by rw [show fI bst = nI bst by unfold fI; rw [if_neg hbz]] <;> rfl))
                          · -- 118 F
                            refine lv_iload hx hb dX7_chosen_121 (lv_at hl 1 rfl) ?_
                            refine lv_goto (tgt := 128) hx hb dX7_chosen_123 (by decide) ?_
                            refine lv_istore (lv' := [(6, .int (nI (j + 1))), (8, .int 1), (7, .int (nI (j + 1))), (5, .int ((nI ww) &&& (-(nI ww)))), (4, .int (nI ww)), (0, .ref M), (1, .int (nI p)), (2, .int (nI d)), (3, .int (nI w))]) hx hb dX7_chosen_128 hl (by decide) rfl (fun ls hl => ?_)
                            refine lv_iinc (v := nI ((j + 1) + 1)) (lv' := [(7, .int (nI ((j + 1) + 1))), (6, .int (nI (j + 1))), (8, .int 1), (5, .int ((nI ww) &&& (-(nI ww)))), (4, .int (nI ww)), (0, .ref M), (1, .int (nI p)), (2, .int (nI d)), (3, .int (nI w))]) hx hb dX7_chosen_130 hl (k := 2) rfl (nI_add _ _) (by decide) rfl (fun ls hl => ?_)
                            refine lv_goto (tgt := 53) hx hb dX7_chosen_133 (by decide) ?_
                            exact ih53 (j + 1) (j + 1) ab'_26 bl'_27 is'_28 ra'_29 nf'_30 ref'_31 (by omega) (by first | assumption | omega) (by simp only [chB, ← hb0, mayB, if_pos c_1, if_pos c_2, if_pos c_3, if_neg c_4, if_pos c_9, if_neg c_11, if_neg c_23, if_neg c_25, if_pos c_32, if_neg hbz, if_true, if_false, Bool.false_eq_true, reduceIte]) H locs ls (ST.eq S (rfl)) (lv_sub hl [0, 1, 3, 4, 5, 6, 7, 8] (rfl))
        exact loop53 _ 0 0 yab ybl yis yra nf ref (Nat.lt_succ_self _) (by first | assumption | omega) (rfl) H locs ls (ST.eq S (rfl)) (lv_sub hl [0, 1, 2, 3, 4, 5, 6, 7] (rfl))
      · -- 27 F
        refine lv_iconst (v := (-1)) hx hb dX7_chosen_30 (by decide) ?_
        exact ret_I C S hr dX7_chosen_31 ⟨((chk3_bad3 c_3).symm), yab, ybl, yis, yra, nf, ref, (rfl)⟩

theorem inX7_forget_X7 : ∀ w ∈ wsX70, w ∈ wsX7_forget := by decide +kernel
set_option maxRecDepth 100000 in
set_option maxHeartbeats 4000000 in
theorem kX7_forget (l : Launch) (g : GG) (M : Nat) (nw : Nat) (dr : Nat) (pa : Nat) (im : Nat) (ke : Nat) (fl : Nat) (fq : Nat) (te : Nat) (ni : Nat) (re : Nat) (ma : Nat) (be : Nat) (ypa : Int32) (yty : Int32) (yat : Int32) (yst : Int32) (yso : Int32) (yva : Int32) (yab : Int32) (ybl : Int32) (yis : Int32) (yra : Int32) (sz : Nat)  : KI l g yX7_forget wsX7_forget 0 0 [.ref M] [(M, ob 7 [.ref nw, .ref dr, .ref pa, .int ypa, .ref im, .ref ke, .ref fl, .ref fq, .int (nI sz), .ref te, .int yty, .int yat, .int yst, .int yso, .int yva, .ref ni, .ref re, .int yab, .int ybl, .int yis, .int yra, .ref ma, .ref be])] (fun (r : Int32) (w' : va_W) => r = (nI sz) ∧ w' = [(M, ob 7 [.ref nw, .ref dr, .ref pa, .int ypa, .ref im, .ref ke, .ref fl, .ref fq, .int (nI 0), .ref te, .int yty, .int yat, .int yst, .int yso, .int yva, .ref ni, .ref re, .int yab, .int ybl, .int yis, .int yra, .ref ma, .ref be])]) := by
  refine kI_of (cc := cX7_forget) (maxL := 2) (by decide) rfl (Nat.le_of_ble_eq_true rfl) ?_
  intro pp ee ss mm bel mth cd A ls C S hr hl
  obtain ⟨hx, hb, hml, hown, hts⟩ := id C.1
  have hl : lv_has ls 2 [(0, .ref M)] := hl
  obtain ⟨H, hH⟩ : ∃ H, H = ss.heap := ⟨_, rfl⟩
  obtain ⟨locs, hL0⟩ : ∃ L : List Loc, L = [] := ⟨_, rfl⟩
  rw [← hH, ← hL0] at S ⊢
  refine lv_aload_n hx hb dX7_forget_0 rfl (lv_at hl 0 rfl) ?_
  refine top_get C S inX7_forget_X7 rfl 0 rfl 8 (by decide) (by decide +kernel) rfl rfl dX7_forget_1 ?_
  refine lv_istore_n (lv' := [(1, .int (nI sz)), (0, .ref M)]) hx hb dX7_forget_4 rfl hl (by decide) rfl (fun ls hl => ?_)
  refine lv_aload_n hx hb dX7_forget_5 rfl (lv_at hl 1 rfl) ?_
  refine lv_iconst (v := 0) hx hb dX7_forget_6 (by decide) ?_
  refine top_put (ty := .int) C S inX7_forget_X7 tyX7 tyX7_ok nmX7 rfl 0 rfl 8 (by decide) (by decide +kernel) rfl rfl (tyX7_ok 8 (by decide)) rfl rfl (Nat.le_of_ble_eq_true rfl) dX7_forget_7 (fun H locs S => ?_)
  have S : ST g A ss H locs [(M, ob 7 [.ref nw, .ref dr, .ref pa, .int ypa, .ref im, .ref ke, .ref fl, .ref fq, .int 0, .ref te, .int yty, .int yat, .int yst, .int yso, .int yva, .ref ni, .ref re, .int yab, .int ybl, .int yis, .int yra, .ref ma, .ref be])] := S
  refine lv_iload_n hx hb dX7_forget_10 rfl (lv_at hl 0 rfl) ?_
  exact ret_I C S hr dX7_forget_11 ⟨(by first | rfl | simp only []), (by first | rfl | simp only [])⟩

set_option maxRecDepth 100000 in
set_option maxHeartbeats 4000000 in
theorem kX7_seesb (l : Launch) (g : GG) (M : Nat) (nw : Nat) (dr : Nat) (pa : Nat) (im : Nat) (ke : Nat) (fl : Nat) (fq : Nat) (te : Nat) (ni : Nat) (re : Nat) (ma : Nat) (be : Nat) (ypa : Int32) (yfa : Int32) (yty : Int32) (yat : Int32) (yst : Int32) (yso : Int32) (yva : Int32) (yab : Int32) (ybl : Int32) (yis : Int32) (yra : Int32) (x : Int32) (y : Int32) (hbad : okB x 1000 = false) : KI l g yX7_sees wsX7_sees 1 22 [.ref M, .int x, .int y] [(M, ob 7 [.ref nw, .ref dr, .ref pa, .int ypa, .ref im, .ref ke, .ref fl, .ref fq, .int yfa, .ref te, .int yty, .int yat, .int yst, .int yso, .int yva, .ref ni, .ref re, .int yab, .int ybl, .int yis, .int yra, .ref ma, .ref be])] (fun (r : Int32) (w' : va_W) => r = (-1) ∧ w' = [(M, ob 7 [.ref nw, .ref dr, .ref pa, .int ypa, .ref im, .ref ke, .ref fl, .ref fq, .int yfa, .ref te, .int yty, .int yat, .int yst, .int yso, .int yva, .ref ni, .ref re, .int yab, .int ybl, .int yis, .int yra, .ref ma, .ref be])]) := by
  refine kI_of (cc := cX7_sees) (maxL := 3) (by decide) rfl (Nat.le_of_ble_eq_true rfl) ?_
  intro pp ee ss mm bel mth cd A ls C S hr hl
  obtain ⟨hx, hb, hml, hown, hts⟩ := id C.1
  have hl : lv_has ls 3 [(0, .ref M), (1, .int x), (2, .int y)] := hl
  obtain ⟨H, hH⟩ : ∃ H, H = ss.heap := ⟨_, rfl⟩
  obtain ⟨locs, hL0⟩ : ∃ L : List Loc, L = [] := ⟨_, rfl⟩
  rw [← hH, ← hL0] at S ⊢
  refine lv_iload_n hx hb dX7_sees_0 rfl (lv_at hl 1 rfl) ?_
  refine lv_iconst (v := 0) hx hb dX7_sees_1 (by decide) ?_
  refine lv_sipush (v := 999) hx hb dX7_sees_2 (by decide) ?_
  refine after_I (wc := []) (y := yX7_in) C S (va_runS (As := [.int x, .int 0, .int 999]) (rest := []) C.1 (kX7_inz l g x 999 (by first | assumption | omega) H.size) (va_cwS 3 hts gX7_sees_X7_in rfl rfl rfl (by decide +kernel) ⟨Nat.le_of_ble_eq_true rfl, Nat.le_of_ble_eq_true rfl⟩) (preS_at C S [] rfl (by decide)) rfl rfl hl.1 rfl (lv_room (Nat.le_of_ble_eq_true rfl)) dX7_sees_5 ⟨Nat.le_of_ble_eq_true rfl, Nat.le_of_ble_eq_true rfl⟩) [] [0] rfl (wr := [(M, ob 7 [.ref nw, .ref dr, .ref pa, .int ypa, .ref im, .ref ke, .ref fl, .ref fq, .int yfa, .ref te, .int yty, .int yat, .int yst, .int yso, .int yva, .ref ni, .ref re, .int yab, .int ybl, .int yis, .int yra, .ref ma, .ref be])]) rfl (by decide) (by decide) (fun r0 w0 H locs hq S => ?_)
  obtain ⟨rfl, rfl⟩ := hq
  have S : ST g A ss H locs [(M, ob 7 [.ref nw, .ref dr, .ref pa, .int ypa, .ref im, .ref ke, .ref fl, .ref fq, .int yfa, .ref te, .int yty, .int yat, .int yst, .int yso, .int yva, .ref ni, .ref re, .int yab, .int ybl, .int yis, .int yra, .ref ma, .ref be])] := S
  refine br_eqB (tgt := 28) hx hb dX7_sees_8 (by decide) (fun c_1 => ?_) (fun c_1 => ?_)
  · -- 8 T
    refine lv_iconst (v := (-1)) hx hb dX7_sees_28 (by decide) ?_
    exact ret_I C S hr dX7_sees_29 ⟨(by first | rfl | simp only [if_neg (Bool.eq_false_iff.mp c_1)]), (by first | rfl | simp only [if_neg (Bool.eq_false_iff.mp c_1)])⟩
  · -- 8 F
    rw [show okB x (999 + 1) = false from hbad] at c_1; cases c_1

set_option maxRecDepth 100000 in
set_option maxHeartbeats 4000000 in
theorem kX7_seesd (l : Launch) (g : GG) (M : Nat) (nw : Nat) (dr : Nat) (pa : Nat) (im : Nat) (ke : Nat) (fl : Nat) (fq : Nat) (te : Nat) (ni : Nat) (re : Nat) (ma : Nat) (be : Nat) (ypa : Int32) (yfa : Int32) (yty : Int32) (yat : Int32) (yst : Int32) (yso : Int32) (yva : Int32) (yab : Int32) (ybl : Int32) (yis : Int32) (yra : Int32) (p : Nat) (y : Int32) (hp : p < 1000) (hy9 : ¬ y = (-9)) (hbad : okB y 10000 = false) : KI l g yX7_sees wsX7_sees 1 22 [.ref M, .int (nI p), .int y] [(M, ob 7 [.ref nw, .ref dr, .ref pa, .int ypa, .ref im, .ref ke, .ref fl, .ref fq, .int yfa, .ref te, .int yty, .int yat, .int yst, .int yso, .int yva, .ref ni, .ref re, .int yab, .int ybl, .int yis, .int yra, .ref ma, .ref be])] (fun (r : Int32) (w' : va_W) => r = (-1) ∧ w' = [(M, ob 7 [.ref nw, .ref dr, .ref pa, .int ypa, .ref im, .ref ke, .ref fl, .ref fq, .int yfa, .ref te, .int yty, .int yat, .int yst, .int yso, .int yva, .ref ni, .ref re, .int yab, .int ybl, .int yis, .int yra, .ref ma, .ref be])]) := by
  refine kI_of (cc := cX7_sees) (maxL := 3) (by decide) rfl (Nat.le_of_ble_eq_true rfl) ?_
  intro pp ee ss mm bel mth cd A ls C S hr hl
  obtain ⟨hx, hb, hml, hown, hts⟩ := id C.1
  have hl : lv_has ls 3 [(0, .ref M), (1, .int (nI p)), (2, .int y)] := hl
  obtain ⟨H, hH⟩ : ∃ H, H = ss.heap := ⟨_, rfl⟩
  obtain ⟨locs, hL0⟩ : ∃ L : List Loc, L = [] := ⟨_, rfl⟩
  rw [← hH, ← hL0] at S ⊢
  have hop : okB (nI p) (999 + 1) = true := ok_nI (by omega) (by decide)
  refine lv_iload_n hx hb dX7_sees_0 rfl (lv_at hl 1 rfl) ?_
  refine lv_iconst (v := 0) hx hb dX7_sees_1 (by decide) ?_
  refine lv_sipush (v := 999) hx hb dX7_sees_2 (by decide) ?_
  refine after_I (wc := []) (y := yX7_in) C S (va_runS (As := [.int (nI p), .int 0, .int 999]) (rest := []) C.1 (kX7_inz l g (nI p) 999 (by first | assumption | omega) H.size) (va_cwS 3 hts gX7_sees_X7_in rfl rfl rfl (by decide +kernel) ⟨Nat.le_of_ble_eq_true rfl, Nat.le_of_ble_eq_true rfl⟩) (preS_at C S [] rfl (by decide)) rfl rfl hl.1 rfl (lv_room (Nat.le_of_ble_eq_true rfl)) dX7_sees_5 ⟨Nat.le_of_ble_eq_true rfl, Nat.le_of_ble_eq_true rfl⟩) [] [0] rfl (wr := [(M, ob 7 [.ref nw, .ref dr, .ref pa, .int ypa, .ref im, .ref ke, .ref fl, .ref fq, .int yfa, .ref te, .int yty, .int yat, .int yst, .int yso, .int yva, .ref ni, .ref re, .int yab, .int ybl, .int yis, .int yra, .ref ma, .ref be])]) rfl (by decide) (by decide) (fun r0 w0 H locs hq S => ?_)
  obtain ⟨rfl, rfl⟩ := hq
  have S : ST g A ss H locs [(M, ob 7 [.ref nw, .ref dr, .ref pa, .int ypa, .ref im, .ref ke, .ref fl, .ref fq, .int yfa, .ref te, .int yty, .int yat, .int yst, .int yso, .int yva, .ref ni, .ref re, .int yab, .int ybl, .int yis, .int yra, .ref ma, .ref be])] := S
  refine br_eqB (tgt := 28) hx hb dX7_sees_8 (by decide) (fun c_1 => ?_) (fun c_1 => ?_)
  · -- 8 T
    rw [hop] at c_1; cases c_1
  · -- 8 F
    refine lv_iload_n hx hb dX7_sees_11 rfl (lv_at hl 2 rfl) ?_
    refine lv_iconst (v := 0) hx hb dX7_sees_12 (by decide) ?_
    refine lv_sipush (v := 9999) hx hb dX7_sees_13 (by decide) ?_
    refine after_I (wc := []) (y := yX7_in) C S (va_runS (As := [.int y, .int 0, .int 9999]) (rest := []) C.1 (kX7_inz l g y 9999 (by first | assumption | omega) H.size) (va_cwS 3 hts gX7_sees_X7_in rfl rfl rfl (by decide +kernel) ⟨Nat.le_of_ble_eq_true rfl, Nat.le_of_ble_eq_true rfl⟩) (preS_at C S [] rfl (by decide)) rfl rfl hl.1 rfl (lv_room (Nat.le_of_ble_eq_true rfl)) dX7_sees_16 ⟨Nat.le_of_ble_eq_true rfl, Nat.le_of_ble_eq_true rfl⟩) [] [0] rfl (wr := [(M, ob 7 [.ref nw, .ref dr, .ref pa, .int ypa, .ref im, .ref ke, .ref fl, .ref fq, .int yfa, .ref te, .int yty, .int yat, .int yst, .int yso, .int yva, .ref ni, .ref re, .int yab, .int ybl, .int yis, .int yra, .ref ma, .ref be])]) rfl (by decide) (by decide) (fun r0 w0 H locs hq S => ?_)
    obtain ⟨rfl, rfl⟩ := hq
    have S : ST g A ss H locs [(M, ob 7 [.ref nw, .ref dr, .ref pa, .int ypa, .ref im, .ref ke, .ref fl, .ref fq, .int yfa, .ref te, .int yty, .int yat, .int yst, .int yso, .int yva, .ref ni, .ref re, .int yab, .int ybl, .int yis, .int yra, .ref ma, .ref be])] := S
    refine br_neB (tgt := 30) hx hb dX7_sees_19 (by decide) (fun c_2 => ?_) (fun c_2 => ?_)
    · -- 19 T
      rw [show okB y (9999 + 1) = false from hbad] at c_2; cases c_2
    · -- 19 F
      refine lv_iload_n hx hb dX7_sees_22 rfl (lv_at hl 2 rfl) ?_
      refine lv_bipush (v := (-9)) hx hb dX7_sees_23 (by decide) ?_
      refine lv_icmp_eq (tgt := 30) hx hb dX7_sees_25 (by decide) (fun c_3 => ?_) (fun c_3 => ?_)
      · -- 25 T
        exact absurd c_3 hy9
      · -- 25 F
        refine lv_iconst (v := (-1)) hx hb dX7_sees_28 (by decide) ?_
        exact ret_I C S hr dX7_sees_29 ⟨(by first | rfl | simp only [if_pos c_1, if_neg (Bool.eq_false_iff.mp c_2), if_neg c_3]), (by first | rfl | simp only [if_pos c_1, if_neg (Bool.eq_false_iff.mp c_2), if_neg c_3])⟩

theorem inX7_seesf_X7 : ∀ w ∈ wsX70, w ∈ wsX7_sees := by decide +kernel
set_option maxRecDepth 100000 in
set_option maxHeartbeats 4000000 in
theorem kX7_seesf (l : Launch) (g : GG) (M : Nat) (nw : Nat) (dr : Nat) (pa : Nat) (im : Nat) (ke : Nat) (fl : Nat) (fq : Nat) (te : Nat) (ni : Nat) (re : Nat) (ma : Nat) (be : Nat) (ypa : Int32) (yty : Int32) (yat : Int32) (yst : Int32) (yso : Int32) (yva : Int32) (yab : Int32) (ybl : Int32) (yis : Int32) (yra : Int32) (sz : Nat) (lf : Nat → Int32) (bf : Nat → Int32) (p : Nat) (y : Int32) (hp : p < 1000) (hyok : y = (-9) ∨ okB y 10000 = true) (hsz : 6 ≤ sz) (hs6 : sz ≤ 6) : KI l g yX7_sees wsX7_sees 1 22 [.ref M, .int (nI p), .int y] [(M, ob 7 [.ref nw, .ref dr, .ref pa, .int ypa, .ref im, .ref ke, .ref fl, .ref fq, .int (nI sz), .ref te, .int yty, .int yat, .int yst, .int yso, .int yva, .ref ni, .ref re, .int yab, .int ybl, .int yis, .int yra, .ref ma, .ref be]), (fl, aI g 6 lf), (fq, aI g 6 bf)] (fun (r : Int32) (w' : va_W) => r = (-3) ∧ w' = [(M, ob 7 [.ref nw, .ref dr, .ref pa, .int ypa, .ref im, .ref ke, .ref fl, .ref fq, .int (nI sz), .ref te, .int yty, .int yat, .int yst, .int yso, .int yva, .ref ni, .ref re, .int yab, .int ybl, .int yis, .int yra, .ref ma, .ref be]), (fl, aI g 6 lf), (fq, aI g 6 bf)]) := by
  refine kI_of (cc := cX7_sees) (maxL := 3) (by decide) rfl (Nat.le_of_ble_eq_true rfl) ?_
  intro pp ee ss mm bel mth cd A ls C S hr hl
  obtain ⟨hx, hb, hml, hown, hts⟩ := id C.1
  have hl : lv_has ls 3 [(0, .ref M), (1, .int (nI p)), (2, .int y)] := hl
  obtain ⟨H, hH⟩ : ∃ H, H = ss.heap := ⟨_, rfl⟩
  obtain ⟨locs, hL0⟩ : ∃ L : List Loc, L = [] := ⟨_, rfl⟩
  rw [← hH, ← hL0] at S ⊢
  have hop : okB (nI p) (999 + 1) = true := ok_nI (by omega) (by decide)
  refine lv_iload_n hx hb dX7_sees_0 rfl (lv_at hl 1 rfl) ?_
  refine lv_iconst (v := 0) hx hb dX7_sees_1 (by decide) ?_
  refine lv_sipush (v := 999) hx hb dX7_sees_2 (by decide) ?_
  refine after_I (wc := []) (y := yX7_in) C S (va_runS (As := [.int (nI p), .int 0, .int 999]) (rest := []) C.1 (kX7_inz l g (nI p) 999 (by first | assumption | omega) H.size) (va_cwS 3 hts gX7_sees_X7_in rfl rfl rfl (by decide +kernel) ⟨Nat.le_of_ble_eq_true rfl, Nat.le_of_ble_eq_true rfl⟩) (preS_at C S [] rfl (by decide)) rfl rfl hl.1 rfl (lv_room (Nat.le_of_ble_eq_true rfl)) dX7_sees_5 ⟨Nat.le_of_ble_eq_true rfl, Nat.le_of_ble_eq_true rfl⟩) [] [0, 1, 2] rfl (wr := [(M, ob 7 [.ref nw, .ref dr, .ref pa, .int ypa, .ref im, .ref ke, .ref fl, .ref fq, .int (nI sz), .ref te, .int yty, .int yat, .int yst, .int yso, .int yva, .ref ni, .ref re, .int yab, .int ybl, .int yis, .int yra, .ref ma, .ref be]), (fl, aI g 6 lf), (fq, aI g 6 bf)]) rfl (by decide) (by decide) (fun r0 w0 H locs hq S => ?_)
  obtain ⟨rfl, rfl⟩ := hq
  have S : ST g A ss H locs [(M, ob 7 [.ref nw, .ref dr, .ref pa, .int ypa, .ref im, .ref ke, .ref fl, .ref fq, .int (nI sz), .ref te, .int yty, .int yat, .int yst, .int yso, .int yva, .ref ni, .ref re, .int yab, .int ybl, .int yis, .int yra, .ref ma, .ref be]), (fl, aI g 6 lf), (fq, aI g 6 bf)] := S
  refine br_eqB (tgt := 28) hx hb dX7_sees_8 (by decide) (fun c_1 => ?_) (fun c_1 => ?_)
  · -- 8 T
    rw [hop] at c_1; cases c_1
  · -- 8 F
    refine lv_iload_n hx hb dX7_sees_11 rfl (lv_at hl 2 rfl) ?_
    refine lv_iconst (v := 0) hx hb dX7_sees_12 (by decide) ?_
    refine lv_sipush (v := 9999) hx hb dX7_sees_13 (by decide) ?_
    refine after_I (wc := []) (y := yX7_in) C S (va_runS (As := [.int y, .int 0, .int 9999]) (rest := []) C.1 (kX7_inz l g y 9999 (by first | assumption | omega) H.size) (va_cwS 3 hts gX7_sees_X7_in rfl rfl rfl (by decide +kernel) ⟨Nat.le_of_ble_eq_true rfl, Nat.le_of_ble_eq_true rfl⟩) (preS_at C S [] rfl (by decide)) rfl rfl hl.1 rfl (lv_room (Nat.le_of_ble_eq_true rfl)) dX7_sees_16 ⟨Nat.le_of_ble_eq_true rfl, Nat.le_of_ble_eq_true rfl⟩) [] [0, 1, 2] rfl (wr := [(M, ob 7 [.ref nw, .ref dr, .ref pa, .int ypa, .ref im, .ref ke, .ref fl, .ref fq, .int (nI sz), .ref te, .int yty, .int yat, .int yst, .int yso, .int yva, .ref ni, .ref re, .int yab, .int ybl, .int yis, .int yra, .ref ma, .ref be]), (fl, aI g 6 lf), (fq, aI g 6 bf)]) rfl (by decide) (by decide) (fun r0 w0 H locs hq S => ?_)
    obtain ⟨rfl, rfl⟩ := hq
    have S : ST g A ss H locs [(M, ob 7 [.ref nw, .ref dr, .ref pa, .int ypa, .ref im, .ref ke, .ref fl, .ref fq, .int (nI sz), .ref te, .int yty, .int yat, .int yst, .int yso, .int yva, .ref ni, .ref re, .int yab, .int ybl, .int yis, .int yra, .ref ma, .ref be]), (fl, aI g 6 lf), (fq, aI g 6 bf)] := S
    refine br_neB (tgt := 30) hx hb dX7_sees_19 (by decide) (fun c_2 => ?_) (fun c_2 => ?_)
    · -- 19 T
      refine lv_aload_n hx hb dX7_sees_30 rfl (lv_at hl 0 rfl) ?_
      refine top_get C S inX7_seesf_X7 rfl 0 rfl 8 (by decide) (by decide +kernel) rfl rfl dX7_sees_31 ?_
      refine lv_bipush (v := 6) hx hb dX7_sees_34 (by decide) ?_
      refine bn_ine (tgt := 42) (a := sz) (b := 6) hx hb rfl rfl (by omega) (by omega) dX7_sees_36 (by decide) (fun c_3 => ?_) (fun c_3 => ?_)
      · -- 36 T
        exact absurd (by omega) c_3
      · -- 36 F
        refine lv_bipush (v := (-3)) hx hb dX7_sees_39 (by decide) ?_
        exact ret_I C S hr dX7_sees_41 ⟨(by first | rfl | simp only [if_pos c_1, if_pos c_2, if_pos c_3]), (by first | rfl | simp only [if_pos c_1, if_pos c_2, if_pos c_3])⟩
    · -- 19 F
      have hc19 := c_2
      refine lv_iload_n hx hb dX7_sees_22 rfl (lv_at hl 2 rfl) ?_
      refine lv_bipush (v := (-9)) hx hb dX7_sees_23 (by decide) ?_
      refine lv_icmp_eq (tgt := 30) hx hb dX7_sees_25 (by decide) (fun c_4 => ?_) (fun c_4 => ?_)
      · -- 25 T
        refine lv_aload_n hx hb dX7_sees_30 rfl (lv_at hl 0 rfl) ?_
        refine top_get C S inX7_seesf_X7 rfl 0 rfl 8 (by decide) (by decide +kernel) rfl rfl dX7_sees_31 ?_
        refine lv_bipush (v := 6) hx hb dX7_sees_34 (by decide) ?_
        refine bn_ine (tgt := 42) (a := sz) (b := 6) hx hb rfl rfl (by omega) (by omega) dX7_sees_36 (by decide) (fun c_5 => ?_) (fun c_5 => ?_)
        · -- 36 T
          exact absurd (by omega) c_5
        · -- 36 F
          refine lv_bipush (v := (-3)) hx hb dX7_sees_39 (by decide) ?_
          exact ret_I C S hr dX7_sees_41 ⟨(by first | rfl | simp only [if_pos c_1, if_neg (Bool.eq_false_iff.mp c_2), if_pos c_4, if_pos c_5]), (by first | rfl | simp only [if_pos c_1, if_neg (Bool.eq_false_iff.mp c_2), if_pos c_4, if_pos c_5])⟩
      · -- 25 F
        exfalso; rcases hyok with q9 | q9; exact c_4 q9; rw [show okB y (9999 + 1) = true from q9] at hc19; cases hc19

theorem inX7_seesg_X7 : ∀ w ∈ wsX70, w ∈ wsX7_sees := by decide +kernel
set_option maxRecDepth 100000 in
set_option maxHeartbeats 4000000 in
theorem kX7_seesg (l : Launch) (g : GG) (M : Nat) (nw : Nat) (dr : Nat) (pa : Nat) (im : Nat) (ke : Nat) (fl : Nat) (fq : Nat) (te : Nat) (ni : Nat) (re : Nat) (ma : Nat) (be : Nat) (ypa : Int32) (yty : Int32) (yat : Int32) (yst : Int32) (yso : Int32) (yva : Int32) (yab : Int32) (ybl : Int32) (yis : Int32) (yra : Int32) (sz : Nat) (lf : Nat → Int32) (bf : Nat → Int32) (p : Nat) (y : Int32) (hp : p < 1000) (hyok : y = (-9) ∨ okB y 10000 = true) (hsz : sz < 6) : KI l g yX7_sees wsX7_sees 1 22 [.ref M, .int (nI p), .int y] [(M, ob 7 [.ref nw, .ref dr, .ref pa, .int ypa, .ref im, .ref ke, .ref fl, .ref fq, .int (nI sz), .ref te, .int yty, .int yat, .int yst, .int yso, .int yva, .ref ni, .ref re, .int yab, .int ybl, .int yis, .int yra, .ref ma, .ref be]), (fl, aI g 6 lf), (fq, aI g 6 bf)] (fun (r : Int32) (w' : va_W) => r = (nI (sz + 1)) ∧ w' = [(M, ob 7 [.ref nw, .ref dr, .ref pa, .int ypa, .ref im, .ref ke, .ref fl, .ref fq, .int (nI (sz + 1)), .ref te, .int yty, .int yat, .int yst, .int yso, .int yva, .ref ni, .ref re, .int yab, .int ybl, .int yis, .int yra, .ref ma, .ref be]), (fl, aI g 6 (upd lf sz (nI p))), (fq, aI g 6 (upd bf sz y))]) := by
  refine kI_of (cc := cX7_sees) (maxL := 3) (by decide) rfl (Nat.le_of_ble_eq_true rfl) ?_
  intro pp ee ss mm bel mth cd A ls C S hr hl
  obtain ⟨hx, hb, hml, hown, hts⟩ := id C.1
  have hl : lv_has ls 3 [(0, .ref M), (1, .int (nI p)), (2, .int y)] := hl
  obtain ⟨H, hH⟩ : ∃ H, H = ss.heap := ⟨_, rfl⟩
  obtain ⟨locs, hL0⟩ : ∃ L : List Loc, L = [] := ⟨_, rfl⟩
  rw [← hH, ← hL0] at S ⊢
  have hop : okB (nI p) (999 + 1) = true := ok_nI (by omega) (by decide)
  refine lv_iload_n hx hb dX7_sees_0 rfl (lv_at hl 1 rfl) ?_
  refine lv_iconst (v := 0) hx hb dX7_sees_1 (by decide) ?_
  refine lv_sipush (v := 999) hx hb dX7_sees_2 (by decide) ?_
  refine after_I (wc := []) (y := yX7_in) C S (va_runS (As := [.int (nI p), .int 0, .int 999]) (rest := []) C.1 (kX7_inz l g (nI p) 999 (by first | assumption | omega) H.size) (va_cwS 3 hts gX7_sees_X7_in rfl rfl rfl (by decide +kernel) ⟨Nat.le_of_ble_eq_true rfl, Nat.le_of_ble_eq_true rfl⟩) (preS_at C S [] rfl (by decide)) rfl rfl hl.1 rfl (lv_room (Nat.le_of_ble_eq_true rfl)) dX7_sees_5 ⟨Nat.le_of_ble_eq_true rfl, Nat.le_of_ble_eq_true rfl⟩) [] [0, 1, 2] rfl (wr := [(M, ob 7 [.ref nw, .ref dr, .ref pa, .int ypa, .ref im, .ref ke, .ref fl, .ref fq, .int (nI sz), .ref te, .int yty, .int yat, .int yst, .int yso, .int yva, .ref ni, .ref re, .int yab, .int ybl, .int yis, .int yra, .ref ma, .ref be]), (fl, aI g 6 lf), (fq, aI g 6 bf)]) rfl (by decide) (by decide) (fun r0 w0 H locs hq S => ?_)
  obtain ⟨rfl, rfl⟩ := hq
  have S : ST g A ss H locs [(M, ob 7 [.ref nw, .ref dr, .ref pa, .int ypa, .ref im, .ref ke, .ref fl, .ref fq, .int (nI sz), .ref te, .int yty, .int yat, .int yst, .int yso, .int yva, .ref ni, .ref re, .int yab, .int ybl, .int yis, .int yra, .ref ma, .ref be]), (fl, aI g 6 lf), (fq, aI g 6 bf)] := S
  refine br_eqB (tgt := 28) hx hb dX7_sees_8 (by decide) (fun c_1 => ?_) (fun c_1 => ?_)
  · -- 8 T
    rw [hop] at c_1; cases c_1
  · -- 8 F
    refine lv_iload_n hx hb dX7_sees_11 rfl (lv_at hl 2 rfl) ?_
    refine lv_iconst (v := 0) hx hb dX7_sees_12 (by decide) ?_
    refine lv_sipush (v := 9999) hx hb dX7_sees_13 (by decide) ?_
    refine after_I (wc := []) (y := yX7_in) C S (va_runS (As := [.int y, .int 0, .int 9999]) (rest := []) C.1 (kX7_inz l g y 9999 (by first | assumption | omega) H.size) (va_cwS 3 hts gX7_sees_X7_in rfl rfl rfl (by decide +kernel) ⟨Nat.le_of_ble_eq_true rfl, Nat.le_of_ble_eq_true rfl⟩) (preS_at C S [] rfl (by decide)) rfl rfl hl.1 rfl (lv_room (Nat.le_of_ble_eq_true rfl)) dX7_sees_16 ⟨Nat.le_of_ble_eq_true rfl, Nat.le_of_ble_eq_true rfl⟩) [] [0, 1, 2] rfl (wr := [(M, ob 7 [.ref nw, .ref dr, .ref pa, .int ypa, .ref im, .ref ke, .ref fl, .ref fq, .int (nI sz), .ref te, .int yty, .int yat, .int yst, .int yso, .int yva, .ref ni, .ref re, .int yab, .int ybl, .int yis, .int yra, .ref ma, .ref be]), (fl, aI g 6 lf), (fq, aI g 6 bf)]) rfl (by decide) (by decide) (fun r0 w0 H locs hq S => ?_)
    obtain ⟨rfl, rfl⟩ := hq
    have S : ST g A ss H locs [(M, ob 7 [.ref nw, .ref dr, .ref pa, .int ypa, .ref im, .ref ke, .ref fl, .ref fq, .int (nI sz), .ref te, .int yty, .int yat, .int yst, .int yso, .int yva, .ref ni, .ref re, .int yab, .int ybl, .int yis, .int yra, .ref ma, .ref be]), (fl, aI g 6 lf), (fq, aI g 6 bf)] := S
    refine br_neB (tgt := 30) hx hb dX7_sees_19 (by decide) (fun c_2 => ?_) (fun c_2 => ?_)
    · -- 19 T
      refine lv_aload_n hx hb dX7_sees_30 rfl (lv_at hl 0 rfl) ?_
      refine top_get C S inX7_seesg_X7 rfl 0 rfl 8 (by decide) (by decide +kernel) rfl rfl dX7_sees_31 ?_
      refine lv_bipush (v := 6) hx hb dX7_sees_34 (by decide) ?_
      refine bn_ine (tgt := 42) (a := sz) (b := 6) hx hb rfl rfl (by omega) (by omega) dX7_sees_36 (by decide) (fun c_3 => ?_) (fun c_3 => ?_)
      · -- 36 T
        refine lv_aload_n hx hb dX7_sees_42 rfl (lv_at hl 0 rfl) ?_
        refine top_get C S inX7_seesg_X7 rfl 0 rfl 6 (by decide) (by decide +kernel) rfl rfl dX7_sees_43 ?_
        refine lv_aload_n hx hb dX7_sees_46 rfl (lv_at hl 0 rfl) ?_
        refine top_get C S inX7_seesg_X7 rfl 0 rfl 8 (by decide) (by decide +kernel) rfl rfl dX7_sees_47 ?_
        refine lv_iload_n hx hb dX7_sees_50 rfl (lv_at hl 1 rfl) ?_
        refine top_ist C S 1 rfl (j := sz) rfl (by omega) (by decide) dX7_sees_51 (fun H locs S => ?_)
        have S : ST g A ss H locs [(M, ob 7 [.ref nw, .ref dr, .ref pa, .int ypa, .ref im, .ref ke, .ref fl, .ref fq, .int (nI sz), .ref te, .int yty, .int yat, .int yst, .int yso, .int yva, .ref ni, .ref re, .int yab, .int ybl, .int yis, .int yra, .ref ma, .ref be]), (fl, aI g 6 (upd lf sz (nI p))), (fq, aI g 6 bf)] := S
        refine lv_aload_n hx hb dX7_sees_52 rfl (lv_at hl 0 rfl) ?_
        refine top_get C S inX7_seesg_X7 rfl 0 rfl 7 (by decide) (by decide +kernel) rfl rfl dX7_sees_53 ?_
        refine lv_aload_n hx hb dX7_sees_56 rfl (lv_at hl 0 rfl) ?_
        refine top_get C S inX7_seesg_X7 rfl 0 rfl 8 (by decide) (by decide +kernel) rfl rfl dX7_sees_57 ?_
        refine lv_iload_n hx hb dX7_sees_60 rfl (lv_at hl 2 rfl) ?_
        refine top_ist C S 2 rfl (j := sz) rfl (by omega) (by decide) dX7_sees_61 (fun H locs S => ?_)
        have S : ST g A ss H locs [(M, ob 7 [.ref nw, .ref dr, .ref pa, .int ypa, .ref im, .ref ke, .ref fl, .ref fq, .int (nI sz), .ref te, .int yty, .int yat, .int yst, .int yso, .int yva, .ref ni, .ref re, .int yab, .int ybl, .int yis, .int yra, .ref ma, .ref be]), (fl, aI g 6 (upd lf sz (nI p))), (fq, aI g 6 (upd bf sz y))] := S
        refine lv_aload_n hx hb dX7_sees_62 rfl (lv_at hl 0 rfl) ?_
        refine lv_dup hx hb dX7_sees_63 rfl ?_
        refine top_get C S inX7_seesg_X7 rfl 0 rfl 8 (by decide) (by decide +kernel) rfl rfl dX7_sees_64 ?_
        refine lv_iconst (v := 1) hx hb dX7_sees_67 (by decide) ?_
        refine lv_iadd hx hb dX7_sees_68 ?_
        refine top_eq (y := nI (sz + 1)) (nI_add _ _) ?_
        refine top_put (ty := .int) C S inX7_seesg_X7 tyX7 tyX7_ok nmX7 rfl 0 rfl 8 (by decide) (by decide +kernel) rfl rfl (tyX7_ok 8 (by decide)) rfl rfl (Nat.le_of_ble_eq_true rfl) dX7_sees_69 (fun H locs S => ?_)
        have S : ST g A ss H locs [(M, ob 7 [.ref nw, .ref dr, .ref pa, .int ypa, .ref im, .ref ke, .ref fl, .ref fq, .int (nI (sz + 1)), .ref te, .int yty, .int yat, .int yst, .int yso, .int yva, .ref ni, .ref re, .int yab, .int ybl, .int yis, .int yra, .ref ma, .ref be]), (fl, aI g 6 (upd lf sz (nI p))), (fq, aI g 6 (upd bf sz y))] := S
        refine lv_aload_n hx hb dX7_sees_72 rfl (lv_at hl 0 rfl) ?_
        refine top_get C S inX7_seesg_X7 rfl 0 rfl 8 (by decide) (by decide +kernel) rfl rfl dX7_sees_73 ?_
        exact ret_I C S hr dX7_sees_76 ⟨(by first | rfl | simp only [if_pos c_1, if_pos c_2, if_neg c_3]), (by first | rfl | simp only [if_pos c_1, if_pos c_2, if_neg c_3])⟩
      · -- 36 F
        exact absurd c_3 (by omega)
    · -- 19 F
      have hc19 := c_2
      refine lv_iload_n hx hb dX7_sees_22 rfl (lv_at hl 2 rfl) ?_
      refine lv_bipush (v := (-9)) hx hb dX7_sees_23 (by decide) ?_
      refine lv_icmp_eq (tgt := 30) hx hb dX7_sees_25 (by decide) (fun c_4 => ?_) (fun c_4 => ?_)
      · -- 25 T
        refine lv_aload_n hx hb dX7_sees_30 rfl (lv_at hl 0 rfl) ?_
        refine top_get C S inX7_seesg_X7 rfl 0 rfl 8 (by decide) (by decide +kernel) rfl rfl dX7_sees_31 ?_
        refine lv_bipush (v := 6) hx hb dX7_sees_34 (by decide) ?_
        refine bn_ine (tgt := 42) (a := sz) (b := 6) hx hb rfl rfl (by omega) (by omega) dX7_sees_36 (by decide) (fun c_5 => ?_) (fun c_5 => ?_)
        · -- 36 T
          refine lv_aload_n hx hb dX7_sees_42 rfl (lv_at hl 0 rfl) ?_
          refine top_get C S inX7_seesg_X7 rfl 0 rfl 6 (by decide) (by decide +kernel) rfl rfl dX7_sees_43 ?_
          refine lv_aload_n hx hb dX7_sees_46 rfl (lv_at hl 0 rfl) ?_
          refine top_get C S inX7_seesg_X7 rfl 0 rfl 8 (by decide) (by decide +kernel) rfl rfl dX7_sees_47 ?_
          refine lv_iload_n hx hb dX7_sees_50 rfl (lv_at hl 1 rfl) ?_
          refine top_ist C S 1 rfl (j := sz) rfl (by omega) (by decide) dX7_sees_51 (fun H locs S => ?_)
          have S : ST g A ss H locs [(M, ob 7 [.ref nw, .ref dr, .ref pa, .int ypa, .ref im, .ref ke, .ref fl, .ref fq, .int (nI sz), .ref te, .int yty, .int yat, .int yst, .int yso, .int yva, .ref ni, .ref re, .int yab, .int ybl, .int yis, .int yra, .ref ma, .ref be]), (fl, aI g 6 (upd lf sz (nI p))), (fq, aI g 6 bf)] := S
          refine lv_aload_n hx hb dX7_sees_52 rfl (lv_at hl 0 rfl) ?_
          refine top_get C S inX7_seesg_X7 rfl 0 rfl 7 (by decide) (by decide +kernel) rfl rfl dX7_sees_53 ?_
          refine lv_aload_n hx hb dX7_sees_56 rfl (lv_at hl 0 rfl) ?_
          refine top_get C S inX7_seesg_X7 rfl 0 rfl 8 (by decide) (by decide +kernel) rfl rfl dX7_sees_57 ?_
          refine lv_iload_n hx hb dX7_sees_60 rfl (lv_at hl 2 rfl) ?_
          refine top_ist C S 2 rfl (j := sz) rfl (by omega) (by decide) dX7_sees_61 (fun H locs S => ?_)
          have S : ST g A ss H locs [(M, ob 7 [.ref nw, .ref dr, .ref pa, .int ypa, .ref im, .ref ke, .ref fl, .ref fq, .int (nI sz), .ref te, .int yty, .int yat, .int yst, .int yso, .int yva, .ref ni, .ref re, .int yab, .int ybl, .int yis, .int yra, .ref ma, .ref be]), (fl, aI g 6 (upd lf sz (nI p))), (fq, aI g 6 (upd bf sz y))] := S
          refine lv_aload_n hx hb dX7_sees_62 rfl (lv_at hl 0 rfl) ?_
          refine lv_dup hx hb dX7_sees_63 rfl ?_
          refine top_get C S inX7_seesg_X7 rfl 0 rfl 8 (by decide) (by decide +kernel) rfl rfl dX7_sees_64 ?_
          refine lv_iconst (v := 1) hx hb dX7_sees_67 (by decide) ?_
          refine lv_iadd hx hb dX7_sees_68 ?_
          refine top_eq (y := nI (sz + 1)) (nI_add _ _) ?_
          refine top_put (ty := .int) C S inX7_seesg_X7 tyX7 tyX7_ok nmX7 rfl 0 rfl 8 (by decide) (by decide +kernel) rfl rfl (tyX7_ok 8 (by decide)) rfl rfl (Nat.le_of_ble_eq_true rfl) dX7_sees_69 (fun H locs S => ?_)
          have S : ST g A ss H locs [(M, ob 7 [.ref nw, .ref dr, .ref pa, .int ypa, .ref im, .ref ke, .ref fl, .ref fq, .int (nI (sz + 1)), .ref te, .int yty, .int yat, .int yst, .int yso, .int yva, .ref ni, .ref re, .int yab, .int ybl, .int yis, .int yra, .ref ma, .ref be]), (fl, aI g 6 (upd lf sz (nI p))), (fq, aI g 6 (upd bf sz y))] := S
          refine lv_aload_n hx hb dX7_sees_72 rfl (lv_at hl 0 rfl) ?_
          refine top_get C S inX7_seesg_X7 rfl 0 rfl 8 (by decide) (by decide +kernel) rfl rfl dX7_sees_73 ?_
          exact ret_I C S hr dX7_sees_76 ⟨(by first | rfl | simp only [if_pos c_1, if_neg (Bool.eq_false_iff.mp c_2), if_pos c_4, if_neg c_5]), (by first | rfl | simp only [if_pos c_1, if_neg (Bool.eq_false_iff.mp c_2), if_pos c_4, if_neg c_5])⟩
        · -- 36 F
          exact absurd c_5 (by omega)
      · -- 25 F
        exfalso; rcases hyok with q9 | q9; exact c_4 q9; rw [show okB y (9999 + 1) = true from q9] at hc19; cases hc19

set_option maxRecDepth 100000 in
set_option maxHeartbeats 4000000 in
theorem kX7_typeb (l : Launch) (g : GG) (M : Nat) (nw : Nat) (dr : Nat) (pa : Nat) (im : Nat) (ke : Nat) (fl : Nat) (fq : Nat) (te : Nat) (ni : Nat) (re : Nat) (ma : Nat) (be : Nat) (ypa : Int32) (yfa : Int32) (yty : Int32) (yat : Int32) (yst : Int32) (yso : Int32) (yva : Int32) (yab : Int32) (ybl : Int32) (yis : Int32) (yra : Int32) (x : Int32) (hbad : okB x 256 = false) : KI l g yX7_type wsX7_type 1 22 [.ref M, .int x] [(M, ob 7 [.ref nw, .ref dr, .ref pa, .int ypa, .ref im, .ref ke, .ref fl, .ref fq, .int yfa, .ref te, .int yty, .int yat, .int yst, .int yso, .int yva, .ref ni, .ref re, .int yab, .int ybl, .int yis, .int yra, .ref ma, .ref be])] (fun (r : Int32) (w' : va_W) => r = (-1) ∧ w' = [(M, ob 7 [.ref nw, .ref dr, .ref pa, .int ypa, .ref im, .ref ke, .ref fl, .ref fq, .int yfa, .ref te, .int yty, .int yat, .int yst, .int yso, .int yva, .ref ni, .ref re, .int yab, .int ybl, .int yis, .int yra, .ref ma, .ref be])]) := by
  refine kI_of (cc := cX7_type) (maxL := 2) (by decide) rfl (Nat.le_of_ble_eq_true rfl) ?_
  intro pp ee ss mm bel mth cd A ls C S hr hl
  obtain ⟨hx, hb, hml, hown, hts⟩ := id C.1
  have hl : lv_has ls 2 [(0, .ref M), (1, .int x)] := hl
  obtain ⟨H, hH⟩ : ∃ H, H = ss.heap := ⟨_, rfl⟩
  obtain ⟨locs, hL0⟩ : ∃ L : List Loc, L = [] := ⟨_, rfl⟩
  rw [← hH, ← hL0] at S ⊢
  refine lv_iload_n hx hb dX7_type_0 rfl (lv_at hl 1 rfl) ?_
  refine lv_iconst (v := 0) hx hb dX7_type_1 (by decide) ?_
  refine lv_sipush (v := 255) hx hb dX7_type_2 (by decide) ?_
  refine after_I (wc := []) (y := yX7_in) C S (va_runS (As := [.int x, .int 0, .int 255]) (rest := []) C.1 (kX7_inz l g x 255 (by first | assumption | omega) H.size) (va_cwS 3 hts gX7_type_X7_in rfl rfl rfl (by decide +kernel) ⟨Nat.le_of_ble_eq_true rfl, Nat.le_of_ble_eq_true rfl⟩) (preS_at C S [] rfl (by decide)) rfl rfl hl.1 rfl (lv_room (Nat.le_of_ble_eq_true rfl)) dX7_type_5 ⟨Nat.le_of_ble_eq_true rfl, Nat.le_of_ble_eq_true rfl⟩) [] [0] rfl (wr := [(M, ob 7 [.ref nw, .ref dr, .ref pa, .int ypa, .ref im, .ref ke, .ref fl, .ref fq, .int yfa, .ref te, .int yty, .int yat, .int yst, .int yso, .int yva, .ref ni, .ref re, .int yab, .int ybl, .int yis, .int yra, .ref ma, .ref be])]) rfl (by decide) (by decide) (fun r0 w0 H locs hq S => ?_)
  obtain ⟨rfl, rfl⟩ := hq
  have S : ST g A ss H locs [(M, ob 7 [.ref nw, .ref dr, .ref pa, .int ypa, .ref im, .ref ke, .ref fl, .ref fq, .int yfa, .ref te, .int yty, .int yat, .int yst, .int yso, .int yva, .ref ni, .ref re, .int yab, .int ybl, .int yis, .int yra, .ref ma, .ref be])] := S
  refine br_neB (tgt := 13) hx hb dX7_type_8 (by decide) (fun c_1 => ?_) (fun c_1 => ?_)
  · -- 8 T
    rw [show okB x (255 + 1) = false from hbad] at c_1; cases c_1
  · -- 8 F
    refine lv_iconst (v := (-1)) hx hb dX7_type_11 (by decide) ?_
    exact ret_I C S hr dX7_type_12 ⟨(by first | rfl | simp only [if_neg (Bool.eq_false_iff.mp c_1)]), (by first | rfl | simp only [if_neg (Bool.eq_false_iff.mp c_1)])⟩

theorem inX7_typef_X7 : ∀ w ∈ wsX70, w ∈ wsX7_type := by decide +kernel
set_option maxRecDepth 100000 in
set_option maxHeartbeats 4000000 in
theorem kX7_typef (l : Launch) (g : GG) (M : Nat) (nw : Nat) (dr : Nat) (pa : Nat) (im : Nat) (ke : Nat) (fl : Nat) (fq : Nat) (te : Nat) (ni : Nat) (re : Nat) (ma : Nat) (be : Nat) (ypa : Int32) (yfa : Int32) (yat : Int32) (yst : Int32) (yso : Int32) (yva : Int32) (yab : Int32) (ybl : Int32) (yis : Int32) (yra : Int32) (tz : Nat) (tx : Nat → Int32) (c : Nat) (hc : c < 256) (htz : 100 ≤ tz) (htz1 : tz ≤ 100) : KI l g yX7_type wsX7_type 1 22 [.ref M, .int (nI c)] [(M, ob 7 [.ref nw, .ref dr, .ref pa, .int ypa, .ref im, .ref ke, .ref fl, .ref fq, .int yfa, .ref te, .int (nI tz), .int yat, .int yst, .int yso, .int yva, .ref ni, .ref re, .int yab, .int ybl, .int yis, .int yra, .ref ma, .ref be]), (te, aI g 100 tx)] (fun (r : Int32) (w' : va_W) => r = (-3) ∧ w' = [(M, ob 7 [.ref nw, .ref dr, .ref pa, .int ypa, .ref im, .ref ke, .ref fl, .ref fq, .int yfa, .ref te, .int (nI tz), .int yat, .int yst, .int yso, .int yva, .ref ni, .ref re, .int yab, .int ybl, .int yis, .int yra, .ref ma, .ref be]), (te, aI g 100 tx)]) := by
  refine kI_of (cc := cX7_type) (maxL := 2) (by decide) rfl (Nat.le_of_ble_eq_true rfl) ?_
  intro pp ee ss mm bel mth cd A ls C S hr hl
  obtain ⟨hx, hb, hml, hown, hts⟩ := id C.1
  have hl : lv_has ls 2 [(0, .ref M), (1, .int (nI c))] := hl
  obtain ⟨H, hH⟩ : ∃ H, H = ss.heap := ⟨_, rfl⟩
  obtain ⟨locs, hL0⟩ : ∃ L : List Loc, L = [] := ⟨_, rfl⟩
  rw [← hH, ← hL0] at S ⊢
  have hoc : okB (nI c) (255 + 1) = true := ok_nI (by omega) (by decide)
  refine lv_iload_n hx hb dX7_type_0 rfl (lv_at hl 1 rfl) ?_
  refine lv_iconst (v := 0) hx hb dX7_type_1 (by decide) ?_
  refine lv_sipush (v := 255) hx hb dX7_type_2 (by decide) ?_
  refine after_I (wc := []) (y := yX7_in) C S (va_runS (As := [.int (nI c), .int 0, .int 255]) (rest := []) C.1 (kX7_inz l g (nI c) 255 (by first | assumption | omega) H.size) (va_cwS 3 hts gX7_type_X7_in rfl rfl rfl (by decide +kernel) ⟨Nat.le_of_ble_eq_true rfl, Nat.le_of_ble_eq_true rfl⟩) (preS_at C S [] rfl (by decide)) rfl rfl hl.1 rfl (lv_room (Nat.le_of_ble_eq_true rfl)) dX7_type_5 ⟨Nat.le_of_ble_eq_true rfl, Nat.le_of_ble_eq_true rfl⟩) [] [0, 1] rfl (wr := [(M, ob 7 [.ref nw, .ref dr, .ref pa, .int ypa, .ref im, .ref ke, .ref fl, .ref fq, .int yfa, .ref te, .int (nI tz), .int yat, .int yst, .int yso, .int yva, .ref ni, .ref re, .int yab, .int ybl, .int yis, .int yra, .ref ma, .ref be]), (te, aI g 100 tx)]) rfl (by decide) (by decide) (fun r0 w0 H locs hq S => ?_)
  obtain ⟨rfl, rfl⟩ := hq
  have S : ST g A ss H locs [(M, ob 7 [.ref nw, .ref dr, .ref pa, .int ypa, .ref im, .ref ke, .ref fl, .ref fq, .int yfa, .ref te, .int (nI tz), .int yat, .int yst, .int yso, .int yva, .ref ni, .ref re, .int yab, .int ybl, .int yis, .int yra, .ref ma, .ref be]), (te, aI g 100 tx)] := S
  refine br_neB (tgt := 13) hx hb dX7_type_8 (by decide) (fun c_1 => ?_) (fun c_1 => ?_)
  · -- 8 T
    refine lv_aload_n hx hb dX7_type_13 rfl (lv_at hl 0 rfl) ?_
    refine top_get C S inX7_typef_X7 rfl 0 rfl 10 (by decide) (by decide +kernel) rfl rfl dX7_type_14 ?_
    refine lv_bipush (v := 100) hx hb dX7_type_17 (by decide) ?_
    refine bn_ine (tgt := 25) (a := tz) (b := 100) hx hb rfl rfl (by omega) (by omega) dX7_type_19 (by decide) (fun c_2 => ?_) (fun c_2 => ?_)
    · -- 19 T
      exact absurd (by omega) c_2
    · -- 19 F
      refine lv_bipush (v := (-3)) hx hb dX7_type_22 (by decide) ?_
      exact ret_I C S hr dX7_type_24 ⟨(by first | rfl | simp only [if_pos c_1, if_pos c_2]), (by first | rfl | simp only [if_pos c_1, if_pos c_2])⟩
  · -- 8 F
    rw [hoc] at c_1; cases c_1

theorem inX7_typeg_X7 : ∀ w ∈ wsX70, w ∈ wsX7_type := by decide +kernel
set_option maxRecDepth 100000 in
set_option maxHeartbeats 4000000 in
theorem kX7_typeg (l : Launch) (g : GG) (M : Nat) (nw : Nat) (dr : Nat) (pa : Nat) (im : Nat) (ke : Nat) (fl : Nat) (fq : Nat) (te : Nat) (ni : Nat) (re : Nat) (ma : Nat) (be : Nat) (ypa : Int32) (yfa : Int32) (yat : Int32) (yst : Int32) (yso : Int32) (yva : Int32) (yab : Int32) (ybl : Int32) (yis : Int32) (yra : Int32) (tz : Nat) (tx : Nat → Int32) (c : Nat) (hc : c < 256) (htz : tz < 100) : KI l g yX7_type wsX7_type 1 22 [.ref M, .int (nI c)] [(M, ob 7 [.ref nw, .ref dr, .ref pa, .int ypa, .ref im, .ref ke, .ref fl, .ref fq, .int yfa, .ref te, .int (nI tz), .int yat, .int yst, .int yso, .int yva, .ref ni, .ref re, .int yab, .int ybl, .int yis, .int yra, .ref ma, .ref be]), (te, aI g 100 tx)] (fun (r : Int32) (w' : va_W) => r = (nI (tz + 1)) ∧ w' = [(M, ob 7 [.ref nw, .ref dr, .ref pa, .int ypa, .ref im, .ref ke, .ref fl, .ref fq, .int yfa, .ref te, .int (nI (tz + 1)), .int yat, .int yst, .int yso, .int yva, .ref ni, .ref re, .int yab, .int ybl, .int yis, .int yra, .ref ma, .ref be]), (te, aI g 100 (upd tx tz (nI c)))]) := by
  refine kI_of (cc := cX7_type) (maxL := 2) (by decide) rfl (Nat.le_of_ble_eq_true rfl) ?_
  intro pp ee ss mm bel mth cd A ls C S hr hl
  obtain ⟨hx, hb, hml, hown, hts⟩ := id C.1
  have hl : lv_has ls 2 [(0, .ref M), (1, .int (nI c))] := hl
  obtain ⟨H, hH⟩ : ∃ H, H = ss.heap := ⟨_, rfl⟩
  obtain ⟨locs, hL0⟩ : ∃ L : List Loc, L = [] := ⟨_, rfl⟩
  rw [← hH, ← hL0] at S ⊢
  have hoc : okB (nI c) (255 + 1) = true := ok_nI (by omega) (by decide)
  refine lv_iload_n hx hb dX7_type_0 rfl (lv_at hl 1 rfl) ?_
  refine lv_iconst (v := 0) hx hb dX7_type_1 (by decide) ?_
  refine lv_sipush (v := 255) hx hb dX7_type_2 (by decide) ?_
  refine after_I (wc := []) (y := yX7_in) C S (va_runS (As := [.int (nI c), .int 0, .int 255]) (rest := []) C.1 (kX7_inz l g (nI c) 255 (by first | assumption | omega) H.size) (va_cwS 3 hts gX7_type_X7_in rfl rfl rfl (by decide +kernel) ⟨Nat.le_of_ble_eq_true rfl, Nat.le_of_ble_eq_true rfl⟩) (preS_at C S [] rfl (by decide)) rfl rfl hl.1 rfl (lv_room (Nat.le_of_ble_eq_true rfl)) dX7_type_5 ⟨Nat.le_of_ble_eq_true rfl, Nat.le_of_ble_eq_true rfl⟩) [] [0, 1] rfl (wr := [(M, ob 7 [.ref nw, .ref dr, .ref pa, .int ypa, .ref im, .ref ke, .ref fl, .ref fq, .int yfa, .ref te, .int (nI tz), .int yat, .int yst, .int yso, .int yva, .ref ni, .ref re, .int yab, .int ybl, .int yis, .int yra, .ref ma, .ref be]), (te, aI g 100 tx)]) rfl (by decide) (by decide) (fun r0 w0 H locs hq S => ?_)
  obtain ⟨rfl, rfl⟩ := hq
  have S : ST g A ss H locs [(M, ob 7 [.ref nw, .ref dr, .ref pa, .int ypa, .ref im, .ref ke, .ref fl, .ref fq, .int yfa, .ref te, .int (nI tz), .int yat, .int yst, .int yso, .int yva, .ref ni, .ref re, .int yab, .int ybl, .int yis, .int yra, .ref ma, .ref be]), (te, aI g 100 tx)] := S
  refine br_neB (tgt := 13) hx hb dX7_type_8 (by decide) (fun c_1 => ?_) (fun c_1 => ?_)
  · -- 8 T
    refine lv_aload_n hx hb dX7_type_13 rfl (lv_at hl 0 rfl) ?_
    refine top_get C S inX7_typeg_X7 rfl 0 rfl 10 (by decide) (by decide +kernel) rfl rfl dX7_type_14 ?_
    refine lv_bipush (v := 100) hx hb dX7_type_17 (by decide) ?_
    refine bn_ine (tgt := 25) (a := tz) (b := 100) hx hb rfl rfl (by omega) (by omega) dX7_type_19 (by decide) (fun c_2 => ?_) (fun c_2 => ?_)
    · -- 19 T
      refine lv_aload_n hx hb dX7_type_25 rfl (lv_at hl 0 rfl) ?_
      refine top_get C S inX7_typeg_X7 rfl 0 rfl 9 (by decide) (by decide +kernel) rfl rfl dX7_type_26 ?_
      refine lv_aload_n hx hb dX7_type_29 rfl (lv_at hl 0 rfl) ?_
      refine top_get C S inX7_typeg_X7 rfl 0 rfl 10 (by decide) (by decide +kernel) rfl rfl dX7_type_30 ?_
      refine lv_iload_n hx hb dX7_type_33 rfl (lv_at hl 1 rfl) ?_
      refine top_ist C S 1 rfl (j := tz) rfl (by omega) (by decide) dX7_type_34 (fun H locs S => ?_)
      have S : ST g A ss H locs [(M, ob 7 [.ref nw, .ref dr, .ref pa, .int ypa, .ref im, .ref ke, .ref fl, .ref fq, .int yfa, .ref te, .int (nI tz), .int yat, .int yst, .int yso, .int yva, .ref ni, .ref re, .int yab, .int ybl, .int yis, .int yra, .ref ma, .ref be]), (te, aI g 100 (upd tx tz (nI c)))] := S
      refine lv_aload_n hx hb dX7_type_35 rfl (lv_at hl 0 rfl) ?_
      refine lv_dup hx hb dX7_type_36 rfl ?_
      refine top_get C S inX7_typeg_X7 rfl 0 rfl 10 (by decide) (by decide +kernel) rfl rfl dX7_type_37 ?_
      refine lv_iconst (v := 1) hx hb dX7_type_40 (by decide) ?_
      refine lv_iadd hx hb dX7_type_41 ?_
      refine top_eq (y := nI (tz + 1)) (nI_add _ _) ?_
      refine top_put (ty := .int) C S inX7_typeg_X7 tyX7 tyX7_ok nmX7 rfl 0 rfl 10 (by decide) (by decide +kernel) rfl rfl (tyX7_ok 10 (by decide)) rfl rfl (Nat.le_of_ble_eq_true rfl) dX7_type_42 (fun H locs S => ?_)
      have S : ST g A ss H locs [(M, ob 7 [.ref nw, .ref dr, .ref pa, .int ypa, .ref im, .ref ke, .ref fl, .ref fq, .int yfa, .ref te, .int (nI (tz + 1)), .int yat, .int yst, .int yso, .int yva, .ref ni, .ref re, .int yab, .int ybl, .int yis, .int yra, .ref ma, .ref be]), (te, aI g 100 (upd tx tz (nI c)))] := S
      refine lv_aload_n hx hb dX7_type_45 rfl (lv_at hl 0 rfl) ?_
      refine top_get C S inX7_typeg_X7 rfl 0 rfl 10 (by decide) (by decide +kernel) rfl rfl dX7_type_46 ?_
      exact ret_I C S hr dX7_type_49 ⟨(by first | rfl | simp only [if_pos c_1, if_neg c_2]), (by first | rfl | simp only [if_pos c_1, if_neg c_2])⟩
    · -- 19 F
      exact absurd c_2 (by omega)
  · -- 8 F
    rw [hoc] at c_1; cases c_1

theorem inX7_clear_X7 : ∀ w ∈ wsX70, w ∈ wsX7_clear := by decide +kernel
set_option maxRecDepth 100000 in
set_option maxHeartbeats 4000000 in
theorem kX7_clear (l : Launch) (g : GG) (M : Nat) (nw : Nat) (dr : Nat) (pa : Nat) (im : Nat) (ke : Nat) (fl : Nat) (fq : Nat) (te : Nat) (ni : Nat) (re : Nat) (ma : Nat) (be : Nat) (ypa : Int32) (yfa : Int32) (yat : Int32) (yst : Int32) (yso : Int32) (yva : Int32) (yab : Int32) (ybl : Int32) (yis : Int32) (yra : Int32) (tz : Nat)  : KI l g yX7_clear wsX7_clear 0 0 [.ref M] [(M, ob 7 [.ref nw, .ref dr, .ref pa, .int ypa, .ref im, .ref ke, .ref fl, .ref fq, .int yfa, .ref te, .int (nI tz), .int yat, .int yst, .int yso, .int yva, .ref ni, .ref re, .int yab, .int ybl, .int yis, .int yra, .ref ma, .ref be])] (fun (r : Int32) (w' : va_W) => r = (nI tz) ∧ w' = [(M, ob 7 [.ref nw, .ref dr, .ref pa, .int ypa, .ref im, .ref ke, .ref fl, .ref fq, .int yfa, .ref te, .int (nI 0), .int yat, .int yst, .int yso, .int yva, .ref ni, .ref re, .int yab, .int ybl, .int yis, .int yra, .ref ma, .ref be])]) := by
  refine kI_of (cc := cX7_clear) (maxL := 2) (by decide) rfl (Nat.le_of_ble_eq_true rfl) ?_
  intro pp ee ss mm bel mth cd A ls C S hr hl
  obtain ⟨hx, hb, hml, hown, hts⟩ := id C.1
  have hl : lv_has ls 2 [(0, .ref M)] := hl
  obtain ⟨H, hH⟩ : ∃ H, H = ss.heap := ⟨_, rfl⟩
  obtain ⟨locs, hL0⟩ : ∃ L : List Loc, L = [] := ⟨_, rfl⟩
  rw [← hH, ← hL0] at S ⊢
  refine lv_aload_n hx hb dX7_clear_0 rfl (lv_at hl 0 rfl) ?_
  refine top_get C S inX7_clear_X7 rfl 0 rfl 10 (by decide) (by decide +kernel) rfl rfl dX7_clear_1 ?_
  refine lv_istore_n (lv' := [(1, .int (nI tz)), (0, .ref M)]) hx hb dX7_clear_4 rfl hl (by decide) rfl (fun ls hl => ?_)
  refine lv_aload_n hx hb dX7_clear_5 rfl (lv_at hl 1 rfl) ?_
  refine lv_iconst (v := 0) hx hb dX7_clear_6 (by decide) ?_
  refine top_put (ty := .int) C S inX7_clear_X7 tyX7 tyX7_ok nmX7 rfl 0 rfl 10 (by decide) (by decide +kernel) rfl rfl (tyX7_ok 10 (by decide)) rfl rfl (Nat.le_of_ble_eq_true rfl) dX7_clear_7 (fun H locs S => ?_)
  have S : ST g A ss H locs [(M, ob 7 [.ref nw, .ref dr, .ref pa, .int ypa, .ref im, .ref ke, .ref fl, .ref fq, .int yfa, .ref te, .int 0, .int yat, .int yst, .int yso, .int yva, .ref ni, .ref re, .int yab, .int ybl, .int yis, .int yra, .ref ma, .ref be])] := S
  refine lv_iload_n hx hb dX7_clear_10 rfl (lv_at hl 0 rfl) ?_
  exact ret_I C S hr dX7_clear_11 ⟨(by first | rfl | simp only []), (by first | rfl | simp only [])⟩
