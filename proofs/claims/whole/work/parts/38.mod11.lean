theorem inX7_ask_X7 : ∀ w ∈ wsX70, w ∈ wsX7_ask := by decide +kernel
set_option maxRecDepth 100000 in
set_option maxHeartbeats 4000000 in
theorem kX7_ask (l : Launch) (g : GG) (M : Nat) (nw : Nat) (dr : Nat) (pa : Nat) (im : Nat) (ke : Nat) (fl : Nat) (fq : Nat) (te : Nat) (ni : Nat) (re : Nat) (ma : Nat) (be : Nat) (ypa : Int32) (yty : Int32) (yat : Int32) (yst : Int32) (yso : Int32) (yva : Int32) (yab : Int32) (ybl : Int32) (yis : Int32) (yra : Int32) (gn : Nat → Int32) (n : Nat) (ww : Nat) (nu : Nat → Nat → Nat) (nf : Nat → Int32) (ref : Nat → Int32) (lf : Nat → Int32) (bf : Nat → Int32) (sz : Nat) (lo : Nat → Nat) (mf : Nat → Int32) (bm : Nat → Int32) (hn1 : 1 ≤ n) (hn : n ≤ 8) (hww : ww < 2 ^ n) (hg0 : gn 0 = nI n) (hgn : ∀ a i, a < 4 → i < n → gn (5 * i + (a + 1)) = nI (nu a i)) (hgw : ∀ i, i < n → gn (5 * i + 5) = nI (ww.testBit i).toNat) (hB : HB nu n) (hs6 : sz ≤ 6) (hlo : ∀ i, i < sz → lf i = nI (lo i)) (hlb : ∀ i, i < sz → lo i ≤ 999) : KI l g yX7_ask wsX7_ask 6 141 [.ref M] [(M, ob 7 [.ref nw, .ref dr, .ref pa, .int ypa, .ref im, .ref ke, .ref fl, .ref fq, .int (nI sz), .ref te, .int yty, .int yat, .int yst, .int yso, .int yva, .ref ni, .ref re, .int yab, .int ybl, .int yis, .int yra, .ref ma, .ref be]), (nw, aI g 41 gn), (ni, aI g 8 nf), (re, aI g 8 ref), (fl, aI g 6 lf), (fq, aI g 6 bf), (ma, aZ g 9 mf), (be, aI g 9 bm)] (fun (r : Int32) (w' : va_W) => r = (askA nu n ww sz lo bf) ∧ ∃ (ab' : Int32), ∃ (bl' : Int32), ∃ (is' : Int32), ∃ (ra' : Int32), ∃ (nf' : Nat → Int32), ∃ (ref' : Nat → Int32), ∃ (mf' : Nat → Int32), ∃ (bm' : Nat → Int32), w' = [(M, ob 7 [.ref nw, .ref dr, .ref pa, .int ypa, .ref im, .ref ke, .ref fl, .ref fq, .int (nI sz), .ref te, .int yty, .int yat, .int yst, .int yso, .int yva, .ref ni, .ref re, .int ab', .int bl', .int is', .int ra', .ref ma, .ref be]), (nw, aI g 41 gn), (ni, aI g 8 nf'), (re, aI g 8 ref'), (fl, aI g 6 lf), (fq, aI g 6 bf), (ma, aZ g 9 mf'), (be, aI g 9 bm')]) := by
  refine kI_of (cc := cX7_ask) (maxL := 5) (by decide) rfl (Nat.le_of_ble_eq_true rfl) ?_
  intro pp ee ss mm bel mth cd A ls C S hr hl
  obtain ⟨hx, hb, hml, hown, hts⟩ := id C.1
  have hl : lv_has ls 5 [(0, .ref M)] := hl
  obtain ⟨H, hH⟩ : ∃ H, H = ss.heap := ⟨_, rfl⟩
  obtain ⟨locs, hL0⟩ : ∃ L : List Loc, L = [] := ⟨_, rfl⟩
  rw [← hH, ← hL0] at S ⊢
  have hct9 := cnt_le (so := soB nu n ww sz lo bf) (n + 1)
  refine lv_aload_n hx hb dX7_ask_0 rfl (lv_at hl 0 rfl) ?_
  refine after_I (wc := [(M, ob 7 [.ref nw, .ref dr, .ref pa, .int ypa, .ref im, .ref ke, .ref fl, .ref fq, .int (nI sz), .ref te, .int yty, .int yat, .int yst, .int yso, .int yva, .ref ni, .ref re, .int yab, .int ybl, .int yis, .int yra, .ref ma, .ref be]), (nw, aI g 41 gn), (ni, aI g 8 nf), (re, aI g 8 ref), (fl, aI g 6 lf), (fq, aI g 6 bf)]) (y := yX7_many) C S (va_runV (As := []) (rest := []) C.1 (kX7_many l g M nw dr pa im ke fl fq te ni re ma be ypa yty yat yst yso yva yab ybl yis yra gn n ww nu nf ref lf bf sz lo (by first | assumption | omega) (by first | assumption | omega) (by first | assumption | omega) (by first | assumption | omega) (by first | assumption | omega) (by first | assumption | omega) (by first | assumption | omega) (by first | assumption | omega) (by first | assumption | omega) (by first | assumption | omega) H.size) (cwV 0 hts gX7_ask_X7_many rfl rfl rfl (by decide +kernel) ⟨Nat.le_of_ble_eq_true rfl, Nat.le_of_ble_eq_true rfl⟩) (preV_at C S 0 rfl rfl [0, 1, 2, 3, 4, 5] rfl (by decide)) rfl rfl hl.1 rfl (lv_room (Nat.le_of_ble_eq_true rfl)) dX7_ask_1 ⟨Nat.le_of_ble_eq_true rfl, Nat.le_of_ble_eq_true rfl⟩) [0, 1, 2, 3, 4, 5] [6, 7] rfl (wr := [(ma, aZ g 9 mf), (be, aI g 9 bm)]) rfl (by decide) (by decide) (fun r0 w0 H locs hq S => ?_)
  obtain ⟨rfl, ab'_1, bl'_2, is'_3, ra'_4, nf'_5, ref'_6, rfl⟩ := hq
  have S : ST g A ss H locs [(M, ob 7 [.ref nw, .ref dr, .ref pa, .int ypa, .ref im, .ref ke, .ref fl, .ref fq, .int (nI sz), .ref te, .int yty, .int yat, .int yst, .int yso, .int yva, .ref ni, .ref re, .int ab'_1, .int bl'_2, .int is'_3, .int ra'_4, .ref ma, .ref be]), (nw, aI g 41 gn), (ni, aI g 8 nf'_5), (re, aI g 8 ref'_6), (fl, aI g 6 lf), (fq, aI g 6 bf), (ma, aZ g 9 mf), (be, aI g 9 bm)] := ST.sub S [2, 3, 4, 5, 6, 7, 0, 1] (by decide) rfl
  refine lv_iconst (v := 2) hx hb dX7_ask_4 (by decide) ?_
  refine bn_ige (tgt := 11) (a := cnt (soB nu n ww sz lo bf) (n + 1)) (b := 2) hx hb rfl rfl (by omega) (by omega) dX7_ask_5 (by decide) (fun c_7 => ?_) (fun c_7 => ?_)
  · -- 5 T
    have hct := c_7
    refine lv_iconst (v := 0) hx hb dX7_ask_11 (by decide) ?_
    refine lv_istore_n (lv' := [(1, .int 0), (0, .ref M)]) hx hb dX7_ask_12 rfl hl (by decide) rfl (fun ls hl => ?_)
    have loop13 : ∀ (N0 : Nat) (k : Nat) (u1 : Int32) (u2 : Int32) (u3 : Int32) (u4 : Int32) (n1 : Nat → Int32) (r1 : Nat → Int32) (m1 : Nat → Int32), n + 1 - k < N0 → (k ≤ n + 1) → (∀ t9, t9 < k → m1 t9 = bI (soB nu n ww sz lo bf t9)) → ∀ (H : Heap) (locs : List Loc) (ls : Array Slot), ST g A ss H locs [(M, ob 7 [.ref nw, .ref dr, .ref pa, .int ypa, .ref im, .ref ke, .ref fl, .ref fq, .int (nI sz), .ref te, .int yty, .int yat, .int yst, .int yso, .int yva, .ref ni, .ref re, .int u1, .int u2, .int u3, .int u4, .ref ma, .ref be]), (nw, aI g 41 gn), (ni, aI g 8 n1), (re, aI g 8 r1), (fl, aI g 6 lf), (fq, aI g 6 bf), (ma, aZ g 9 m1), (be, aI g 9 bm)] → lv_has ls 5 [(1, .int (nI k)), (0, .ref M)] → W pp l ee { frames := 6, cells := 0, slots := 0, locals := 141 } ss mm ([.ref M] : List Value).toArray bel mth cd H locs 0 0 (QI bel ([.ref M] : List Value).toArray ss g A (fun (r : Int32) (w' : va_W) => r = (askA nu n ww sz lo bf) ∧ ∃ (ab' : Int32), ∃ (bl' : Int32), ∃ (is' : Int32), ∃ (ra' : Int32), ∃ (nf' : Nat → Int32), ∃ (ref' : Nat → Int32), ∃ (mf' : Nat → Int32), ∃ (bm' : Nat → Int32), w' = [(M, ob 7 [.ref nw, .ref dr, .ref pa, .int ypa, .ref im, .ref ke, .ref fl, .ref fq, .int (nI sz), .ref te, .int yty, .int yat, .int yst, .int yso, .int yva, .ref ni, .ref re, .int ab', .int bl', .int is', .int ra', .ref ma, .ref be]), (nw, aI g 41 gn), (ni, aI g 8 nf'), (re, aI g 8 ref'), (fl, aI g 6 lf), (fq, aI g 6 bf), (ma, aZ g 9 mf'), (be, aI g 9 bm')])) (F0 mm 13 ls []) := by
      intro N0
      induction N0 with
      | zero => intro k u1 u2 u3 u4 n1 r1 m1 hN; exact absurd hN (Nat.not_lt_zero _)
      | succ N0 ih13 =>
        intro k u1 u2 u3 u4 n1 r1 m1 hN hk hm1 H locs ls S hl
        refine lv_iload_n hx hb dX7_ask_13 rfl (lv_at hl 0 rfl) ?_
        refine lv_aload_n hx hb dX7_ask_14 rfl (lv_at hl 1 rfl) ?_
        refine top_get C S inX7_ask_X7 rfl 0 rfl 0 (by decide) (by decide +kernel) rfl rfl dX7_ask_15 ?_
        refine lv_iconst (v := 0) hx hb dX7_ask_18 (by decide) ?_
        refine top_ild C S 1 rfl (j := 0) rfl (by omega) (by decide) dX7_ask_19 ?_
        refine top_eq (y := nI n) hg0 ?_
        refine bn_igt (tgt := 42) (a := k) (b := n) hx hb rfl rfl (by omega) (by omega) dX7_ask_20 (by decide) (fun c_8 => ?_) (fun c_8 => ?_)
        · -- 20 T
          have hmf2 : ∀ t9, t9 ≤ n → m1 t9 = bI (soB nu n ww sz lo bf t9) := fun t9 h9 => hm1 t9 (by omega)
          refine lv_bipush (v := (-9)) hx hb dX7_ask_42 (by decide) ?_
          refine lv_istore_n (lv' := [(1, .int (-9)), (0, .ref M)]) hx hb dX7_ask_44 rfl hl (by decide) rfl (fun ls hl => ?_)
          refine lv_bipush (v := 10) hx hb dX7_ask_45 (by decide) ?_
          refine lv_istore_n (lv' := [(2, .int 10), (1, .int (-9)), (0, .ref M)]) hx hb dX7_ask_47 rfl hl (by decide) rfl (fun ls hl => ?_)
          refine lv_bipush (v := 10) hx hb dX7_ask_48 (by decide) ?_
          refine lv_istore_n (lv' := [(3, .int 10), (2, .int 10), (1, .int (-9)), (0, .ref M)]) hx hb dX7_ask_50 rfl hl (by decide) rfl (fun ls hl => ?_)
          have loop51 : ∀ (N0 : Nat) (k : Nat) (few : Nat) (bst : Int32) (u1x : Int32) (u2x : Int32) (u3x : Int32) (u4x : Int32) (n1x : Nat → Int32) (r1x : Nat → Int32) (b1 : Nat → Int32), 30 - k < N0 → (k ≤ 30) → (few ≤ 10) → (ak (fun p => mA (soB nu n ww sz lo bf) nu n ww p) k = (bst, few)) → ∀ (H : Heap) (locs : List Loc) (ls : Array Slot), ST g A ss H locs [(M, ob 7 [.ref nw, .ref dr, .ref pa, .int ypa, .ref im, .ref ke, .ref fl, .ref fq, .int (nI sz), .ref te, .int yty, .int yat, .int yst, .int yso, .int yva, .ref ni, .ref re, .int u1x, .int u2x, .int u3x, .int u4x, .ref ma, .ref be]), (nw, aI g 41 gn), (ni, aI g 8 n1x), (re, aI g 8 r1x), (fl, aI g 6 lf), (fq, aI g 6 bf), (ma, aZ g 9 m1), (be, aI g 9 b1)] → lv_has ls 5 [(3, .int (nI (10 + 10 * k))), (2, .int (nI few)), (1, .int bst), (0, .ref M)] → W pp l ee { frames := 6, cells := 0, slots := 0, locals := 141 } ss mm ([.ref M] : List Value).toArray bel mth cd H locs 0 0 (QI bel ([.ref M] : List Value).toArray ss g A (fun (r : Int32) (w' : va_W) => r = (askA nu n ww sz lo bf) ∧ ∃ (ab' : Int32), ∃ (bl' : Int32), ∃ (is' : Int32), ∃ (ra' : Int32), ∃ (nf' : Nat → Int32), ∃ (ref' : Nat → Int32), ∃ (mf' : Nat → Int32), ∃ (bm' : Nat → Int32), w' = [(M, ob 7 [.ref nw, .ref dr, .ref pa, .int ypa, .ref im, .ref ke, .ref fl, .ref fq, .int (nI sz), .ref te, .int yty, .int yat, .int yst, .int yso, .int yva, .ref ni, .ref re, .int ab', .int bl', .int is', .int ra', .ref ma, .ref be]), (nw, aI g 41 gn), (ni, aI g 8 nf'), (re, aI g 8 ref'), (fl, aI g 6 lf), (fq, aI g 6 bf), (ma, aZ g 9 mf'), (be, aI g 9 bm')])) (F0 mm 51 ls []) := by
            intro N0
            induction N0 with
            | zero => intro k few bst u1x u2x u3x u4x n1x r1x b1 hN; exact absurd hN (Nat.not_lt_zero _)
            | succ N0 ih51 =>
              intro k few bst u1x u2x u3x u4x n1x r1x b1 hN hk hfew hak H locs ls S hl
              refine lv_iload_n hx hb dX7_ask_51 rfl (lv_at hl 0 rfl) ?_
              refine lv_sipush (v := 300) hx hb dX7_ask_52 (by decide) ?_
              refine bn_igt (tgt := 96) (a := 10 + 10 * k) (b := 300) hx hb rfl rfl (by omega) (by omega) dX7_ask_55 (by decide) (fun c_9 => ?_) (fun c_9 => ?_)
              · -- 55 T
                have hin : k = 30 := by omega
                rw [hin] at hak
                refine lv_iload_n hx hb dX7_ask_96 rfl (lv_at hl 2 rfl) ?_
                exact ret_I C S hr dX7_ask_97 ⟨(by unfold askA; rw [if_pos hct, hak]), u1x, u2x, u3x, u4x, n1x, r1x, m1, b1, (rfl)⟩
              · -- 55 F
                have hmA : mA (soB nu n ww sz lo bf) nu n ww (10 + 10 * k) ≤ n + 1 := mlC_le (n + 1)
                refine lv_aload_n hx hb dX7_ask_58 rfl (lv_at hl 3 rfl) ?_
                refine lv_iload_n hx hb dX7_ask_59 rfl (lv_at hl 0 rfl) ?_
                refine after_I (wc := [(M, ob 7 [.ref nw, .ref dr, .ref pa, .int ypa, .ref im, .ref ke, .ref fl, .ref fq, .int (nI sz), .ref te, .int yty, .int yat, .int yst, .int yso, .int yva, .ref ni, .ref re, .int u1x, .int u2x, .int u3x, .int u4x, .ref ma, .ref be]), (nw, aI g 41 gn), (ni, aI g 8 n1x), (re, aI g 8 r1x), (ma, aZ g 9 m1), (be, aI g 9 b1)]) (y := yX7_mostAlike) C S (va_runV (As := [.int (nI (10 + 10 * k))]) (rest := []) C.1 (kX7_mostAlike l g M nw dr pa im ke fl fq te ni re ma be ypa (nI sz) yty yat yst yso yva u1x u2x u3x u4x gn n ww nu n1x r1x m1 b1 (soB nu n ww sz lo bf) (10 + 10 * k) (by first | assumption | omega) (by first | assumption | omega) (by first | assumption | omega) (by first | assumption | omega) (by first | assumption | omega) (by first | assumption | omega) (by first | assumption | omega) (by omega) hmf2 H.size) (cwV 1 hts gX7_ask_X7_mostAlike rfl rfl rfl (by decide +kernel) ⟨Nat.le_of_ble_eq_true rfl, Nat.le_of_ble_eq_true rfl⟩) (preV_at C S 0 rfl rfl [0, 1, 2, 3, 6, 7] rfl (by decide)) rfl rfl hl.1 rfl (lv_room (Nat.le_of_ble_eq_true rfl)) dX7_ask_60 ⟨Nat.le_of_ble_eq_true rfl, Nat.le_of_ble_eq_true rfl⟩) [0, 1, 2, 3, 6, 7] [4, 5] rfl (wr := [(fl, aI g 6 lf), (fq, aI g 6 bf)]) rfl (by decide) (by decide) (fun r0 w0 H locs hq S => ?_)
                obtain ⟨rfl, ab'_10, bl'_11, is'_12, ra'_13, nf'_14, ref'_15, bm'_16, rfl⟩ := hq
                have S : ST g A ss H locs [(M, ob 7 [.ref nw, .ref dr, .ref pa, .int ypa, .ref im, .ref ke, .ref fl, .ref fq, .int (nI sz), .ref te, .int yty, .int yat, .int yst, .int yso, .int yva, .ref ni, .ref re, .int ab'_10, .int bl'_11, .int is'_12, .int ra'_13, .ref ma, .ref be]), (nw, aI g 41 gn), (ni, aI g 8 nf'_14), (re, aI g 8 ref'_15), (fl, aI g 6 lf), (fq, aI g 6 bf), (ma, aZ g 9 m1), (be, aI g 9 bm'_16)] := ST.sub S [2, 3, 4, 5, 0, 1, 6, 7] (by decide) rfl
                refine lv_istore (lv' := [(4, .int (nI (mA (soB nu n ww sz lo bf) nu n ww (10 + 10 * k)))), (3, .int (nI (10 + 10 * k))), (2, .int (nI few)), (1, .int bst), (0, .ref M)]) hx hb dX7_ask_63 hl (by decide) rfl (fun ls hl => ?_)
                refine lv_iload hx hb dX7_ask_65 (lv_at hl 0 rfl) ?_
                refine lv_iload_n hx hb dX7_ask_67 rfl (lv_at hl 2 rfl) ?_
                refine bn_ige (tgt := 75) (a := mA (soB nu n ww sz lo bf) nu n ww (10 + 10 * k)) (b := few) hx hb rfl rfl (by omega) (by omega) dX7_ask_68 (by decide) (fun c_17 => ?_) (fun c_17 => ?_)
                · -- 68 T
                  refine lv_iload_n hx hb dX7_ask_75 rfl (lv_at hl 3 rfl) ?_
                  refine lv_istore_n (lv' := [(1, .int bst), (4, .int (nI (mA (soB nu n ww sz lo bf) nu n ww (10 + 10 * k)))), (3, .int (nI (10 + 10 * k))), (2, .int (nI few)), (0, .ref M)]) hx hb dX7_ask_76 rfl hl (by decide) rfl (fun ls hl => ?_)
                  refine lv_iload hx hb dX7_ask_77 (lv_at hl 1 rfl) ?_
                  refine lv_iload_n hx hb dX7_ask_79 rfl (lv_at hl 3 rfl) ?_
                  refine bn_ige (tgt := 88) (a := mA (soB nu n ww sz lo bf) nu n ww (10 + 10 * k)) (b := few) hx hb rfl rfl (by omega) (by omega) dX7_ask_80 (by decide) (fun c_18 => ?_) (fun c_18 => ?_)
                  · -- 80 T
                    refine lv_iload_n hx hb dX7_ask_88 rfl (lv_at hl 3 rfl) ?_
                    refine lv_istore_n (lv' := [(2, .int (nI few)), (1, .int bst), (4, .int (nI (mA (soB nu n ww sz lo bf) nu n ww (10 + 10 * k)))), (3, .int (nI (10 + 10 * k))), (0, .ref M)]) hx hb dX7_ask_89 rfl hl (by decide) rfl (fun ls hl => ?_)
                    refine lv_iinc (v := nI ((10 + 10 * k) + 10)) (lv' := [(3, .int (nI ((10 + 10 * k) + 10))), (2, .int (nI few)), (1, .int bst), (4, .int (nI (mA (soB nu n ww sz lo bf) nu n ww (10 + 10 * k)))), (0, .ref M)]) hx hb dX7_ask_90 hl (k := 3) rfl (nI_add _ _) (by decide) rfl (fun ls hl => ?_)
                    refine lv_goto (tgt := 51) hx hb dX7_ask_93 (by decide) ?_
                    exact ih51 (k + 1) few bst ab'_10 bl'_11 is'_12 ra'_13 nf'_14 ref'_15 bm'_16 (by omega) (by first | assumption | omega) (by first | assumption | omega) (by simp only [ak, hak, if_pos c_18]) H locs ls (ST.eq S (rfl)) (lv_sub hl [0, 1, 2, 4] (by simp only [show 10 + 10 * (k + 1) = 10 + 10 * k + 10 by omega] <;> rfl))
                  · -- 80 F
                    exact absurd c_17 c_18
                · -- 68 F
                  refine lv_iload_n hx hb dX7_ask_71 rfl (lv_at hl 1 rfl) ?_
                  refine lv_goto (tgt := 76) hx hb dX7_ask_72 (by decide) ?_
                  refine lv_istore_n (lv' := [(1, .int (nI (10 + 10 * k))), (4, .int (nI (mA (soB nu n ww sz lo bf) nu n ww (10 + 10 * k)))), (3, .int (nI (10 + 10 * k))), (2, .int (nI few)), (0, .ref M)]) hx hb dX7_ask_76 rfl hl (by decide) rfl (fun ls hl => ?_)
                  refine lv_iload hx hb dX7_ask_77 (lv_at hl 1 rfl) ?_
                  refine lv_iload_n hx hb dX7_ask_79 rfl (lv_at hl 3 rfl) ?_
                  refine bn_ige (tgt := 88) (a := mA (soB nu n ww sz lo bf) nu n ww (10 + 10 * k)) (b := few) hx hb rfl rfl (by omega) (by omega) dX7_ask_80 (by decide) (fun c_19 => ?_) (fun c_19 => ?_)
                  · -- 80 T
                    exact absurd c_19 c_17
                  · -- 80 F
                    refine lv_iload hx hb dX7_ask_83 (lv_at hl 1 rfl) ?_
                    refine lv_goto (tgt := 89) hx hb dX7_ask_85 (by decide) ?_
                    refine lv_istore_n (lv' := [(2, .int (nI (mA (soB nu n ww sz lo bf) nu n ww (10 + 10 * k)))), (1, .int (nI (10 + 10 * k))), (4, .int (nI (mA (soB nu n ww sz lo bf) nu n ww (10 + 10 * k)))), (3, .int (nI (10 + 10 * k))), (0, .ref M)]) hx hb dX7_ask_89 rfl hl (by decide) rfl (fun ls hl => ?_)
                    refine lv_iinc (v := nI ((10 + 10 * k) + 10)) (lv' := [(3, .int (nI ((10 + 10 * k) + 10))), (2, .int (nI (mA (soB nu n ww sz lo bf) nu n ww (10 + 10 * k)))), (1, .int (nI (10 + 10 * k))), (4, .int (nI (mA (soB nu n ww sz lo bf) nu n ww (10 + 10 * k)))), (0, .ref M)]) hx hb dX7_ask_90 hl (k := 3) rfl (nI_add _ _) (by decide) rfl (fun ls hl => ?_)
                    refine lv_goto (tgt := 51) hx hb dX7_ask_93 (by decide) ?_
                    exact ih51 (k + 1) (mA (soB nu n ww sz lo bf) nu n ww (10 + 10 * k)) (nI (10 + 10 * k)) ab'_10 bl'_11 is'_12 ra'_13 nf'_14 ref'_15 bm'_16 (by omega) (by first | assumption | omega) (by first | assumption | omega) (by simp only [ak, hak, if_neg c_19]) H locs ls (ST.eq S (rfl)) (lv_sub hl [0, 1, 2, 4] (by simp only [show 10 + 10 * (k + 1) = 10 + 10 * k + 10 by omega] <;> rfl))
          exact loop51 _ 0 10 (-9) u1 u2 u3 u4 n1 r1 bm (Nat.lt_succ_self _) (by first | assumption | omega) (by first | assumption | omega) (rfl) H locs ls (ST.eq S (rfl)) (lv_sub hl [0, 1, 2, 3] (rfl))
        · -- 20 F
          rcases Nat.eq_zero_or_pos k with hk0 | hk0
          ·
            refine lv_aload_n hx hb dX7_ask_23 rfl (lv_at hl 1 rfl) ?_
            refine top_get C S inX7_ask_X7 rfl 0 rfl 21 (by decide) (by decide +kernel) rfl rfl dX7_ask_24 ?_
            refine lv_iload_n hx hb dX7_ask_27 rfl (lv_at hl 0 rfl) ?_
            refine lv_aload_n hx hb dX7_ask_28 rfl (lv_at hl 1 rfl) ?_
            refine lv_iload_n hx hb dX7_ask_29 rfl (lv_at hl 0 rfl) ?_
            refine lv_iconst (v := 1) hx hb dX7_ask_30 (by decide) ?_
            refine lv_isub hx hb dX7_ask_31 ?_
            refine top_eq (y := (-1)) (by rw [hk0]; decide) ?_
            refine after_I (wc := [(M, ob 7 [.ref nw, .ref dr, .ref pa, .int ypa, .ref im, .ref ke, .ref fl, .ref fq, .int (nI sz), .ref te, .int yty, .int yat, .int yst, .int yso, .int yva, .ref ni, .ref re, .int u1, .int u2, .int u3, .int u4, .ref ma, .ref be]), (nw, aI g 41 gn), (ni, aI g 8 n1), (re, aI g 8 r1), (fl, aI g 6 lf), (fq, aI g 6 bf)]) (y := yX7_isSo) C S (va_runV (As := [.int (-1)]) (rest := [.int (nI k), .ref ma]) C.1 (kX7_isSon l g M nw dr pa im ke fl fq te ni re ma be ypa yty yat yst yso yva u1 u2 u3 u4 gn n ww nu n1 r1 lf bf sz lo (by first | assumption | omega) (by first | assumption | omega) (by first | assumption | omega) (by first | assumption | omega) (by first | assumption | omega) (by first | assumption | omega) (by first | assumption | omega) (by first | assumption | omega) (by first | assumption | omega) (by first | assumption | omega) H.size) (cwV 1 hts gX7_ask_X7_isSo rfl rfl rfl (by decide +kernel) ⟨Nat.le_of_ble_eq_true rfl, Nat.le_of_ble_eq_true rfl⟩) (preV_at C S 0 rfl rfl [0, 1, 2, 3, 4, 5] rfl (by decide)) rfl rfl hl.1 rfl (lv_room (Nat.le_of_ble_eq_true rfl)) dX7_ask_32 ⟨Nat.le_of_ble_eq_true rfl, Nat.le_of_ble_eq_true rfl⟩) [0, 1, 2, 3, 4, 5] [6, 7] rfl (wr := [(ma, aZ g 9 m1), (be, aI g 9 bm)]) rfl (by decide) (by decide) (fun r0 w0 H locs hq S => ?_)
            obtain ⟨rfl, ab'_20, bl'_21, is'_22, ra'_23, nf'_24, ref'_25, rfl⟩ := hq
            have S : ST g A ss H locs [(M, ob 7 [.ref nw, .ref dr, .ref pa, .int ypa, .ref im, .ref ke, .ref fl, .ref fq, .int (nI sz), .ref te, .int yty, .int yat, .int yst, .int yso, .int yva, .ref ni, .ref re, .int ab'_20, .int bl'_21, .int is'_22, .int ra'_23, .ref ma, .ref be]), (nw, aI g 41 gn), (ni, aI g 8 nf'_24), (re, aI g 8 ref'_25), (fl, aI g 6 lf), (fq, aI g 6 bf), (ma, aZ g 9 m1), (be, aI g 9 bm)] := ST.sub S [2, 3, 4, 5, 6, 7, 0, 1] (by decide) rfl
            refine top_eq (y := bI (soB nu n ww sz lo bf k)) (by rw [hk0]) ?_
            refine top_zst C S 6 rfl (j := k) rfl (by omega) (by decide) (bI_vp _) dX7_ask_35 (fun H locs S => ?_)
            have S : ST g A ss H locs [(M, ob 7 [.ref nw, .ref dr, .ref pa, .int ypa, .ref im, .ref ke, .ref fl, .ref fq, .int (nI sz), .ref te, .int yty, .int yat, .int yst, .int yso, .int yva, .ref ni, .ref re, .int ab'_20, .int bl'_21, .int is'_22, .int ra'_23, .ref ma, .ref be]), (nw, aI g 41 gn), (ni, aI g 8 nf'_24), (re, aI g 8 ref'_25), (fl, aI g 6 lf), (fq, aI g 6 bf), (ma, aZ g 9 (upd m1 k (bI (soB nu n ww sz lo bf k)))), (be, aI g 9 bm)] := S
            refine lv_iinc (v := nI (k + 1)) (lv' := [(1, .int (nI (k + 1))), (0, .ref M)]) hx hb dX7_ask_36 hl (k := 0) rfl (nI_add _ _) (by decide) rfl (fun ls hl => ?_)
            refine lv_goto (tgt := 13) hx hb dX7_ask_39 (by decide) ?_
            exact ih13 (k + 1) ab'_20 bl'_21 is'_22 ra'_23 nf'_24 ref'_25 (upd m1 k (bI (soB nu n ww sz lo bf k))) (by omega) (by first | assumption | omega) (fun t9 h9 => by by_cases e9 : t9 = k; (subst e9; rw [pk_us]); (rw [pk_un e9]; exact hm1 t9 (by omega))) H locs ls (ST.eq S (rfl)) (lv_sub hl [0, 1] (rfl))
          ·
            refine lv_aload_n hx hb dX7_ask_23 rfl (lv_at hl 1 rfl) ?_
            refine top_get C S inX7_ask_X7 rfl 0 rfl 21 (by decide) (by decide +kernel) rfl rfl dX7_ask_24 ?_
            refine lv_iload_n hx hb dX7_ask_27 rfl (lv_at hl 0 rfl) ?_
            refine lv_aload_n hx hb dX7_ask_28 rfl (lv_at hl 1 rfl) ?_
            refine lv_iload_n hx hb dX7_ask_29 rfl (lv_at hl 0 rfl) ?_
            refine lv_iconst (v := 1) hx hb dX7_ask_30 (by decide) ?_
            refine lv_isub hx hb dX7_ask_31 ?_
            refine top_eq (y := nI (k - 1)) (pk_sub (b := 1) (by omega)) ?_
            refine after_I (wc := [(M, ob 7 [.ref nw, .ref dr, .ref pa, .int ypa, .ref im, .ref ke, .ref fl, .ref fq, .int (nI sz), .ref te, .int yty, .int yat, .int yst, .int yso, .int yva, .ref ni, .ref re, .int u1, .int u2, .int u3, .int u4, .ref ma, .ref be]), (nw, aI g 41 gn), (ni, aI g 8 n1), (re, aI g 8 r1), (fl, aI g 6 lf), (fq, aI g 6 bf)]) (y := yX7_isSo) C S (va_runV (As := [.int (nI (k - 1))]) (rest := [.int (nI k), .ref ma]) C.1 (kX7_isSoy l g M nw dr pa im ke fl fq te ni re ma be ypa yty yat yst yso yva u1 u2 u3 u4 gn n ww nu n1 r1 lf bf sz lo (k - 1) (by first | assumption | omega) (by first | assumption | omega) (by first | assumption | omega) (by first | assumption | omega) (by first | assumption | omega) (by first | assumption | omega) (by first | assumption | omega) (by first | assumption | omega) (by first | assumption | omega) (by first | assumption | omega) (by first | assumption | omega) H.size) (cwV 1 hts gX7_ask_X7_isSo rfl rfl rfl (by decide +kernel) ⟨Nat.le_of_ble_eq_true rfl, Nat.le_of_ble_eq_true rfl⟩) (preV_at C S 0 rfl rfl [0, 1, 2, 3, 4, 5] rfl (by decide)) rfl rfl hl.1 rfl (lv_room (Nat.le_of_ble_eq_true rfl)) dX7_ask_32 ⟨Nat.le_of_ble_eq_true rfl, Nat.le_of_ble_eq_true rfl⟩) [0, 1, 2, 3, 4, 5] [6, 7] rfl (wr := [(ma, aZ g 9 m1), (be, aI g 9 bm)]) rfl (by decide) (by decide) (fun r0 w0 H locs hq S => ?_)
            obtain ⟨rfl, ab'_26, bl'_27, is'_28, ra'_29, nf'_30, ref'_31, rfl⟩ := hq
            have S : ST g A ss H locs [(M, ob 7 [.ref nw, .ref dr, .ref pa, .int ypa, .ref im, .ref ke, .ref fl, .ref fq, .int (nI sz), .ref te, .int yty, .int yat, .int yst, .int yso, .int yva, .ref ni, .ref re, .int ab'_26, .int bl'_27, .int is'_28, .int ra'_29, .ref ma, .ref be]), (nw, aI g 41 gn), (ni, aI g 8 nf'_30), (re, aI g 8 ref'_31), (fl, aI g 6 lf), (fq, aI g 6 bf), (ma, aZ g 9 m1), (be, aI g 9 bm)] := ST.sub S [2, 3, 4, 5, 6, 7, 0, 1] (by decide) rfl
            refine top_eq (y := bI (soB nu n ww sz lo bf k)) (by rw [show k - 1 + 1 = k by omega]) ?_
            refine top_zst C S 6 rfl (j := k) rfl (by omega) (by decide) (bI_vp _) dX7_ask_35 (fun H locs S => ?_)
            have S : ST g A ss H locs [(M, ob 7 [.ref nw, .ref dr, .ref pa, .int ypa, .ref im, .ref ke, .ref fl, .ref fq, .int (nI sz), .ref te, .int yty, .int yat, .int yst, .int yso, .int yva, .ref ni, .ref re, .int ab'_26, .int bl'_27, .int is'_28, .int ra'_29, .ref ma, .ref be]), (nw, aI g 41 gn), (ni, aI g 8 nf'_30), (re, aI g 8 ref'_31), (fl, aI g 6 lf), (fq, aI g 6 bf), (ma, aZ g 9 (upd m1 k (bI (soB nu n ww sz lo bf k)))), (be, aI g 9 bm)] := S
            refine lv_iinc (v := nI (k + 1)) (lv' := [(1, .int (nI (k + 1))), (0, .ref M)]) hx hb dX7_ask_36 hl (k := 0) rfl (nI_add _ _) (by decide) rfl (fun ls hl => ?_)
            refine lv_goto (tgt := 13) hx hb dX7_ask_39 (by decide) ?_
            exact ih13 (k + 1) ab'_26 bl'_27 is'_28 ra'_29 nf'_30 ref'_31 (upd m1 k (bI (soB nu n ww sz lo bf k))) (by omega) (by first | assumption | omega) (fun t9 h9 => by by_cases e9 : t9 = k; (subst e9; rw [pk_us]); (rw [pk_un e9]; exact hm1 t9 (by omega))) H locs ls (ST.eq S (rfl)) (lv_sub hl [0, 1] (rfl))
    exact loop13 _ 0 ab'_1 bl'_2 is'_3 ra'_4 nf'_5 ref'_6 mf (Nat.lt_succ_self _) (by first | assumption | omega) (fun t9 h9 => absurd h9 (Nat.not_lt_zero _)) H locs ls (ST.eq S (rfl)) (lv_sub hl [0, 1] (rfl))
  · -- 5 F
    have hct := c_7
    refine lv_bipush (v := (-9)) hx hb dX7_ask_8 (by decide) ?_
    exact ret_I C S hr dX7_ask_10 ⟨(by unfold askA; rw [if_neg hct]), ab'_1, bl'_2, is'_3, ra'_4, nf'_5, ref'_6, mf, bm, (rfl)⟩

theorem inX7_letterAty_X7 : ∀ w ∈ wsX70, w ∈ wsX7_letterAt := by decide +kernel
set_option maxRecDepth 100000 in
set_option maxHeartbeats 4000000 in
theorem kX7_letterAty (l : Launch) (g : GG) (M : Nat) (nw : Nat) (dr : Nat) (pa : Nat) (im : Nat) (ke : Nat) (fl : Nat) (fq : Nat) (te : Nat) (ni : Nat) (re : Nat) (ma : Nat) (be : Nat) (ypa : Int32) (yfa : Int32) (yat : Int32) (yst : Int32) (yso : Int32) (yva : Int32) (yab : Int32) (ybl : Int32) (yis : Int32) (yra : Int32) (tx : Nat → Int32) (z : Nat) (ch : Nat → Nat) (k : Nat) (hz : z ≤ 100) (htx : ∀ i, i < z → tx i = nI (ch i)) (hch : ∀ i, i < z → ch i ≤ 255) (hk : k < z) : KI l g yX7_letterAt wsX7_letterAt 0 0 [.ref M, .int (nI k)] [(M, ob 7 [.ref nw, .ref dr, .ref pa, .int ypa, .ref im, .ref ke, .ref fl, .ref fq, .int yfa, .ref te, .int (nI z), .int yat, .int yst, .int yso, .int yva, .ref ni, .ref re, .int yab, .int ybl, .int yis, .int yra, .ref ma, .ref be]), (te, aI g 100 tx)] (fun (r : Int32) (w' : va_W) => r = (nI (ch k)) ∧ w' = [(M, ob 7 [.ref nw, .ref dr, .ref pa, .int ypa, .ref im, .ref ke, .ref fl, .ref fq, .int yfa, .ref te, .int (nI z), .int yat, .int yst, .int yso, .int yva, .ref ni, .ref re, .int yab, .int ybl, .int yis, .int yra, .ref ma, .ref be]), (te, aI g 100 tx)]) := by
  refine kI_of (cc := cX7_letterAt) (maxL := 2) (by decide) rfl (Nat.le_of_ble_eq_true rfl) ?_
  intro pp ee ss mm bel mth cd A ls C S hr hl
  obtain ⟨hx, hb, hml, hown, hts⟩ := id C.1
  have hl : lv_has ls 2 [(0, .ref M), (1, .int (nI k))] := hl
  obtain ⟨H, hH⟩ : ∃ H, H = ss.heap := ⟨_, rfl⟩
  obtain ⟨locs, hL0⟩ : ∃ L : List Loc, L = [] := ⟨_, rfl⟩
  rw [← hH, ← hL0] at S ⊢
  refine lv_iload_n hx hb dX7_letterAt_0 rfl (lv_at hl 1 rfl) ?_
  refine lv_aload_n hx hb dX7_letterAt_1 rfl (lv_at hl 0 rfl) ?_
  refine top_get C S inX7_letterAty_X7 rfl 0 rfl 10 (by decide) (by decide +kernel) rfl rfl dX7_letterAt_2 ?_
  refine bn_ige (tgt := 17) (a := k) (b := z) hx hb rfl rfl (by omega) (by omega) dX7_letterAt_5 (by decide) (fun c_1 => ?_) (fun c_1 => ?_)
  · -- 5 T
    exact absurd hk (by omega)
  · -- 5 F
    refine lv_aload_n hx hb dX7_letterAt_8 rfl (lv_at hl 0 rfl) ?_
    refine top_get C S inX7_letterAty_X7 rfl 0 rfl 9 (by decide) (by decide +kernel) rfl rfl dX7_letterAt_9 ?_
    refine lv_iload_n hx hb dX7_letterAt_12 rfl (lv_at hl 1 rfl) ?_
    refine top_ild C S 1 rfl (j := k) rfl (by omega) (by decide) dX7_letterAt_13 ?_
    refine top_eq (y := nI (ch k)) (htx _ (by omega)) ?_
    refine lv_goto (tgt := 18) hx hb dX7_letterAt_14 (by decide) ?_
    exact ret_I C S hr dX7_letterAt_18 ⟨(by first | rfl | simp only [if_neg c_1]), (by first | rfl | simp only [if_neg c_1])⟩

theorem inX7_letterAtn_X7 : ∀ w ∈ wsX70, w ∈ wsX7_letterAt := by decide +kernel
set_option maxRecDepth 100000 in
set_option maxHeartbeats 4000000 in
theorem kX7_letterAtn (l : Launch) (g : GG) (M : Nat) (nw : Nat) (dr : Nat) (pa : Nat) (im : Nat) (ke : Nat) (fl : Nat) (fq : Nat) (te : Nat) (ni : Nat) (re : Nat) (ma : Nat) (be : Nat) (ypa : Int32) (yfa : Int32) (yat : Int32) (yst : Int32) (yso : Int32) (yva : Int32) (yab : Int32) (ybl : Int32) (yis : Int32) (yra : Int32) (tx : Nat → Int32) (z : Nat) (ch : Nat → Nat) (k : Nat) (hz : z ≤ 100) (htx : ∀ i, i < z → tx i = nI (ch i)) (hch : ∀ i, i < z → ch i ≤ 255) (hk : z ≤ k) (hk1 : k ≤ z) : KI l g yX7_letterAt wsX7_letterAt 0 0 [.ref M, .int (nI k)] [(M, ob 7 [.ref nw, .ref dr, .ref pa, .int ypa, .ref im, .ref ke, .ref fl, .ref fq, .int yfa, .ref te, .int (nI z), .int yat, .int yst, .int yso, .int yva, .ref ni, .ref re, .int yab, .int ybl, .int yis, .int yra, .ref ma, .ref be]), (te, aI g 100 tx)] (fun (r : Int32) (w' : va_W) => r = (-1) ∧ w' = [(M, ob 7 [.ref nw, .ref dr, .ref pa, .int ypa, .ref im, .ref ke, .ref fl, .ref fq, .int yfa, .ref te, .int (nI z), .int yat, .int yst, .int yso, .int yva, .ref ni, .ref re, .int yab, .int ybl, .int yis, .int yra, .ref ma, .ref be]), (te, aI g 100 tx)]) := by
  refine kI_of (cc := cX7_letterAt) (maxL := 2) (by decide) rfl (Nat.le_of_ble_eq_true rfl) ?_
  intro pp ee ss mm bel mth cd A ls C S hr hl
  obtain ⟨hx, hb, hml, hown, hts⟩ := id C.1
  have hl : lv_has ls 2 [(0, .ref M), (1, .int (nI k))] := hl
  obtain ⟨H, hH⟩ : ∃ H, H = ss.heap := ⟨_, rfl⟩
  obtain ⟨locs, hL0⟩ : ∃ L : List Loc, L = [] := ⟨_, rfl⟩
  rw [← hH, ← hL0] at S ⊢
  refine lv_iload_n hx hb dX7_letterAt_0 rfl (lv_at hl 1 rfl) ?_
  refine lv_aload_n hx hb dX7_letterAt_1 rfl (lv_at hl 0 rfl) ?_
  refine top_get C S inX7_letterAtn_X7 rfl 0 rfl 10 (by decide) (by decide +kernel) rfl rfl dX7_letterAt_2 ?_
  refine bn_ige (tgt := 17) (a := k) (b := z) hx hb rfl rfl (by omega) (by omega) dX7_letterAt_5 (by decide) (fun c_1 => ?_) (fun c_1 => ?_)
  · -- 5 T
    refine lv_iconst (v := (-1)) hx hb dX7_letterAt_17 (by decide) ?_
    exact ret_I C S hr dX7_letterAt_18 ⟨(by first | rfl | simp only [if_pos c_1]), (by first | rfl | simp only [if_pos c_1])⟩
  · -- 5 F
    exact absurd hk (by omega)

set_option maxRecDepth 100000 in
set_option maxHeartbeats 4000000 in
theorem kX7_isFiguren (l : Launch) (g : GG) (v : Nat) (hv : v ≤ 255) : KI l g yX7_isFigure wsX7_isFigure 1 22 [.int (nI v)] [] (fun (r : Int32) (w' : va_W) => r = (bI (figN v)) ∧ w' = []) := by
  refine kI_of (cc := cX7_isFigure) (maxL := 1) (by decide) rfl (Nat.le_of_ble_eq_true rfl) ?_
  intro pp ee ss mm bel mth cd A ls C S hr hl
  obtain ⟨hx, hb, hml, hown, hts⟩ := id C.1
  have hl : lv_has ls 1 [(0, .int (nI v))] := hl
  obtain ⟨H, hH⟩ : ∃ H, H = ss.heap := ⟨_, rfl⟩
  obtain ⟨locs, hL0⟩ : ∃ L : List Loc, L = [] := ⟨_, rfl⟩
  rw [← hH, ← hL0] at S ⊢
  refine lv_iload_n hx hb dX7_isFigure_0 rfl (lv_at hl 0 rfl) ?_
  refine lv_bipush (v := 48) hx hb dX7_isFigure_1 (by decide) ?_
  refine lv_bipush (v := 57) hx hb dX7_isFigure_3 (by decide) ?_
  refine after_I (wc := []) (y := yX7_in) C S (va_runS (As := [.int (nI v), .int 48, .int 57]) (rest := []) C.1 (kX7_inn l g v 48 57 (by first | assumption | omega) (by first | assumption | omega) (by first | assumption | omega) H.size) (va_cwS 3 hts gX7_isFigure_X7_in rfl rfl rfl (by decide +kernel) ⟨Nat.le_of_ble_eq_true rfl, Nat.le_of_ble_eq_true rfl⟩) (preS_at C S [] rfl (by decide)) rfl rfl hl.1 rfl (lv_room (Nat.le_of_ble_eq_true rfl)) dX7_isFigure_5 ⟨Nat.le_of_ble_eq_true rfl, Nat.le_of_ble_eq_true rfl⟩) [] [] rfl (wr := []) rfl (by decide) (by decide) (fun r0 w0 H locs hq S => ?_)
  obtain ⟨rfl, rfl⟩ := hq
  have S : ST g A ss H locs [] := S
  refine top_eq (y := bI (figN v)) (congrArg bI fig_dec) ?_
  exact ret_Z (figN v) C S hr dX7_isFigure_8 (rfl) ⟨(rfl), (rfl)⟩

def sX7_inr (v : Int32) (a : Int32) (b : Int32) : Bool := if v < a then false else (if b < v then false else true)
set_option maxRecDepth 100000 in
set_option maxHeartbeats 4000000 in
theorem kX7_inr (l : Launch) (g : GG) (v : Int32) (a : Int32) (b : Int32)  : KI l g yX7_in wsX7_in 0 0 [.int v, .int a, .int b] [] (fun (r : Int32) (w' : va_W) => r = (bI (sX7_inr v a b)) ∧ w' = []) := by
  refine kI_of (cc := cX7_in) (maxL := 3) (by decide) rfl (Nat.le_of_ble_eq_true rfl) ?_
  intro pp ee ss mm bel mth cd A ls C S hr hl
  obtain ⟨hx, hb, hml, hown, hts⟩ := id C.1
  have hl : lv_has ls 3 [(0, .int v), (1, .int a), (2, .int b)] := hl
  obtain ⟨H, hH⟩ : ∃ H, H = ss.heap := ⟨_, rfl⟩
  obtain ⟨locs, hL0⟩ : ∃ L : List Loc, L = [] := ⟨_, rfl⟩
  rw [← hH, ← hL0] at S ⊢
  refine lv_iload_n hx hb dX7_in_0 rfl (lv_at hl 0 rfl) ?_
  refine lv_iload_n hx hb dX7_in_1 rfl (lv_at hl 1 rfl) ?_
  refine lv_icmp_lt (tgt := 14) hx hb dX7_in_2 (by decide) (fun c_1 => ?_) (fun c_1 => ?_)
  · -- 2 T
    refine lv_iconst (v := 0) hx hb dX7_in_14 (by decide) ?_
    exact ret_Z (sX7_inr v a b) C S hr dX7_in_15 (by first | rfl | (simp only [sX7_inr, if_pos c_1]; first | rfl | done)) ⟨(by first | rfl | (simp only [sX7_inr, if_pos c_1]; first | rfl | done)), (by first | rfl | (simp only [sX7_inr, if_pos c_1]; first | rfl | done))⟩
  · -- 2 F
    refine lv_iload_n hx hb dX7_in_5 rfl (lv_at hl 0 rfl) ?_
    refine lv_iload_n hx hb dX7_in_6 rfl (lv_at hl 2 rfl) ?_
    refine lv_icmp_gt (tgt := 14) hx hb dX7_in_7 (by decide) (fun c_2 => ?_) (fun c_2 => ?_)
    · -- 7 T
      refine lv_iconst (v := 0) hx hb dX7_in_14 (by decide) ?_
      exact ret_Z (sX7_inr v a b) C S hr dX7_in_15 (by first | rfl | (simp only [sX7_inr, if_neg c_1, if_pos c_2]; first | rfl | done)) ⟨(by first | rfl | (simp only [sX7_inr, if_neg c_1, if_pos c_2]; first | rfl | done)), (by first | rfl | (simp only [sX7_inr, if_neg c_1, if_pos c_2]; first | rfl | done))⟩
    · -- 7 F
      refine lv_iconst (v := 1) hx hb dX7_in_10 (by decide) ?_
      refine lv_goto (tgt := 15) hx hb dX7_in_11 (by decide) ?_
      exact ret_Z (sX7_inr v a b) C S hr dX7_in_15 (by first | rfl | (simp only [sX7_inr, if_neg c_1, if_neg c_2]; first | rfl | done)) ⟨(by first | rfl | (simp only [sX7_inr, if_neg c_1, if_neg c_2]; first | rfl | done)), (by first | rfl | (simp only [sX7_inr, if_neg c_1, if_neg c_2]; first | rfl | done))⟩

set_option maxRecDepth 100000 in
set_option maxHeartbeats 4000000 in
theorem kX7_isFigurem (l : Launch) (g : GG)   : KI l g yX7_isFigure wsX7_isFigure 1 22 [.int (-1)] [] (fun (r : Int32) (w' : va_W) => r = (bI false) ∧ w' = []) := by
  refine kI_of (cc := cX7_isFigure) (maxL := 1) (by decide) rfl (Nat.le_of_ble_eq_true rfl) ?_
  intro pp ee ss mm bel mth cd A ls C S hr hl
  obtain ⟨hx, hb, hml, hown, hts⟩ := id C.1
  have hl : lv_has ls 1 [(0, .int (-1))] := hl
  obtain ⟨H, hH⟩ : ∃ H, H = ss.heap := ⟨_, rfl⟩
  obtain ⟨locs, hL0⟩ : ∃ L : List Loc, L = [] := ⟨_, rfl⟩
  rw [← hH, ← hL0] at S ⊢
  refine lv_iload_n hx hb dX7_isFigure_0 rfl (lv_at hl 0 rfl) ?_
  refine lv_bipush (v := 48) hx hb dX7_isFigure_1 (by decide) ?_
  refine lv_bipush (v := 57) hx hb dX7_isFigure_3 (by decide) ?_
  refine after_I (wc := []) (y := yX7_in) C S (va_runS (As := [.int (-1), .int 48, .int 57]) (rest := []) C.1 (kX7_inr l g (-1) 48 57 H.size) (va_cwS 3 hts gX7_isFigure_X7_in rfl rfl rfl (by decide +kernel) ⟨Nat.le_of_ble_eq_true rfl, Nat.le_of_ble_eq_true rfl⟩) (preS_at C S [] rfl (by decide)) rfl rfl hl.1 rfl (lv_room (Nat.le_of_ble_eq_true rfl)) dX7_isFigure_5 ⟨Nat.le_of_ble_eq_true rfl, Nat.le_of_ble_eq_true rfl⟩) [] [] rfl (wr := []) rfl (by decide) (by decide) (fun r0 w0 H locs hq S => ?_)
  obtain ⟨rfl, rfl⟩ := hq
  have S : ST g A ss H locs [] := S
  refine top_eq (y := bI false) (by decide) ?_
  exact ret_Z (false) C S hr dX7_isFigure_8 (rfl) ⟨(rfl), (rfl)⟩
