theorem inX7_token_X7 : ∀ w ∈ wsX70, w ∈ wsX7_token := by decide +kernel
set_option maxRecDepth 100000 in
set_option maxHeartbeats 4000000 in
theorem kX7_token (l : Launch) (g : GG) (M : Nat) (nw : Nat) (dr : Nat) (pa : Nat) (im : Nat) (ke : Nat) (fl : Nat) (fq : Nat) (te : Nat) (ni : Nat) (re : Nat) (ma : Nat) (be : Nat) (ypa : Int32) (yfa : Int32) (yst : Int32) (yso : Int32) (yab : Int32) (ybl : Int32) (yis : Int32) (yra : Int32) (tx : Nat → Int32) (z : Nat) (ch : Nat → Nat) (a : Nat) (v0 : Nat) (hz : z ≤ 100) (htx : ∀ i, i < z → tx i = nI (ch i)) (hch : ∀ i, i < z → ch i ≤ 255) (ha : a ≤ z) : KV l g yX7_token wsX7_token 2 42 [.ref M] [(M, ob 7 [.ref nw, .ref dr, .ref pa, .int ypa, .ref im, .ref ke, .ref fl, .ref fq, .int yfa, .ref te, .int (nI z), .int (nI a), .int yst, .int yso, .int (nI v0), .ref ni, .ref re, .int yab, .int ybl, .int yis, .int yra, .ref ma, .ref be]), (te, aI g 100 tx)] (fun (w' : va_W) => w' = [(M, ob 7 [.ref nw, .ref dr, .ref pa, .int ypa, .ref im, .ref ke, .ref fl, .ref fq, .int yfa, .ref te, .int (nI z), .int (nI (enQ ch z (bk ch z a))), .int (nI (bk ch z a)), .int (nI (soQ ch z (bk ch z a))), .int (nI (vaQ ch z (bk ch z a) v0)), .ref ni, .ref re, .int yab, .int ybl, .int yis, .int yra, .ref ma, .ref be]), (te, aI g 100 tx)]) := by
  refine kV_of (cc := cX7_token) (maxL := 2) (by decide) rfl (Nat.le_of_ble_eq_true rfl) ?_
  intro pp ee ss mm bel mth cd A ls C S hr hl
  obtain ⟨hx, hb, hml, hown, hts⟩ := id C.1
  have hl : lv_has ls 2 [(0, .ref M)] := hl
  obtain ⟨H, hH⟩ : ∃ H, H = ss.heap := ⟨_, rfl⟩
  obtain ⟨locs, hL0⟩ : ∃ L : List Loc, L = [] := ⟨_, rfl⟩
  rw [← hH, ← hL0] at S ⊢
  have loop0 : ∀ (N0 : Nat) (e : Nat), z - e < N0 → (a ≤ e) → (e ≤ z) → (bk ch z e = bk ch z a) → ∀ (H : Heap) (locs : List Loc) (ls : Array Slot), ST g A ss H locs [(M, ob 7 [.ref nw, .ref dr, .ref pa, .int ypa, .ref im, .ref ke, .ref fl, .ref fq, .int yfa, .ref te, .int (nI z), .int (nI e), .int yst, .int yso, .int (nI v0), .ref ni, .ref re, .int yab, .int ybl, .int yis, .int yra, .ref ma, .ref be]), (te, aI g 100 tx)] → lv_has ls 2 [(0, .ref M)] → W pp l ee { frames := 2, cells := 0, slots := 0, locals := 42 } ss mm ([.ref M] : List Value).toArray bel mth cd H locs 0 0 (QV bel ([.ref M] : List Value).toArray ss g A (fun (w' : va_W) => w' = [(M, ob 7 [.ref nw, .ref dr, .ref pa, .int ypa, .ref im, .ref ke, .ref fl, .ref fq, .int yfa, .ref te, .int (nI z), .int (nI (enQ ch z (bk ch z a))), .int (nI (bk ch z a)), .int (nI (soQ ch z (bk ch z a))), .int (nI (vaQ ch z (bk ch z a) v0)), .ref ni, .ref re, .int yab, .int ybl, .int yis, .int yra, .ref ma, .ref be]), (te, aI g 100 tx)])) (F0 mm 0 ls []) := by
    intro N0
    induction N0 with
    | zero => intro e hN; exact absurd hN (Nat.not_lt_zero _)
    | succ N0 ih0 =>
      intro e hN h1 h2 hs H locs ls S hl
      rcases Nat.lt_or_ge e z with hez | hez
      ·
        have hce := hch e hez
        refine lv_aload_n hx hb dX7_token_0 rfl (lv_at hl 0 rfl) ?_
        refine lv_aload_n hx hb dX7_token_1 rfl (lv_at hl 0 rfl) ?_
        refine top_get C S inX7_token_X7 rfl 0 rfl 11 (by decide) (by decide +kernel) rfl rfl dX7_token_2 ?_
        refine after_I (wc := [(M, ob 7 [.ref nw, .ref dr, .ref pa, .int ypa, .ref im, .ref ke, .ref fl, .ref fq, .int yfa, .ref te, .int (nI z), .int (nI e), .int yst, .int yso, .int (nI v0), .ref ni, .ref re, .int yab, .int ybl, .int yis, .int yra, .ref ma, .ref be]), (te, aI g 100 tx)]) (y := yX7_letterAt) C S (va_runV (As := [.int (nI e)]) (rest := []) C.1 (kX7_letterAty l g M nw dr pa im ke fl fq te ni re ma be ypa yfa (nI e) yst yso (nI v0) yab ybl yis yra tx z ch e (by first | assumption | omega) (by first | assumption | omega) (by first | assumption | omega) (by first | assumption | omega) H.size) (cwV 1 hts gX7_token_X7_letterAt rfl rfl rfl (by decide +kernel) ⟨Nat.le_of_ble_eq_true rfl, Nat.le_of_ble_eq_true rfl⟩) (preV_at C S 0 rfl rfl [0, 1] rfl (by decide)) rfl rfl hl.1 rfl (lv_room (Nat.le_of_ble_eq_true rfl)) dX7_token_5 ⟨Nat.le_of_ble_eq_true rfl, Nat.le_of_ble_eq_true rfl⟩) [0, 1] [] rfl (wr := []) rfl (by decide) (by decide) (fun r0 w0 H locs hq S => ?_)
        obtain ⟨rfl, rfl⟩ := hq
        have S : ST g A ss H locs [(M, ob 7 [.ref nw, .ref dr, .ref pa, .int ypa, .ref im, .ref ke, .ref fl, .ref fq, .int yfa, .ref te, .int (nI z), .int (nI e), .int yst, .int yso, .int (nI v0), .ref ni, .ref re, .int yab, .int ybl, .int yis, .int yra, .ref ma, .ref be]), (te, aI g 100 tx)] := S
        refine lv_bipush (v := 32) hx hb dX7_token_8 (by decide) ?_
        refine bn_ine (tgt := 26) (a := ch e) (b := 32) hx hb rfl rfl (by omega) (by omega) dX7_token_10 (by decide) (fun c_1 => ?_) (fun c_1 => ?_)
        · -- 10 T
          have hbk : bk ch z a = e := by rw [← hs]; exact sk_stop (decide_eq_false c_1)
          refine lv_aload_n hx hb dX7_token_26 rfl (lv_at hl 0 rfl) ?_
          refine lv_aload_n hx hb dX7_token_27 rfl (lv_at hl 0 rfl) ?_
          refine top_get C S inX7_token_X7 rfl 0 rfl 11 (by decide) (by decide +kernel) rfl rfl dX7_token_28 ?_
          refine top_put (ty := .int) C S inX7_token_X7 tyX7 tyX7_ok nmX7 rfl 0 rfl 12 (by decide) (by decide +kernel) rfl rfl (tyX7_ok 12 (by decide)) rfl rfl (Nat.le_of_ble_eq_true rfl) dX7_token_31 (fun H locs S => ?_)
          have S : ST g A ss H locs [(M, ob 7 [.ref nw, .ref dr, .ref pa, .int ypa, .ref im, .ref ke, .ref fl, .ref fq, .int yfa, .ref te, .int (nI z), .int (nI e), .int (nI e), .int yso, .int (nI v0), .ref ni, .ref re, .int yab, .int ybl, .int yis, .int yra, .ref ma, .ref be]), (te, aI g 100 tx)] := S
          refine lv_aload_n hx hb dX7_token_34 rfl (lv_at hl 0 rfl) ?_
          refine lv_aload_n hx hb dX7_token_35 rfl (lv_at hl 0 rfl) ?_
          refine top_get C S inX7_token_X7 rfl 0 rfl 11 (by decide) (by decide +kernel) rfl rfl dX7_token_36 ?_
          refine after_I (wc := [(M, ob 7 [.ref nw, .ref dr, .ref pa, .int ypa, .ref im, .ref ke, .ref fl, .ref fq, .int yfa, .ref te, .int (nI z), .int (nI e), .int (nI e), .int yso, .int (nI v0), .ref ni, .ref re, .int yab, .int ybl, .int yis, .int yra, .ref ma, .ref be]), (te, aI g 100 tx)]) (y := yX7_letterAt) C S (va_runV (As := [.int (nI e)]) (rest := []) C.1 (kX7_letterAty l g M nw dr pa im ke fl fq te ni re ma be ypa yfa (nI e) (nI e) yso (nI v0) yab ybl yis yra tx z ch e (by first | assumption | omega) (by first | assumption | omega) (by first | assumption | omega) (by first | assumption | omega) H.size) (cwV 1 hts gX7_token_X7_letterAt rfl rfl rfl (by decide +kernel) ⟨Nat.le_of_ble_eq_true rfl, Nat.le_of_ble_eq_true rfl⟩) (preV_at C S 0 rfl rfl [0, 1] rfl (by decide)) rfl rfl hl.1 rfl (lv_room (Nat.le_of_ble_eq_true rfl)) dX7_token_39 ⟨Nat.le_of_ble_eq_true rfl, Nat.le_of_ble_eq_true rfl⟩) [0, 1] [] rfl (wr := []) rfl (by decide) (by decide) (fun r0 w0 H locs hq S => ?_)
          obtain ⟨rfl, rfl⟩ := hq
          have S : ST g A ss H locs [(M, ob 7 [.ref nw, .ref dr, .ref pa, .int ypa, .ref im, .ref ke, .ref fl, .ref fq, .int yfa, .ref te, .int (nI z), .int (nI e), .int (nI e), .int yso, .int (nI v0), .ref ni, .ref re, .int yab, .int ybl, .int yis, .int yra, .ref ma, .ref be]), (te, aI g 100 tx)] := S
          refine lv_istore_n (lv' := [(1, .int (nI (ch e))), (0, .ref M)]) hx hb dX7_token_42 rfl hl (by decide) rfl (fun ls hl => ?_)
          refine lv_aload_n hx hb dX7_token_43 rfl (lv_at hl 1 rfl) ?_
          refine lv_iload_n hx hb dX7_token_44 rfl (lv_at hl 0 rfl) ?_
          refine bn_zge (tgt := 52) (a := ch e) hx hb rfl (by omega) dX7_token_45 (by decide) (fun c_2 => ?_) (fun c_2 => ?_)
          · -- 45 T
            refine lv_iload_n hx hb dX7_token_52 rfl (lv_at hl 0 rfl) ?_
            refine lv_bipush (v := 108) hx hb dX7_token_53 (by decide) ?_
            refine bn_ine (tgt := 62) (a := ch e) (b := 108) hx hb rfl rfl (by omega) (by omega) dX7_token_55 (by decide) (fun c_3 => ?_) (fun c_3 => ?_)
            · -- 55 T
              have hn1 := c_3
              refine lv_iload_n hx hb dX7_token_62 rfl (lv_at hl 0 rfl) ?_
              refine after_I (wc := []) (y := yX7_isFigure) C S (va_runS (As := [.int (nI (ch e))]) (rest := [.ref M]) C.1 (kX7_isFiguren l g (ch e) (by first | assumption | omega) H.size) (va_cwS 1 hts gX7_token_X7_isFigure rfl rfl rfl (by decide +kernel) ⟨Nat.le_of_ble_eq_true rfl, Nat.le_of_ble_eq_true rfl⟩) (preS_at C S [] rfl (by decide)) rfl rfl hl.1 rfl (lv_room (Nat.le_of_ble_eq_true rfl)) dX7_token_63 ⟨Nat.le_of_ble_eq_true rfl, Nat.le_of_ble_eq_true rfl⟩) [] [0, 1] rfl (wr := [(M, ob 7 [.ref nw, .ref dr, .ref pa, .int ypa, .ref im, .ref ke, .ref fl, .ref fq, .int yfa, .ref te, .int (nI z), .int (nI e), .int (nI e), .int yso, .int (nI v0), .ref ni, .ref re, .int yab, .int ybl, .int yis, .int yra, .ref ma, .ref be]), (te, aI g 100 tx)]) rfl (by decide) (by decide) (fun r0 w0 H locs hq S => ?_)
              obtain ⟨rfl, rfl⟩ := hq
              have S : ST g A ss H locs [(M, ob 7 [.ref nw, .ref dr, .ref pa, .int ypa, .ref im, .ref ke, .ref fl, .ref fq, .int yfa, .ref te, .int (nI z), .int (nI e), .int (nI e), .int yso, .int (nI v0), .ref ni, .ref re, .int yab, .int ybl, .int yis, .int yra, .ref ma, .ref be]), (te, aI g 100 tx)] := S
              refine br_eqB (tgt := 73) hx hb dX7_token_66 (by decide) (fun c_4 => ?_) (fun c_4 => ?_)
              · -- 66 T
                have hnf := c_4
                refine lv_iload_n hx hb dX7_token_73 rfl (lv_at hl 0 rfl) ?_
                refine lv_bipush (v := 59) hx hb dX7_token_74 (by decide) ?_
                refine bn_ine (tgt := 83) (a := ch e) (b := 59) hx hb rfl rfl (by omega) (by omega) dX7_token_76 (by decide) (fun c_5 => ?_) (fun c_5 => ?_)
                · -- 76 T
                  have hsq : soQ ch z e = 4 := by unfold soQ; rw [if_pos hez, if_neg hn1, if_neg (by rw [hnf]; exact fun q9 => by cases q9), if_neg c_5]
                  refine lv_iconst (v := 4) hx hb dX7_token_83 (by decide) ?_
                  refine top_put (ty := .int) C S inX7_token_X7 tyX7 tyX7_ok nmX7 rfl 0 rfl 13 (by decide) (by decide +kernel) rfl rfl (tyX7_ok 13 (by decide)) rfl rfl (Nat.le_of_ble_eq_true rfl) dX7_token_84 (fun H locs S => ?_)
                  have S : ST g A ss H locs [(M, ob 7 [.ref nw, .ref dr, .ref pa, .int ypa, .ref im, .ref ke, .ref fl, .ref fq, .int yfa, .ref te, .int (nI z), .int (nI e), .int (nI e), .int 4, .int (nI v0), .ref ni, .ref re, .int yab, .int ybl, .int yis, .int yra, .ref ma, .ref be]), (te, aI g 100 tx)] := S
                  refine lv_aload_n hx hb dX7_token_87 rfl (lv_at hl 1 rfl) ?_
                  refine lv_dup hx hb dX7_token_88 rfl ?_
                  refine top_get C S inX7_token_X7 rfl 0 rfl 11 (by decide) (by decide +kernel) rfl rfl dX7_token_89 ?_
                  refine lv_iload_n hx hb dX7_token_92 rfl (lv_at hl 0 rfl) ?_
                  refine bn_zge (tgt := 100) (a := ch e) hx hb rfl (by omega) dX7_token_93 (by decide) (fun c_6 => ?_) (fun c_6 => ?_)
                  · -- 93 T
                    refine lv_iconst (v := 1) hx hb dX7_token_100 (by decide) ?_
                    refine lv_iadd hx hb dX7_token_101 ?_
                    refine top_eq (y := nI (e + 1)) (nI_add _ _) ?_
                    refine top_put (ty := .int) C S inX7_token_X7 tyX7 tyX7_ok nmX7 rfl 0 rfl 11 (by decide) (by decide +kernel) rfl rfl (tyX7_ok 11 (by decide)) rfl rfl (Nat.le_of_ble_eq_true rfl) dX7_token_102 (fun H locs S => ?_)
                    have S : ST g A ss H locs [(M, ob 7 [.ref nw, .ref dr, .ref pa, .int ypa, .ref im, .ref ke, .ref fl, .ref fq, .int yfa, .ref te, .int (nI z), .int (nI (e + 1)), .int (nI e), .int 4, .int (nI v0), .ref ni, .ref re, .int yab, .int ybl, .int yis, .int yra, .ref ma, .ref be]), (te, aI g 100 tx)] := S
                    have hen : enQ ch z e = e + 1 := by unfold enQ teN; rw [if_pos hez, if_neg (by rw [hnf]; exact fun q9 => by cases q9)]
                    have hva : vaQ ch z e v0 = v0 := by unfold vaQ; rw [if_neg (by rw [hsq]; decide)]
                    refine lv_aload_n hx hb dX7_token_105 rfl (lv_at hl 1 rfl) ?_
                    refine top_get C S inX7_token_X7 rfl 0 rfl 13 (by decide) (by decide +kernel) rfl rfl dX7_token_106 ?_
                    refine lv_iconst (v := 2) hx hb dX7_token_109 (by decide) ?_
                    refine bn_ine (tgt := 193) (a := 4) (b := 2) hx hb rfl rfl (by omega) (by omega) dX7_token_110 (by decide) (fun c_7 => ?_) (fun c_7 => ?_)
                    · -- 110 T
                      exact ret_V C S hr dX7_token_193 (by rw [hbk, hsq, hen, hva] <;> rfl)
                    · -- 110 F
                      exact absurd c_7 (by decide)
                  · -- 93 F
                    exact absurd (Nat.zero_le _) c_6
                · -- 76 F
                  have hsq : soQ ch z e = 3 := by unfold soQ; rw [if_pos hez, if_neg hn1, if_neg (by rw [hnf]; exact fun q9 => by cases q9), if_pos c_5]
                  refine lv_iconst (v := 3) hx hb dX7_token_79 (by decide) ?_
                  refine lv_goto (tgt := 84) hx hb dX7_token_80 (by decide) ?_
                  refine top_put (ty := .int) C S inX7_token_X7 tyX7 tyX7_ok nmX7 rfl 0 rfl 13 (by decide) (by decide +kernel) rfl rfl (tyX7_ok 13 (by decide)) rfl rfl (Nat.le_of_ble_eq_true rfl) dX7_token_84 (fun H locs S => ?_)
                  have S : ST g A ss H locs [(M, ob 7 [.ref nw, .ref dr, .ref pa, .int ypa, .ref im, .ref ke, .ref fl, .ref fq, .int yfa, .ref te, .int (nI z), .int (nI e), .int (nI e), .int 3, .int (nI v0), .ref ni, .ref re, .int yab, .int ybl, .int yis, .int yra, .ref ma, .ref be]), (te, aI g 100 tx)] := S
                  refine lv_aload_n hx hb dX7_token_87 rfl (lv_at hl 1 rfl) ?_
                  refine lv_dup hx hb dX7_token_88 rfl ?_
                  refine top_get C S inX7_token_X7 rfl 0 rfl 11 (by decide) (by decide +kernel) rfl rfl dX7_token_89 ?_
                  refine lv_iload_n hx hb dX7_token_92 rfl (lv_at hl 0 rfl) ?_
                  refine bn_zge (tgt := 100) (a := ch e) hx hb rfl (by omega) dX7_token_93 (by decide) (fun c_8 => ?_) (fun c_8 => ?_)
                  · -- 93 T
                    refine lv_iconst (v := 1) hx hb dX7_token_100 (by decide) ?_
                    refine lv_iadd hx hb dX7_token_101 ?_
                    refine top_eq (y := nI (e + 1)) (nI_add _ _) ?_
                    refine top_put (ty := .int) C S inX7_token_X7 tyX7 tyX7_ok nmX7 rfl 0 rfl 11 (by decide) (by decide +kernel) rfl rfl (tyX7_ok 11 (by decide)) rfl rfl (Nat.le_of_ble_eq_true rfl) dX7_token_102 (fun H locs S => ?_)
                    have S : ST g A ss H locs [(M, ob 7 [.ref nw, .ref dr, .ref pa, .int ypa, .ref im, .ref ke, .ref fl, .ref fq, .int yfa, .ref te, .int (nI z), .int (nI (e + 1)), .int (nI e), .int 3, .int (nI v0), .ref ni, .ref re, .int yab, .int ybl, .int yis, .int yra, .ref ma, .ref be]), (te, aI g 100 tx)] := S
                    have hen : enQ ch z e = e + 1 := by unfold enQ teN; rw [if_pos hez, if_neg (by rw [hnf]; exact fun q9 => by cases q9)]
                    have hva : vaQ ch z e v0 = v0 := by unfold vaQ; rw [if_neg (by rw [hsq]; decide)]
                    refine lv_aload_n hx hb dX7_token_105 rfl (lv_at hl 1 rfl) ?_
                    refine top_get C S inX7_token_X7 rfl 0 rfl 13 (by decide) (by decide +kernel) rfl rfl dX7_token_106 ?_
                    refine lv_iconst (v := 2) hx hb dX7_token_109 (by decide) ?_
                    refine bn_ine (tgt := 193) (a := 3) (b := 2) hx hb rfl rfl (by omega) (by omega) dX7_token_110 (by decide) (fun c_9 => ?_) (fun c_9 => ?_)
                    · -- 110 T
                      exact ret_V C S hr dX7_token_193 (by rw [hbk, hsq, hen, hva] <;> rfl)
                    · -- 110 F
                      exact absurd c_9 (by decide)
                  · -- 93 F
                    exact absurd (Nat.zero_le _) c_8
              · -- 66 F
                have hfe := c_4
                have hfi := fig_in hfe
                have hsq : soQ ch z e = 2 := by unfold soQ; rw [if_pos hez, if_neg hn1, if_pos hfe]
                refine lv_iconst (v := 2) hx hb dX7_token_69 (by decide) ?_
                refine lv_goto (tgt := 84) hx hb dX7_token_70 (by decide) ?_
                refine top_put (ty := .int) C S inX7_token_X7 tyX7 tyX7_ok nmX7 rfl 0 rfl 13 (by decide) (by decide +kernel) rfl rfl (tyX7_ok 13 (by decide)) rfl rfl (Nat.le_of_ble_eq_true rfl) dX7_token_84 (fun H locs S => ?_)
                have S : ST g A ss H locs [(M, ob 7 [.ref nw, .ref dr, .ref pa, .int ypa, .ref im, .ref ke, .ref fl, .ref fq, .int yfa, .ref te, .int (nI z), .int (nI e), .int (nI e), .int 2, .int (nI v0), .ref ni, .ref re, .int yab, .int ybl, .int yis, .int yra, .ref ma, .ref be]), (te, aI g 100 tx)] := S
                refine lv_aload_n hx hb dX7_token_87 rfl (lv_at hl 1 rfl) ?_
                refine lv_dup hx hb dX7_token_88 rfl ?_
                refine top_get C S inX7_token_X7 rfl 0 rfl 11 (by decide) (by decide +kernel) rfl rfl dX7_token_89 ?_
                refine lv_iload_n hx hb dX7_token_92 rfl (lv_at hl 0 rfl) ?_
                refine bn_zge (tgt := 100) (a := ch e) hx hb rfl (by omega) dX7_token_93 (by decide) (fun c_10 => ?_) (fun c_10 => ?_)
                · -- 93 T
                  refine lv_iconst (v := 1) hx hb dX7_token_100 (by decide) ?_
                  refine lv_iadd hx hb dX7_token_101 ?_
                  refine top_eq (y := nI (e + 1)) (nI_add _ _) ?_
                  refine top_put (ty := .int) C S inX7_token_X7 tyX7 tyX7_ok nmX7 rfl 0 rfl 11 (by decide) (by decide +kernel) rfl rfl (tyX7_ok 11 (by decide)) rfl rfl (Nat.le_of_ble_eq_true rfl) dX7_token_102 (fun H locs S => ?_)
                  have S : ST g A ss H locs [(M, ob 7 [.ref nw, .ref dr, .ref pa, .int ypa, .ref im, .ref ke, .ref fl, .ref fq, .int yfa, .ref te, .int (nI z), .int (nI (e + 1)), .int (nI e), .int 2, .int (nI v0), .ref ni, .ref re, .int yab, .int ybl, .int yis, .int yra, .ref ma, .ref be]), (te, aI g 100 tx)] := S
                  refine lv_aload_n hx hb dX7_token_105 rfl (lv_at hl 1 rfl) ?_
                  refine top_get C S inX7_token_X7 rfl 0 rfl 13 (by decide) (by decide +kernel) rfl rfl dX7_token_106 ?_
                  refine lv_iconst (v := 2) hx hb dX7_token_109 (by decide) ?_
                  refine bn_ine (tgt := 193) (a := 2) (b := 2) hx hb rfl rfl (by omega) (by omega) dX7_token_110 (by decide) (fun c_11 => ?_) (fun c_11 => ?_)
                  · -- 110 T
                    exact absurd c_11 (by decide)
                  · -- 110 F
                    refine lv_aload_n hx hb dX7_token_113 rfl (lv_at hl 1 rfl) ?_
                    refine lv_iload_n hx hb dX7_token_114 rfl (lv_at hl 0 rfl) ?_
                    refine lv_bipush (v := 48) hx hb dX7_token_115 (by decide) ?_
                    refine lv_isub hx hb dX7_token_117 ?_
                    refine top_eq (y := nI ((ch e) - 48)) (pk_sub (a := ch e) (b := 48) (by omega)) ?_
                    refine top_put (ty := .int) C S inX7_token_X7 tyX7 tyX7_ok nmX7 rfl 0 rfl 14 (by decide) (by decide +kernel) rfl rfl (tyX7_ok 14 (by decide)) rfl rfl (Nat.le_of_ble_eq_true rfl) dX7_token_118 (fun H locs S => ?_)
                    have S : ST g A ss H locs [(M, ob 7 [.ref nw, .ref dr, .ref pa, .int ypa, .ref im, .ref ke, .ref fl, .ref fq, .int yfa, .ref te, .int (nI z), .int (nI (e + 1)), .int (nI e), .int 2, .int (nI ((ch e) - 48)), .ref ni, .ref re, .int yab, .int ybl, .int yis, .int yra, .ref ma, .ref be]), (te, aI g 100 tx)] := S
                    have loop121 : ∀ (N0 : Nat) (x : Nat) (y : Nat), z - x < N0 → (e + 1 ≤ x) → (x ≤ z) → (y = vlN ch e (x - e - 1)) → (y ≤ 1009) → (sk (fun i => figN (ch i)) z x = sk (fun i => figN (ch i)) z (e + 1)) → ∀ (H : Heap) (locs : List Loc) (ls : Array Slot), ST g A ss H locs [(M, ob 7 [.ref nw, .ref dr, .ref pa, .int ypa, .ref im, .ref ke, .ref fl, .ref fq, .int yfa, .ref te, .int (nI z), .int (nI x), .int (nI e), .int 2, .int (nI y), .ref ni, .ref re, .int yab, .int ybl, .int yis, .int yra, .ref ma, .ref be]), (te, aI g 100 tx)] → lv_has ls 2 [(1, .int (nI (ch e))), (0, .ref M)] → W pp l ee { frames := 2, cells := 0, slots := 0, locals := 42 } ss mm ([.ref M] : List Value).toArray bel mth cd H locs 0 0 (QV bel ([.ref M] : List Value).toArray ss g A (fun (w' : va_W) => w' = [(M, ob 7 [.ref nw, .ref dr, .ref pa, .int ypa, .ref im, .ref ke, .ref fl, .ref fq, .int yfa, .ref te, .int (nI z), .int (nI (enQ ch z (bk ch z a))), .int (nI (bk ch z a)), .int (nI (soQ ch z (bk ch z a))), .int (nI (vaQ ch z (bk ch z a) v0)), .ref ni, .ref re, .int yab, .int ybl, .int yis, .int yra, .ref ma, .ref be]), (te, aI g 100 tx)])) (F0 mm 121 ls []) := by
                      intro N0
                      induction N0 with
                      | zero => intro x y hN; exact absurd hN (Nat.not_lt_zero _)
                      | succ N0 ih121 =>
                        intro x y hN hx1 hx2 hy1 hyb hsk H locs ls S hl
                        rcases Nat.lt_or_ge x z with hxz | hxz
                        ·
                          have hcx := hch x hxz
                          refine lv_aload_n hx hb dX7_token_121 rfl (lv_at hl 1 rfl) ?_
                          refine lv_aload_n hx hb dX7_token_122 rfl (lv_at hl 1 rfl) ?_
                          refine top_get C S inX7_token_X7 rfl 0 rfl 11 (by decide) (by decide +kernel) rfl rfl dX7_token_123 ?_
                          refine after_I (wc := [(M, ob 7 [.ref nw, .ref dr, .ref pa, .int ypa, .ref im, .ref ke, .ref fl, .ref fq, .int yfa, .ref te, .int (nI z), .int (nI x), .int (nI e), .int 2, .int (nI y), .ref ni, .ref re, .int yab, .int ybl, .int yis, .int yra, .ref ma, .ref be]), (te, aI g 100 tx)]) (y := yX7_letterAt) C S (va_runV (As := [.int (nI x)]) (rest := []) C.1 (kX7_letterAty l g M nw dr pa im ke fl fq te ni re ma be ypa yfa (nI x) (nI e) 2 (nI y) yab ybl yis yra tx z ch x (by first | assumption | omega) (by first | assumption | omega) (by first | assumption | omega) (by first | assumption | omega) H.size) (cwV 1 hts gX7_token_X7_letterAt rfl rfl rfl (by decide +kernel) ⟨Nat.le_of_ble_eq_true rfl, Nat.le_of_ble_eq_true rfl⟩) (preV_at C S 0 rfl rfl [0, 1] rfl (by decide)) rfl rfl hl.1 rfl (lv_room (Nat.le_of_ble_eq_true rfl)) dX7_token_126 ⟨Nat.le_of_ble_eq_true rfl, Nat.le_of_ble_eq_true rfl⟩) [0, 1] [] rfl (wr := []) rfl (by decide) (by decide) (fun r0 w0 H locs hq S => ?_)
                          obtain ⟨rfl, rfl⟩ := hq
                          have S : ST g A ss H locs [(M, ob 7 [.ref nw, .ref dr, .ref pa, .int ypa, .ref im, .ref ke, .ref fl, .ref fq, .int yfa, .ref te, .int (nI z), .int (nI x), .int (nI e), .int 2, .int (nI y), .ref ni, .ref re, .int yab, .int ybl, .int yis, .int yra, .ref ma, .ref be]), (te, aI g 100 tx)] := S
                          refine after_I (wc := []) (y := yX7_isFigure) C S (va_runS (As := [.int (nI (ch x))]) (rest := []) C.1 (kX7_isFiguren l g (ch x) (by first | assumption | omega) H.size) (va_cwS 1 hts gX7_token_X7_isFigure rfl rfl rfl (by decide +kernel) ⟨Nat.le_of_ble_eq_true rfl, Nat.le_of_ble_eq_true rfl⟩) (preS_at C S [] rfl (by decide)) rfl rfl hl.1 rfl (lv_room (Nat.le_of_ble_eq_true rfl)) dX7_token_129 ⟨Nat.le_of_ble_eq_true rfl, Nat.le_of_ble_eq_true rfl⟩) [] [0, 1] rfl (wr := [(M, ob 7 [.ref nw, .ref dr, .ref pa, .int ypa, .ref im, .ref ke, .ref fl, .ref fq, .int yfa, .ref te, .int (nI z), .int (nI x), .int (nI e), .int 2, .int (nI y), .ref ni, .ref re, .int yab, .int ybl, .int yis, .int yra, .ref ma, .ref be]), (te, aI g 100 tx)]) rfl (by decide) (by decide) (fun r0 w0 H locs hq S => ?_)
                          obtain ⟨rfl, rfl⟩ := hq
                          have S : ST g A ss H locs [(M, ob 7 [.ref nw, .ref dr, .ref pa, .int ypa, .ref im, .ref ke, .ref fl, .ref fq, .int yfa, .ref te, .int (nI z), .int (nI x), .int (nI e), .int 2, .int (nI y), .ref ni, .ref re, .int yab, .int ybl, .int yis, .int yra, .ref ma, .ref be]), (te, aI g 100 tx)] := S
                          refine br_eqB (tgt := 193) hx hb dX7_token_132 (by decide) (fun c_12 => ?_) (fun c_12 => ?_)
                          · -- 132 T
                            have hxe : sk (fun i => figN (ch i)) z x = x := sk_stop (P := fun i => figN (ch i)) c_12
                            have hte : teN ch z e = x := by unfold teN; rw [if_pos hfe, ← hsk, hxe]
                            have hen : enQ ch z e = x := by unfold enQ; rw [if_pos hez, hte]
                            have hva : vaQ ch z e v0 = y := by unfold vaQ; rw [if_pos hsq, hte]; exact hy1.symm
                            exact ret_V C S hr dX7_token_193 (by rw [hbk, hsq, hen, hva] <;> rfl)
                          · -- 132 F
                            have hfq := c_12
                            have hfx := fig_in hfq
                            refine lv_aload_n hx hb dX7_token_135 rfl (lv_at hl 1 rfl) ?_
                            refine lv_iload_n hx hb dX7_token_136 rfl (lv_at hl 0 rfl) ?_
                            refine lv_bipush (v := 48) hx hb dX7_token_137 (by decide) ?_
                            refine bn_ieq (tgt := 151) (a := ch e) (b := 48) hx hb rfl rfl (by omega) (by omega) dX7_token_139 (by decide) (fun c_13 => ?_) (fun c_13 => ?_)
                            · -- 139 T
                              have h48 := c_13
                              refine lv_sipush (v := 1000) hx hb dX7_token_151 (by decide) ?_
                              refine lv_goto (tgt := 177) hx hb dX7_token_154 (by decide) ?_
                              refine top_put (ty := .int) C S inX7_token_X7 tyX7 tyX7_ok nmX7 rfl 0 rfl 14 (by decide) (by decide +kernel) rfl rfl (tyX7_ok 14 (by decide)) rfl rfl (Nat.le_of_ble_eq_true rfl) dX7_token_177 (fun H locs S => ?_)
                              have S : ST g A ss H locs [(M, ob 7 [.ref nw, .ref dr, .ref pa, .int ypa, .ref im, .ref ke, .ref fl, .ref fq, .int yfa, .ref te, .int (nI z), .int (nI x), .int (nI e), .int 2, .int 1000, .ref ni, .ref re, .int yab, .int ybl, .int yis, .int yra, .ref ma, .ref be]), (te, aI g 100 tx)] := S
                              refine lv_aload_n hx hb dX7_token_180 rfl (lv_at hl 1 rfl) ?_
                              refine lv_dup hx hb dX7_token_181 rfl ?_
                              refine top_get C S inX7_token_X7 rfl 0 rfl 11 (by decide) (by decide +kernel) rfl rfl dX7_token_182 ?_
                              refine lv_iconst (v := 1) hx hb dX7_token_185 (by decide) ?_
                              refine lv_iadd hx hb dX7_token_186 ?_
                              refine top_eq (y := nI (x + 1)) (nI_add _ _) ?_
                              refine top_put (ty := .int) C S inX7_token_X7 tyX7 tyX7_ok nmX7 rfl 0 rfl 11 (by decide) (by decide +kernel) rfl rfl (tyX7_ok 11 (by decide)) rfl rfl (Nat.le_of_ble_eq_true rfl) dX7_token_187 (fun H locs S => ?_)
                              have S : ST g A ss H locs [(M, ob 7 [.ref nw, .ref dr, .ref pa, .int ypa, .ref im, .ref ke, .ref fl, .ref fq, .int yfa, .ref te, .int (nI z), .int (nI (x + 1)), .int (nI e), .int 2, .int 1000, .ref ni, .ref re, .int yab, .int ybl, .int yis, .int yra, .ref ma, .ref be]), (te, aI g 100 tx)] := S
                              refine lv_goto (tgt := 121) hx hb dX7_token_190 (by decide) ?_
                              exact ih121 (x + 1) 1000 (by omega) (by first | assumption | omega) (by first | assumption | omega) (by rw [show x + 1 - e - 1 = (x - e - 1) + 1 by omega, vlN, ← hy1, if_pos h48]) (by first | assumption | omega) (by rw [← hsk]; exact (sk_step (P := fun i => figN (ch i)) (p := x) (by omega) hfq).symm) H locs ls (ST.eq S (rfl)) (lv_sub hl [0, 1] (rfl))
                            · -- 139 F
                              have h48 := c_13
                              refine lv_aload_n hx hb dX7_token_142 rfl (lv_at hl 1 rfl) ?_
                              refine top_get C S inX7_token_X7 rfl 0 rfl 14 (by decide) (by decide +kernel) rfl rfl dX7_token_143 ?_
                              refine lv_bipush (v := 99) hx hb dX7_token_146 (by decide) ?_
                              refine bn_ile (tgt := 157) (a := y) (b := 99) hx hb rfl rfl (by omega) (by omega) dX7_token_148 (by decide) (fun c_14 => ?_) (fun c_14 => ?_)
                              · -- 148 T
                                refine lv_bipush (v := 10) hx hb dX7_token_157 (by decide) ?_
                                refine lv_aload_n hx hb dX7_token_159 rfl (lv_at hl 1 rfl) ?_
                                refine top_get C S inX7_token_X7 rfl 0 rfl 14 (by decide) (by decide +kernel) rfl rfl dX7_token_160 ?_
                                refine lv_imul hx hb dX7_token_163 ?_
                                refine top_eq (y := nI (10 * y)) (pk_mul _ _) ?_
                                refine lv_aload_n hx hb dX7_token_164 rfl (lv_at hl 1 rfl) ?_
                                refine top_get C S inX7_token_X7 rfl 0 rfl 9 (by decide) (by decide +kernel) rfl rfl dX7_token_165 ?_
                                refine lv_aload_n hx hb dX7_token_168 rfl (lv_at hl 1 rfl) ?_
                                refine top_get C S inX7_token_X7 rfl 0 rfl 11 (by decide) (by decide +kernel) rfl rfl dX7_token_169 ?_
                                refine top_ild C S 1 rfl (j := x) rfl (by omega) (by decide) dX7_token_172 ?_
                                refine top_eq (y := nI (ch x)) (htx _ (by omega)) ?_
                                refine lv_iadd hx hb dX7_token_173 ?_
                                refine top_eq (y := nI ((10 * y) + (ch x))) (nI_add _ _) ?_
                                refine lv_bipush (v := 48) hx hb dX7_token_174 (by decide) ?_
                                refine lv_isub hx hb dX7_token_176 ?_
                                refine top_eq (y := nI (((10 * y) + (ch x)) - 48)) (pk_sub (a := (10 * y) + (ch x)) (b := 48) (by omega)) ?_
                                refine top_put (ty := .int) C S inX7_token_X7 tyX7 tyX7_ok nmX7 rfl 0 rfl 14 (by decide) (by decide +kernel) rfl rfl (tyX7_ok 14 (by decide)) rfl rfl (Nat.le_of_ble_eq_true rfl) dX7_token_177 (fun H locs S => ?_)
                                have S : ST g A ss H locs [(M, ob 7 [.ref nw, .ref dr, .ref pa, .int ypa, .ref im, .ref ke, .ref fl, .ref fq, .int yfa, .ref te, .int (nI z), .int (nI x), .int (nI e), .int 2, .int (nI (((10 * y) + (ch x)) - 48)), .ref ni, .ref re, .int yab, .int ybl, .int yis, .int yra, .ref ma, .ref be]), (te, aI g 100 tx)] := S
                                refine lv_aload_n hx hb dX7_token_180 rfl (lv_at hl 1 rfl) ?_
                                refine lv_dup hx hb dX7_token_181 rfl ?_
                                refine top_get C S inX7_token_X7 rfl 0 rfl 11 (by decide) (by decide +kernel) rfl rfl dX7_token_182 ?_
                                refine lv_iconst (v := 1) hx hb dX7_token_185 (by decide) ?_
                                refine lv_iadd hx hb dX7_token_186 ?_
                                refine top_eq (y := nI (x + 1)) (nI_add _ _) ?_
                                refine top_put (ty := .int) C S inX7_token_X7 tyX7 tyX7_ok nmX7 rfl 0 rfl 11 (by decide) (by decide +kernel) rfl rfl (tyX7_ok 11 (by decide)) rfl rfl (Nat.le_of_ble_eq_true rfl) dX7_token_187 (fun H locs S => ?_)
                                have S : ST g A ss H locs [(M, ob 7 [.ref nw, .ref dr, .ref pa, .int ypa, .ref im, .ref ke, .ref fl, .ref fq, .int yfa, .ref te, .int (nI z), .int (nI (x + 1)), .int (nI e), .int 2, .int (nI (((10 * y) + (ch x)) - 48)), .ref ni, .ref re, .int yab, .int ybl, .int yis, .int yra, .ref ma, .ref be]), (te, aI g 100 tx)] := S
                                refine lv_goto (tgt := 121) hx hb dX7_token_190 (by decide) ?_
                                exact ih121 (x + 1) (((10 * y) + (ch x)) - 48) (by omega) (by first | assumption | omega) (by first | assumption | omega) (by rw [show x + 1 - e - 1 = (x - e - 1) + 1 by omega, vlN, ← hy1, if_neg h48, if_pos c_14, show e + (x - e - 1) + 1 = x by omega]; omega) (by first | assumption | omega) (by rw [← hsk]; exact (sk_step (P := fun i => figN (ch i)) (p := x) (by omega) hfq).symm) H locs ls (ST.eq S (rfl)) (lv_sub hl [0, 1] (rfl))
                              · -- 148 F
                                refine lv_sipush (v := 1000) hx hb dX7_token_151 (by decide) ?_
                                refine lv_goto (tgt := 177) hx hb dX7_token_154 (by decide) ?_
                                refine top_put (ty := .int) C S inX7_token_X7 tyX7 tyX7_ok nmX7 rfl 0 rfl 14 (by decide) (by decide +kernel) rfl rfl (tyX7_ok 14 (by decide)) rfl rfl (Nat.le_of_ble_eq_true rfl) dX7_token_177 (fun H locs S => ?_)
                                have S : ST g A ss H locs [(M, ob 7 [.ref nw, .ref dr, .ref pa, .int ypa, .ref im, .ref ke, .ref fl, .ref fq, .int yfa, .ref te, .int (nI z), .int (nI x), .int (nI e), .int 2, .int 1000, .ref ni, .ref re, .int yab, .int ybl, .int yis, .int yra, .ref ma, .ref be]), (te, aI g 100 tx)] := S
                                refine lv_aload_n hx hb dX7_token_180 rfl (lv_at hl 1 rfl) ?_
                                refine lv_dup hx hb dX7_token_181 rfl ?_
                                refine top_get C S inX7_token_X7 rfl 0 rfl 11 (by decide) (by decide +kernel) rfl rfl dX7_token_182 ?_
                                refine lv_iconst (v := 1) hx hb dX7_token_185 (by decide) ?_
                                refine lv_iadd hx hb dX7_token_186 ?_
                                refine top_eq (y := nI (x + 1)) (nI_add _ _) ?_
                                refine top_put (ty := .int) C S inX7_token_X7 tyX7 tyX7_ok nmX7 rfl 0 rfl 11 (by decide) (by decide +kernel) rfl rfl (tyX7_ok 11 (by decide)) rfl rfl (Nat.le_of_ble_eq_true rfl) dX7_token_187 (fun H locs S => ?_)
                                have S : ST g A ss H locs [(M, ob 7 [.ref nw, .ref dr, .ref pa, .int ypa, .ref im, .ref ke, .ref fl, .ref fq, .int yfa, .ref te, .int (nI z), .int (nI (x + 1)), .int (nI e), .int 2, .int 1000, .ref ni, .ref re, .int yab, .int ybl, .int yis, .int yra, .ref ma, .ref be]), (te, aI g 100 tx)] := S
                                refine lv_goto (tgt := 121) hx hb dX7_token_190 (by decide) ?_
                                exact ih121 (x + 1) 1000 (by omega) (by first | assumption | omega) (by first | assumption | omega) (by rw [show x + 1 - e - 1 = (x - e - 1) + 1 by omega, vlN, ← hy1, if_neg h48, if_neg c_14]) (by first | assumption | omega) (by rw [← hsk]; exact (sk_step (P := fun i => figN (ch i)) (p := x) (by omega) hfq).symm) H locs ls (ST.eq S (rfl)) (lv_sub hl [0, 1] (rfl))
                        ·
                          refine lv_aload_n hx hb dX7_token_121 rfl (lv_at hl 1 rfl) ?_
                          refine lv_aload_n hx hb dX7_token_122 rfl (lv_at hl 1 rfl) ?_
                          refine top_get C S inX7_token_X7 rfl 0 rfl 11 (by decide) (by decide +kernel) rfl rfl dX7_token_123 ?_
                          refine after_I (wc := [(M, ob 7 [.ref nw, .ref dr, .ref pa, .int ypa, .ref im, .ref ke, .ref fl, .ref fq, .int yfa, .ref te, .int (nI z), .int (nI x), .int (nI e), .int 2, .int (nI y), .ref ni, .ref re, .int yab, .int ybl, .int yis, .int yra, .ref ma, .ref be]), (te, aI g 100 tx)]) (y := yX7_letterAt) C S (va_runV (As := [.int (nI x)]) (rest := []) C.1 (kX7_letterAtn l g M nw dr pa im ke fl fq te ni re ma be ypa yfa (nI x) (nI e) 2 (nI y) yab ybl yis yra tx z ch x (by first | assumption | omega) (by first | assumption | omega) (by first | assumption | omega) (by first | assumption | omega) (by first | assumption | omega) H.size) (cwV 1 hts gX7_token_X7_letterAt rfl rfl rfl (by decide +kernel) ⟨Nat.le_of_ble_eq_true rfl, Nat.le_of_ble_eq_true rfl⟩) (preV_at C S 0 rfl rfl [0, 1] rfl (by decide)) rfl rfl hl.1 rfl (lv_room (Nat.le_of_ble_eq_true rfl)) dX7_token_126 ⟨Nat.le_of_ble_eq_true rfl, Nat.le_of_ble_eq_true rfl⟩) [0, 1] [] rfl (wr := []) rfl (by decide) (by decide) (fun r0 w0 H locs hq S => ?_)
                          obtain ⟨rfl, rfl⟩ := hq
                          have S : ST g A ss H locs [(M, ob 7 [.ref nw, .ref dr, .ref pa, .int ypa, .ref im, .ref ke, .ref fl, .ref fq, .int yfa, .ref te, .int (nI z), .int (nI x), .int (nI e), .int 2, .int (nI y), .ref ni, .ref re, .int yab, .int ybl, .int yis, .int yra, .ref ma, .ref be]), (te, aI g 100 tx)] := S
                          refine after_I (wc := []) (y := yX7_isFigure) C S (va_runS (As := [.int (-1)]) (rest := []) C.1 (kX7_isFigurem l g H.size) (va_cwS 1 hts gX7_token_X7_isFigure rfl rfl rfl (by decide +kernel) ⟨Nat.le_of_ble_eq_true rfl, Nat.le_of_ble_eq_true rfl⟩) (preS_at C S [] rfl (by decide)) rfl rfl hl.1 rfl (lv_room (Nat.le_of_ble_eq_true rfl)) dX7_token_129 ⟨Nat.le_of_ble_eq_true rfl, Nat.le_of_ble_eq_true rfl⟩) [] [0, 1] rfl (wr := [(M, ob 7 [.ref nw, .ref dr, .ref pa, .int ypa, .ref im, .ref ke, .ref fl, .ref fq, .int yfa, .ref te, .int (nI z), .int (nI x), .int (nI e), .int 2, .int (nI y), .ref ni, .ref re, .int yab, .int ybl, .int yis, .int yra, .ref ma, .ref be]), (te, aI g 100 tx)]) rfl (by decide) (by decide) (fun r0 w0 H locs hq S => ?_)
                          obtain ⟨rfl, rfl⟩ := hq
                          have S : ST g A ss H locs [(M, ob 7 [.ref nw, .ref dr, .ref pa, .int ypa, .ref im, .ref ke, .ref fl, .ref fq, .int yfa, .ref te, .int (nI z), .int (nI x), .int (nI e), .int 2, .int (nI y), .ref ni, .ref re, .int yab, .int ybl, .int yis, .int yra, .ref ma, .ref be]), (te, aI g 100 tx)] := S
                          refine br_eqB (tgt := 193) hx hb dX7_token_132 (by decide) (fun c_15 => ?_) (fun c_15 => ?_)
                          · -- 132 T
                            have hxe : sk (fun i => figN (ch i)) z x = x := sk_end (by omega)
                            have hte : teN ch z e = x := by unfold teN; rw [if_pos hfe, ← hsk, hxe]
                            have hen : enQ ch z e = x := by unfold enQ; rw [if_pos hez, hte]
                            have hva : vaQ ch z e v0 = y := by unfold vaQ; rw [if_pos hsq, hte]; exact hy1.symm
                            exact ret_V C S hr dX7_token_193 (by rw [hbk, hsq, hen, hva] <;> rfl)
                          · -- 132 F
                            cases c_15
                    exact loop121 _ (e + 1) (ch e - 48) (Nat.lt_succ_self _) (by first | assumption | omega) (by first | assumption | omega) (by rw [show e + 1 - e - 1 = 0 by omega] <;> rfl) (by first | assumption | omega) (rfl) H locs ls (ST.eq S (rfl)) (lv_sub hl [0, 1] (rfl))
                · -- 93 F
                  exact absurd (Nat.zero_le _) c_10
            · -- 55 F
              have hsq : soQ ch z e = 1 := by unfold soQ; rw [if_pos hez, if_pos c_3]
              have hnf : figN (ch e) = false := by rw [c_3]; decide
              refine lv_iconst (v := 1) hx hb dX7_token_58 (by decide) ?_
              refine lv_goto (tgt := 84) hx hb dX7_token_59 (by decide) ?_
              refine top_put (ty := .int) C S inX7_token_X7 tyX7 tyX7_ok nmX7 rfl 0 rfl 13 (by decide) (by decide +kernel) rfl rfl (tyX7_ok 13 (by decide)) rfl rfl (Nat.le_of_ble_eq_true rfl) dX7_token_84 (fun H locs S => ?_)
              have S : ST g A ss H locs [(M, ob 7 [.ref nw, .ref dr, .ref pa, .int ypa, .ref im, .ref ke, .ref fl, .ref fq, .int yfa, .ref te, .int (nI z), .int (nI e), .int (nI e), .int 1, .int (nI v0), .ref ni, .ref re, .int yab, .int ybl, .int yis, .int yra, .ref ma, .ref be]), (te, aI g 100 tx)] := S
              refine lv_aload_n hx hb dX7_token_87 rfl (lv_at hl 1 rfl) ?_
              refine lv_dup hx hb dX7_token_88 rfl ?_
              refine top_get C S inX7_token_X7 rfl 0 rfl 11 (by decide) (by decide +kernel) rfl rfl dX7_token_89 ?_
              refine lv_iload_n hx hb dX7_token_92 rfl (lv_at hl 0 rfl) ?_
              refine bn_zge (tgt := 100) (a := ch e) hx hb rfl (by omega) dX7_token_93 (by decide) (fun c_16 => ?_) (fun c_16 => ?_)
              · -- 93 T
                refine lv_iconst (v := 1) hx hb dX7_token_100 (by decide) ?_
                refine lv_iadd hx hb dX7_token_101 ?_
                refine top_eq (y := nI (e + 1)) (nI_add _ _) ?_
                refine top_put (ty := .int) C S inX7_token_X7 tyX7 tyX7_ok nmX7 rfl 0 rfl 11 (by decide) (by decide +kernel) rfl rfl (tyX7_ok 11 (by decide)) rfl rfl (Nat.le_of_ble_eq_true rfl) dX7_token_102 (fun H locs S => ?_)
                have S : ST g A ss H locs [(M, ob 7 [.ref nw, .ref dr, .ref pa, .int ypa, .ref im, .ref ke, .ref fl, .ref fq, .int yfa, .ref te, .int (nI z), .int (nI (e + 1)), .int (nI e), .int 1, .int (nI v0), .ref ni, .ref re, .int yab, .int ybl, .int yis, .int yra, .ref ma, .ref be]), (te, aI g 100 tx)] := S
                have hen : enQ ch z e = e + 1 := by unfold enQ teN; rw [if_pos hez, if_neg (by rw [hnf]; exact fun q9 => by cases q9)]
                have hva : vaQ ch z e v0 = v0 := by unfold vaQ; rw [if_neg (by rw [hsq]; decide)]
                refine lv_aload_n hx hb dX7_token_105 rfl (lv_at hl 1 rfl) ?_
                refine top_get C S inX7_token_X7 rfl 0 rfl 13 (by decide) (by decide +kernel) rfl rfl dX7_token_106 ?_
                refine lv_iconst (v := 2) hx hb dX7_token_109 (by decide) ?_
                refine bn_ine (tgt := 193) (a := 1) (b := 2) hx hb rfl rfl (by omega) (by omega) dX7_token_110 (by decide) (fun c_17 => ?_) (fun c_17 => ?_)
                · -- 110 T
                  exact ret_V C S hr dX7_token_193 (by rw [hbk, hsq, hen, hva] <;> rfl)
                · -- 110 F
                  exact absurd c_17 (by decide)
              · -- 93 F
                exact absurd (Nat.zero_le _) c_16
          · -- 45 F
            exact absurd (Nat.zero_le _) c_2
        · -- 10 F
          refine lv_aload_n hx hb dX7_token_13 rfl (lv_at hl 0 rfl) ?_
          refine lv_dup hx hb dX7_token_14 rfl ?_
          refine top_get C S inX7_token_X7 rfl 0 rfl 11 (by decide) (by decide +kernel) rfl rfl dX7_token_15 ?_
          refine lv_iconst (v := 1) hx hb dX7_token_18 (by decide) ?_
          refine lv_iadd hx hb dX7_token_19 ?_
          refine top_eq (y := nI (e + 1)) (nI_add _ _) ?_
          refine top_put (ty := .int) C S inX7_token_X7 tyX7 tyX7_ok nmX7 rfl 0 rfl 11 (by decide) (by decide +kernel) rfl rfl (tyX7_ok 11 (by decide)) rfl rfl (Nat.le_of_ble_eq_true rfl) dX7_token_20 (fun H locs S => ?_)
          have S : ST g A ss H locs [(M, ob 7 [.ref nw, .ref dr, .ref pa, .int ypa, .ref im, .ref ke, .ref fl, .ref fq, .int yfa, .ref te, .int (nI z), .int (nI (e + 1)), .int yst, .int yso, .int (nI v0), .ref ni, .ref re, .int yab, .int ybl, .int yis, .int yra, .ref ma, .ref be]), (te, aI g 100 tx)] := S
          refine lv_goto (tgt := 0) hx hb dX7_token_23 (by decide) ?_
          exact ih0 (e + 1) (by omega) (by first | assumption | omega) (by first | assumption | omega) (by rw [← hs]; exact (sk_step (by omega) (decide_eq_true c_1)).symm) H locs ls (ST.eq S (rfl)) (lv_sub hl [0] (rfl))
      ·
        refine lv_aload_n hx hb dX7_token_0 rfl (lv_at hl 0 rfl) ?_
        refine lv_aload_n hx hb dX7_token_1 rfl (lv_at hl 0 rfl) ?_
        refine top_get C S inX7_token_X7 rfl 0 rfl 11 (by decide) (by decide +kernel) rfl rfl dX7_token_2 ?_
        refine after_I (wc := [(M, ob 7 [.ref nw, .ref dr, .ref pa, .int ypa, .ref im, .ref ke, .ref fl, .ref fq, .int yfa, .ref te, .int (nI z), .int (nI e), .int yst, .int yso, .int (nI v0), .ref ni, .ref re, .int yab, .int ybl, .int yis, .int yra, .ref ma, .ref be]), (te, aI g 100 tx)]) (y := yX7_letterAt) C S (va_runV (As := [.int (nI e)]) (rest := []) C.1 (kX7_letterAtn l g M nw dr pa im ke fl fq te ni re ma be ypa yfa (nI e) yst yso (nI v0) yab ybl yis yra tx z ch e (by first | assumption | omega) (by first | assumption | omega) (by first | assumption | omega) (by first | assumption | omega) (by first | assumption | omega) H.size) (cwV 1 hts gX7_token_X7_letterAt rfl rfl rfl (by decide +kernel) ⟨Nat.le_of_ble_eq_true rfl, Nat.le_of_ble_eq_true rfl⟩) (preV_at C S 0 rfl rfl [0, 1] rfl (by decide)) rfl rfl hl.1 rfl (lv_room (Nat.le_of_ble_eq_true rfl)) dX7_token_5 ⟨Nat.le_of_ble_eq_true rfl, Nat.le_of_ble_eq_true rfl⟩) [0, 1] [] rfl (wr := []) rfl (by decide) (by decide) (fun r0 w0 H locs hq S => ?_)
        obtain ⟨rfl, rfl⟩ := hq
        have S : ST g A ss H locs [(M, ob 7 [.ref nw, .ref dr, .ref pa, .int ypa, .ref im, .ref ke, .ref fl, .ref fq, .int yfa, .ref te, .int (nI z), .int (nI e), .int yst, .int yso, .int (nI v0), .ref ni, .ref re, .int yab, .int ybl, .int yis, .int yra, .ref ma, .ref be]), (te, aI g 100 tx)] := S
        refine lv_bipush (v := 32) hx hb dX7_token_8 (by decide) ?_
        refine lv_icmp_ne (tgt := 26) hx hb dX7_token_10 (by decide) (fun c_18 => ?_) (fun c_18 => ?_)
        · -- 10 T
          have hbk : bk ch z a = e := by rw [← hs]; exact sk_end (by omega)
          refine lv_aload_n hx hb dX7_token_26 rfl (lv_at hl 0 rfl) ?_
          refine lv_aload_n hx hb dX7_token_27 rfl (lv_at hl 0 rfl) ?_
          refine top_get C S inX7_token_X7 rfl 0 rfl 11 (by decide) (by decide +kernel) rfl rfl dX7_token_28 ?_
          refine top_put (ty := .int) C S inX7_token_X7 tyX7 tyX7_ok nmX7 rfl 0 rfl 12 (by decide) (by decide +kernel) rfl rfl (tyX7_ok 12 (by decide)) rfl rfl (Nat.le_of_ble_eq_true rfl) dX7_token_31 (fun H locs S => ?_)
          have S : ST g A ss H locs [(M, ob 7 [.ref nw, .ref dr, .ref pa, .int ypa, .ref im, .ref ke, .ref fl, .ref fq, .int yfa, .ref te, .int (nI z), .int (nI e), .int (nI e), .int yso, .int (nI v0), .ref ni, .ref re, .int yab, .int ybl, .int yis, .int yra, .ref ma, .ref be]), (te, aI g 100 tx)] := S
          refine lv_aload_n hx hb dX7_token_34 rfl (lv_at hl 0 rfl) ?_
          refine lv_aload_n hx hb dX7_token_35 rfl (lv_at hl 0 rfl) ?_
          refine top_get C S inX7_token_X7 rfl 0 rfl 11 (by decide) (by decide +kernel) rfl rfl dX7_token_36 ?_
          refine after_I (wc := [(M, ob 7 [.ref nw, .ref dr, .ref pa, .int ypa, .ref im, .ref ke, .ref fl, .ref fq, .int yfa, .ref te, .int (nI z), .int (nI e), .int (nI e), .int yso, .int (nI v0), .ref ni, .ref re, .int yab, .int ybl, .int yis, .int yra, .ref ma, .ref be]), (te, aI g 100 tx)]) (y := yX7_letterAt) C S (va_runV (As := [.int (nI e)]) (rest := []) C.1 (kX7_letterAtn l g M nw dr pa im ke fl fq te ni re ma be ypa yfa (nI e) (nI e) yso (nI v0) yab ybl yis yra tx z ch e (by first | assumption | omega) (by first | assumption | omega) (by first | assumption | omega) (by first | assumption | omega) (by first | assumption | omega) H.size) (cwV 1 hts gX7_token_X7_letterAt rfl rfl rfl (by decide +kernel) ⟨Nat.le_of_ble_eq_true rfl, Nat.le_of_ble_eq_true rfl⟩) (preV_at C S 0 rfl rfl [0, 1] rfl (by decide)) rfl rfl hl.1 rfl (lv_room (Nat.le_of_ble_eq_true rfl)) dX7_token_39 ⟨Nat.le_of_ble_eq_true rfl, Nat.le_of_ble_eq_true rfl⟩) [0, 1] [] rfl (wr := []) rfl (by decide) (by decide) (fun r0 w0 H locs hq S => ?_)
          obtain ⟨rfl, rfl⟩ := hq
          have S : ST g A ss H locs [(M, ob 7 [.ref nw, .ref dr, .ref pa, .int ypa, .ref im, .ref ke, .ref fl, .ref fq, .int yfa, .ref te, .int (nI z), .int (nI e), .int (nI e), .int yso, .int (nI v0), .ref ni, .ref re, .int yab, .int ybl, .int yis, .int yra, .ref ma, .ref be]), (te, aI g 100 tx)] := S
          refine lv_istore_n (lv' := [(1, .int (-1)), (0, .ref M)]) hx hb dX7_token_42 rfl hl (by decide) rfl (fun ls hl => ?_)
          refine lv_aload_n hx hb dX7_token_43 rfl (lv_at hl 1 rfl) ?_
          refine lv_iload_n hx hb dX7_token_44 rfl (lv_at hl 0 rfl) ?_
          refine lv_if_ge (tgt := 52) hx hb dX7_token_45 (by decide) (fun c_19 => ?_) (fun c_19 => ?_)
          · -- 45 T
            exact absurd c_19 (by decide)
          · -- 45 F
            refine lv_iconst (v := 0) hx hb dX7_token_48 (by decide) ?_
            refine lv_goto (tgt := 84) hx hb dX7_token_49 (by decide) ?_
            refine top_put (ty := .int) C S inX7_token_X7 tyX7 tyX7_ok nmX7 rfl 0 rfl 13 (by decide) (by decide +kernel) rfl rfl (tyX7_ok 13 (by decide)) rfl rfl (Nat.le_of_ble_eq_true rfl) dX7_token_84 (fun H locs S => ?_)
            have S : ST g A ss H locs [(M, ob 7 [.ref nw, .ref dr, .ref pa, .int ypa, .ref im, .ref ke, .ref fl, .ref fq, .int yfa, .ref te, .int (nI z), .int (nI e), .int (nI e), .int 0, .int (nI v0), .ref ni, .ref re, .int yab, .int ybl, .int yis, .int yra, .ref ma, .ref be]), (te, aI g 100 tx)] := S
            refine lv_aload_n hx hb dX7_token_87 rfl (lv_at hl 1 rfl) ?_
            refine lv_dup hx hb dX7_token_88 rfl ?_
            refine top_get C S inX7_token_X7 rfl 0 rfl 11 (by decide) (by decide +kernel) rfl rfl dX7_token_89 ?_
            refine lv_iload_n hx hb dX7_token_92 rfl (lv_at hl 0 rfl) ?_
            refine lv_if_ge (tgt := 100) hx hb dX7_token_93 (by decide) (fun c_20 => ?_) (fun c_20 => ?_)
            · -- 93 T
              exact absurd c_20 (by decide)
            · -- 93 F
              refine lv_iconst (v := 0) hx hb dX7_token_96 (by decide) ?_
              refine lv_goto (tgt := 101) hx hb dX7_token_97 (by decide) ?_
              refine lv_iadd hx hb dX7_token_101 ?_
              refine top_eq (y := nI (e + 0)) (nI_add _ _) ?_
              refine top_put (ty := .int) C S inX7_token_X7 tyX7 tyX7_ok nmX7 rfl 0 rfl 11 (by decide) (by decide +kernel) rfl rfl (tyX7_ok 11 (by decide)) rfl rfl (Nat.le_of_ble_eq_true rfl) dX7_token_102 (fun H locs S => ?_)
              have S : ST g A ss H locs [(M, ob 7 [.ref nw, .ref dr, .ref pa, .int ypa, .ref im, .ref ke, .ref fl, .ref fq, .int yfa, .ref te, .int (nI z), .int (nI (e + 0)), .int (nI e), .int 0, .int (nI v0), .ref ni, .ref re, .int yab, .int ybl, .int yis, .int yra, .ref ma, .ref be]), (te, aI g 100 tx)] := S
              have hsq : soQ ch z e = 0 := by unfold soQ; rw [if_neg (by omega)]
              have hen : enQ ch z e = e + 0 := by unfold enQ; rw [if_neg (by omega)] <;> rfl
              have hva : vaQ ch z e v0 = v0 := by unfold vaQ; rw [if_neg (by rw [hsq]; decide)]
              refine lv_aload_n hx hb dX7_token_105 rfl (lv_at hl 1 rfl) ?_
              refine top_get C S inX7_token_X7 rfl 0 rfl 13 (by decide) (by decide +kernel) rfl rfl dX7_token_106 ?_
              refine lv_iconst (v := 2) hx hb dX7_token_109 (by decide) ?_
              refine bn_ine (tgt := 193) (a := 0) (b := 2) hx hb rfl rfl (by omega) (by omega) dX7_token_110 (by decide) (fun c_21 => ?_) (fun c_21 => ?_)
              · -- 110 T
                exact ret_V C S hr dX7_token_193 (by rw [hbk, hsq, hen, hva] <;> rfl)
              · -- 110 F
                exact absurd c_21 (by decide)
        · -- 10 F
          exact absurd c_18 (by decide)
  exact loop0 _ a (Nat.lt_succ_self _) (by first | assumption | omega) (by first | assumption | omega) (rfl) H locs ls (ST.eq S (rfl)) (lv_sub hl [0] (rfl))

theorem inX7_number_X7 : ∀ w ∈ wsX70, w ∈ wsX7_number := by decide +kernel
set_option maxRecDepth 100000 in
set_option maxHeartbeats 4000000 in
theorem kX7_number (l : Launch) (g : GG) (M : Nat) (nw : Nat) (dr : Nat) (pa : Nat) (im : Nat) (ke : Nat) (fl : Nat) (fq : Nat) (te : Nat) (ni : Nat) (re : Nat) (ma : Nat) (be : Nat) (ypa : Int32) (yfa : Int32) (yst : Int32) (yso : Int32) (yab : Int32) (ybl : Int32) (yis : Int32) (yra : Int32) (tx : Nat → Int32) (z : Nat) (ch : Nat → Nat) (a : Nat) (v0 : Nat) (df : Nat → Int32) (q : Nat) (lo : Nat) (hi : Nat) (hz : z ≤ 100) (htx : ∀ i, i < z → tx i = nI (ch i)) (hch : ∀ i, i < z → ch i ≤ 255) (ha : a ≤ z) (hv0 : v0 ≤ 2000) (hq : q < 41) (hlo : lo < 2 ^ 31) (hhi : hi < 2 ^ 31) : KI l g yX7_number wsX7_number 3 63 [.ref M, .int (nI q), .int (nI lo), .int (nI hi)] [(M, ob 7 [.ref nw, .ref dr, .ref pa, .int ypa, .ref im, .ref ke, .ref fl, .ref fq, .int yfa, .ref te, .int (nI z), .int (nI a), .int yst, .int yso, .int (nI v0), .ref ni, .ref re, .int yab, .int ybl, .int yis, .int yra, .ref ma, .ref be]), (te, aI g 100 tx), (dr, aI g 41 df)] (fun (r : Int32) (w' : va_W) => r = (bI (numB ch z a v0 lo hi)) ∧ w' = [(M, ob 7 [.ref nw, .ref dr, .ref pa, .int ypa, .ref im, .ref ke, .ref fl, .ref fq, .int yfa, .ref te, .int (nI z), .int (nI (enQ ch z (bk ch z a))), .int (nI (bk ch z a)), .int (nI (soQ ch z (bk ch z a))), .int (nI (vaQ ch z (bk ch z a) v0)), .ref ni, .ref re, .int yab, .int ybl, .int yis, .int yra, .ref ma, .ref be]), (te, aI g 100 tx), (dr, aI g 41 (upd df q (nI (vaQ ch z (bk ch z a) v0))))]) := by
  refine kI_of (cc := cX7_number) (maxL := 4) (by decide) rfl (Nat.le_of_ble_eq_true rfl) ?_
  intro pp ee ss mm bel mth cd A ls C S hr hl
  obtain ⟨hx, hb, hml, hown, hts⟩ := id C.1
  have hl : lv_has ls 4 [(0, .ref M), (1, .int (nI q)), (2, .int (nI lo)), (3, .int (nI hi))] := hl
  obtain ⟨H, hH⟩ : ∃ H, H = ss.heap := ⟨_, rfl⟩
  obtain ⟨locs, hL0⟩ : ∃ L : List Loc, L = [] := ⟨_, rfl⟩
  rw [← hH, ← hL0] at S ⊢
  have hvl := va_le (p := bk ch z a) hch hv0
  have hsl := soQ_le (ch := ch) (z := z) (p := bk ch z a)
  refine lv_aload_n hx hb dX7_number_0 rfl (lv_at hl 0 rfl) ?_
  refine after_V (wc := [(M, ob 7 [.ref nw, .ref dr, .ref pa, .int ypa, .ref im, .ref ke, .ref fl, .ref fq, .int yfa, .ref te, .int (nI z), .int (nI a), .int yst, .int yso, .int (nI v0), .ref ni, .ref re, .int yab, .int ybl, .int yis, .int yra, .ref ma, .ref be]), (te, aI g 100 tx)]) (y := yX7_token) C S (va_runV (As := []) (rest := []) C.1 (kX7_token l g M nw dr pa im ke fl fq te ni re ma be ypa yfa yst yso yab ybl yis yra tx z ch a v0 (by first | assumption | omega) (by first | assumption | omega) (by first | assumption | omega) (by first | assumption | omega) H.size) (cwV 0 hts gX7_number_X7_token rfl rfl rfl (by decide +kernel) ⟨Nat.le_of_ble_eq_true rfl, Nat.le_of_ble_eq_true rfl⟩) (preV_at C S 0 rfl rfl [0, 1] rfl (by decide)) rfl rfl hl.1 rfl (lv_room (Nat.le_of_ble_eq_true rfl)) dX7_number_1 ⟨Nat.le_of_ble_eq_true rfl, Nat.le_of_ble_eq_true rfl⟩) [0, 1] [2] rfl (wr := [(dr, aI g 41 df)]) rfl (by decide) (by decide) (fun w0 H locs hq S => ?_)
  subst hq
  have S : ST g A ss H locs [(M, ob 7 [.ref nw, .ref dr, .ref pa, .int ypa, .ref im, .ref ke, .ref fl, .ref fq, .int yfa, .ref te, .int (nI z), .int (nI (enQ ch z (bk ch z a))), .int (nI (bk ch z a)), .int (nI (soQ ch z (bk ch z a))), .int (nI (vaQ ch z (bk ch z a) v0)), .ref ni, .ref re, .int yab, .int ybl, .int yis, .int yra, .ref ma, .ref be]), (te, aI g 100 tx), (dr, aI g 41 df)] := ST.sub S [1, 2, 0] (by decide) rfl
  refine lv_aload_n hx hb dX7_number_4 rfl (lv_at hl 0 rfl) ?_
  refine top_get C S inX7_number_X7 rfl 0 rfl 1 (by decide) (by decide +kernel) rfl rfl dX7_number_5 ?_
  refine lv_iload_n hx hb dX7_number_8 rfl (lv_at hl 1 rfl) ?_
  refine lv_aload_n hx hb dX7_number_9 rfl (lv_at hl 0 rfl) ?_
  refine top_get C S inX7_number_X7 rfl 0 rfl 14 (by decide) (by decide +kernel) rfl rfl dX7_number_10 ?_
  refine top_ist C S 2 rfl (j := q) rfl (by omega) (by decide) dX7_number_13 (fun H locs S => ?_)
  have S : ST g A ss H locs [(M, ob 7 [.ref nw, .ref dr, .ref pa, .int ypa, .ref im, .ref ke, .ref fl, .ref fq, .int yfa, .ref te, .int (nI z), .int (nI (enQ ch z (bk ch z a))), .int (nI (bk ch z a)), .int (nI (soQ ch z (bk ch z a))), .int (nI (vaQ ch z (bk ch z a) v0)), .ref ni, .ref re, .int yab, .int ybl, .int yis, .int yra, .ref ma, .ref be]), (te, aI g 100 tx), (dr, aI g 41 (upd df q (nI (vaQ ch z (bk ch z a) v0))))] := S
  refine lv_aload_n hx hb dX7_number_14 rfl (lv_at hl 0 rfl) ?_
  refine top_get C S inX7_number_X7 rfl 0 rfl 13 (by decide) (by decide +kernel) rfl rfl dX7_number_15 ?_
  refine lv_iconst (v := 2) hx hb dX7_number_18 (by decide) ?_
  refine bn_ine (tgt := 38) (a := soQ ch z (bk ch z a)) (b := 2) hx hb rfl rfl (by omega) (by omega) dX7_number_19 (by decide) (fun c_1 => ?_) (fun c_1 => ?_)
  · -- 19 T
    refine lv_iconst (v := 0) hx hb dX7_number_38 (by decide) ?_
    exact ret_Z (numB ch z a v0 lo hi) C S hr dX7_number_39 (by unfold numB; rw [if_neg c_1] <;> rfl) ⟨(by unfold numB; rw [if_neg c_1] <;> rfl), (rfl)⟩
  · -- 19 F
    refine lv_aload_n hx hb dX7_number_22 rfl (lv_at hl 0 rfl) ?_
    refine top_get C S inX7_number_X7 rfl 0 rfl 14 (by decide) (by decide +kernel) rfl rfl dX7_number_23 ?_
    refine lv_iload_n hx hb dX7_number_26 rfl (lv_at hl 2 rfl) ?_
    refine lv_iload_n hx hb dX7_number_27 rfl (lv_at hl 3 rfl) ?_
    refine after_I (wc := []) (y := yX7_in) C S (va_runS (As := [.int (nI (vaQ ch z (bk ch z a) v0)), .int (nI lo), .int (nI hi)]) (rest := []) C.1 (kX7_inn l g (vaQ ch z (bk ch z a) v0) lo hi (by first | assumption | omega) (by first | assumption | omega) (by first | assumption | omega) H.size) (va_cwS 3 hts gX7_number_X7_in rfl rfl rfl (by decide +kernel) ⟨Nat.le_of_ble_eq_true rfl, Nat.le_of_ble_eq_true rfl⟩) (preS_at C S [] rfl (by decide)) rfl rfl hl.1 rfl (lv_room (Nat.le_of_ble_eq_true rfl)) dX7_number_28 ⟨Nat.le_of_ble_eq_true rfl, Nat.le_of_ble_eq_true rfl⟩) [] [0, 1, 2] rfl (wr := [(M, ob 7 [.ref nw, .ref dr, .ref pa, .int ypa, .ref im, .ref ke, .ref fl, .ref fq, .int yfa, .ref te, .int (nI z), .int (nI (enQ ch z (bk ch z a))), .int (nI (bk ch z a)), .int (nI (soQ ch z (bk ch z a))), .int (nI (vaQ ch z (bk ch z a) v0)), .ref ni, .ref re, .int yab, .int ybl, .int yis, .int yra, .ref ma, .ref be]), (te, aI g 100 tx), (dr, aI g 41 (upd df q (nI (vaQ ch z (bk ch z a) v0))))]) rfl (by decide) (by decide) (fun r0 w0 H locs hq S => ?_)
    obtain ⟨rfl, rfl⟩ := hq
    have S : ST g A ss H locs [(M, ob 7 [.ref nw, .ref dr, .ref pa, .int ypa, .ref im, .ref ke, .ref fl, .ref fq, .int yfa, .ref te, .int (nI z), .int (nI (enQ ch z (bk ch z a))), .int (nI (bk ch z a)), .int (nI (soQ ch z (bk ch z a))), .int (nI (vaQ ch z (bk ch z a) v0)), .ref ni, .ref re, .int yab, .int ybl, .int yis, .int yra, .ref ma, .ref be]), (te, aI g 100 tx), (dr, aI g 41 (upd df q (nI (vaQ ch z (bk ch z a) v0))))] := S
    refine br_eqB (tgt := 38) hx hb dX7_number_31 (by decide) (fun c_2 => ?_) (fun c_2 => ?_)
    · -- 31 T
      refine lv_iconst (v := 0) hx hb dX7_number_38 (by decide) ?_
      exact ret_Z (numB ch z a v0 lo hi) C S hr dX7_number_39 (by unfold numB; rw [if_pos c_1, c_2] <;> rfl) ⟨(by unfold numB; rw [if_pos c_1, c_2] <;> rfl), (rfl)⟩
    · -- 31 F
      refine lv_iconst (v := 1) hx hb dX7_number_34 (by decide) ?_
      refine lv_goto (tgt := 39) hx hb dX7_number_35 (by decide) ?_
      exact ret_Z (numB ch z a v0 lo hi) C S hr dX7_number_39 (by unfold numB; rw [if_pos c_1, c_2] <;> rfl) ⟨(by unfold numB; rw [if_pos c_1, c_2] <;> rfl), (rfl)⟩
