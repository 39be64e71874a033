theorem inX6_which_X2 : ∀ w ∈ wsX20, w ∈ wsX6_which := by decide +kernel
theorem inX6_which_X6 : ∀ w ∈ wsX60, w ∈ wsX6_which := by decide +kernel
set_option maxRecDepth 100000 in
set_option maxHeartbeats 4000000 in
theorem kX6_which (l : Launch) (g : GG) (O : Nat) (dh : Nat) (th : Nat) (HH : Nat) (IM : Nat) (SG : Nat) (ca : Nat) (h : Nat) (q : Nat) (f : Nat → Int32) (n : Nat) (ww : Nat) (nu : Nat → Nat → Nat) (P : Nat) (ra : Nat) (sa : Nat) (ta : Nat) (rf : Nat → Int32) (sf : Nat → Int32) (tf : Nat → Int32) (p1 : Int32) (p2 : Int32) (p3 : Int32) (p4 : Int32) (p5 : Int32) (la : Nat) (ba : Nat) (lf : Nat → Int32) (bf : Nat → Int32) (sz : Nat) (lo : Nat → Nat) (x : Int32) (hn1 : 1 ≤ n) (hn : n ≤ 8) (hww : ww < 256) (hf : ∀ a i, a < 4 → i < n → f (a * 8 + i) = nI (nu a i)) (hB : HB nu n) (hs6 : sz ≤ 6) (hlo : ∀ i, i < sz → lf i = nI (lo i)) (hlb : ∀ i, i < sz → lo i ≤ 999) : KI l g yX6_which wsX6_which 6 135 [.ref O, .int x] [(O, ob 6 [.ref h, .ref dh, .ref th, .ref HH, .ref IM, .ref SG, .ref P, .ref ca]), (h, ob 2 [.ref q, .int (nI n), .int (nI ww)]), (q, aI g 32 f), (P, ob 3 [.ref ra, .ref sa, .ref ta, .int p1, .int p2, .int p3, .int p4, .int p5]), (ra, aI g 8 rf), (sa, aI g 8 sf), (ta, aI g 8 tf), (SG, ob 4 [.ref la, .ref ba, .int (nI sz)]), (la, aI g 6 lf), (ba, aI g 6 bf)] (fun (r : Int32) (w' : va_W) => r = (chk1 (-1000000) 2 (whichA nu n ww sz lo bf) x) ∧ ∃ (z1' : Int32), ∃ (z2' : Int32), ∃ (z3' : Int32), ∃ (z4' : Int32), ∃ (z5' : Int32), ∃ (rf' : Nat → Int32), ∃ (sf' : Nat → Int32), ∃ (tf' : Nat → Int32), w' = [(O, ob 6 [.ref h, .ref dh, .ref th, .ref HH, .ref IM, .ref SG, .ref P, .ref ca]), (h, ob 2 [.ref q, .int (nI n), .int (nI ww)]), (q, aI g 32 f), (P, ob 3 [.ref ra, .ref sa, .ref ta, .int z1', .int z2', .int z3', .int z4', .int z5']), (ra, aI g 8 rf'), (sa, aI g 8 sf'), (ta, aI g 8 tf'), (SG, ob 4 [.ref la, .ref ba, .int (nI sz)]), (la, aI g 6 lf), (ba, aI g 6 bf)]) := by
  refine kI_of (cc := cX6_which) (maxL := 4) (by decide) rfl (Nat.le_of_ble_eq_true rfl) ?_
  intro pp ee ss mm bel mth cd A ls C S hr hl
  obtain ⟨hx, hb, hml, hown, hts⟩ := id C.1
  have hl : lv_has ls 4 [(0, .ref O), (1, .int x)] := hl
  obtain ⟨H, hH⟩ : ∃ H, H = ss.heap := ⟨_, rfl⟩
  obtain ⟨locs, hL0⟩ : ∃ L : List Loc, L = [] := ⟨_, rfl⟩
  rw [← hH, ← hL0] at S ⊢
  refine lv_iload_n hx hb dX6_which_0 rfl (lv_at hl 1 rfl) ?_
  refine lv_if_lt (tgt := 9) hx hb dX6_which_1 (by decide) (fun c_1 => ?_) (fun c_1 => ?_)
  · -- 1 T
    refine lv_ldc (v := (-1000000)) hx hb hown (hts (.constant RX6 176 (-1000000)) (by decide +kernel)) dX6_which_9 ?_
    exact ret_I C S hr dX6_which_11 ⟨((chk1_bad (ok_neg c_1)).symm), p1, p2, p3, p4, p5, rf, sf, tf, (rfl)⟩
  · -- 1 F
    refine lv_iload_n hx hb dX6_which_4 rfl (lv_at hl 1 rfl) ?_
    refine lv_iconst (v := 1) hx hb dX6_which_5 (by decide) ?_
    refine lv_icmp_le (tgt := 12) hx hb dX6_which_6 (by decide) (fun c_2 => ?_) (fun c_2 => ?_)
    · -- 6 T
      obtain ⟨w, hw, rfl⟩ := ok_le (k := 1) rfl (by decide) c_1 c_2
      refine lv_aload_n hx hb dX6_which_12 rfl (lv_at hl 0 rfl) ?_
      refine after_I (wc := [(O, ob 6 [.ref h, .ref dh, .ref th, .ref HH, .ref IM, .ref SG, .ref P, .ref ca]), (h, ob 2 [.ref q, .int (nI n), .int (nI ww)]), (q, aI g 32 f), (P, ob 3 [.ref ra, .ref sa, .ref ta, .int p1, .int p2, .int p3, .int p4, .int p5]), (ra, aI g 8 rf), (sa, aI g 8 sf), (ta, aI g 8 tf), (SG, ob 4 [.ref la, .ref ba, .int (nI sz)]), (la, aI g 6 lf), (ba, aI g 6 bf)]) (y := yX6_suspects) C S (va_runV (As := []) (rest := []) C.1 (kX6_suspects l g O dh th HH IM SG ca h q f n ww nu P ra sa ta rf sf tf p1 p2 p3 p4 p5 la ba lf bf sz lo (by first | assumption | omega) (by first | assumption | omega) (by first | assumption | omega) (by first | assumption | omega) (by first | assumption | omega) (by first | assumption | omega) (by first | assumption | omega) (by first | assumption | omega) H.size) (cwV 0 hts gX6_which_X6_suspects rfl rfl rfl (by decide +kernel) ⟨Nat.le_of_ble_eq_true rfl, Nat.le_of_ble_eq_true rfl⟩) (preV_at C S 0 rfl rfl [0, 1, 2, 3, 4, 5, 6, 7, 8, 9] rfl (by decide)) rfl rfl hl.1 rfl (lv_room (Nat.le_of_ble_eq_true rfl)) dX6_which_13 ⟨Nat.le_of_ble_eq_true rfl, Nat.le_of_ble_eq_true rfl⟩) [0, 1, 2, 3, 4, 5, 6, 7, 8, 9] [] rfl (wr := []) rfl (by decide) (by decide) (fun r0 w0 H locs hq S => ?_)
      obtain ⟨rfl, z1'_3, z2'_4, z3'_5, z4'_6, z5'_7, rf'_8, sf'_9, tf'_10, rfl⟩ := hq
      have S : ST g A ss H locs [(O, ob 6 [.ref h, .ref dh, .ref th, .ref HH, .ref IM, .ref SG, .ref P, .ref ca]), (h, ob 2 [.ref q, .int (nI n), .int (nI ww)]), (q, aI g 32 f), (P, ob 3 [.ref ra, .ref sa, .ref ta, .int z1'_3, .int z2'_4, .int z3'_5, .int z4'_6, .int z5'_7]), (ra, aI g 8 rf'_8), (sa, aI g 8 sf'_9), (ta, aI g 8 tf'_10), (SG, ob 4 [.ref la, .ref ba, .int (nI sz)]), (la, aI g 6 lf), (ba, aI g 6 bf)] := S
      refine lv_istore_n (lv' := [(2, .int (nI (fbits (soB nu n ww sz lo bf) (n + 1)))), (0, .ref O), (1, .int (nI w))]) hx hb dX6_which_16 rfl hl (by decide) rfl (fun ls hl => ?_)
      have hfl : fbits (soB nu n ww sz lo bf) (n + 1) < 512 := Nat.lt_of_lt_of_le (fbits_lt (n + 1)) (Nat.pow_le_pow_right (by decide) (show n + 1 ≤ 9 by omega))
      refine lv_iload_n hx hb dX6_which_17 rfl (lv_at hl 2 rfl) ?_
      refine bn_zne (tgt := 26) (a := w) hx hb rfl (by omega) dX6_which_18 (by decide) (fun c_11 => ?_) (fun c_11 => ?_)
      · -- 18 T
        refine lv_iconst (v := 0) hx hb dX6_which_26 (by decide) ?_
        refine lv_istore_n (lv' := [(3, .int 0), (2, .int (nI (fbits (soB nu n ww sz lo bf) (n + 1)))), (0, .ref O), (1, .int (nI w))]) hx hb dX6_which_27 rfl hl (by decide) rfl (fun ls hl => ?_)
        have loop28 : ∀ (N0 : Nat) (i : Nat), n + 1 - i < N0 → (i ≤ n + 1) → (fso (soB nu n ww sz lo bf) i = none) → ∀ (H : Heap) (locs : List Loc) (ls : Array Slot), ST g A ss H locs [(O, ob 6 [.ref h, .ref dh, .ref th, .ref HH, .ref IM, .ref SG, .ref P, .ref ca]), (h, ob 2 [.ref q, .int (nI n), .int (nI ww)]), (q, aI g 32 f), (P, ob 3 [.ref ra, .ref sa, .ref ta, .int z1'_3, .int z2'_4, .int z3'_5, .int z4'_6, .int z5'_7]), (ra, aI g 8 rf'_8), (sa, aI g 8 sf'_9), (ta, aI g 8 tf'_10), (SG, ob 4 [.ref la, .ref ba, .int (nI sz)]), (la, aI g 6 lf), (ba, aI g 6 bf)] → lv_has ls 4 [(3, .int (nI i)), (2, .int (nI (fbits (soB nu n ww sz lo bf) (n + 1)))), (0, .ref O), (1, .int (nI w))] → W pp l ee { frames := 6, cells := 0, slots := 0, locals := 135 } ss mm ([.ref O, .int (nI w)] : List Value).toArray bel mth cd H locs 0 0 (QI bel ([.ref O, .int (nI w)] : List Value).toArray ss g A (fun (r : Int32) (w' : va_W) => r = (chk1 (-1000000) 2 (whichA nu n ww sz lo bf) (nI w)) ∧ ∃ (z1' : Int32), ∃ (z2' : Int32), ∃ (z3' : Int32), ∃ (z4' : Int32), ∃ (z5' : Int32), ∃ (rf' : Nat → Int32), ∃ (sf' : Nat → Int32), ∃ (tf' : Nat → Int32), w' = [(O, ob 6 [.ref h, .ref dh, .ref th, .ref HH, .ref IM, .ref SG, .ref P, .ref ca]), (h, ob 2 [.ref q, .int (nI n), .int (nI ww)]), (q, aI g 32 f), (P, ob 3 [.ref ra, .ref sa, .ref ta, .int z1', .int z2', .int z3', .int z4', .int z5']), (ra, aI g 8 rf'), (sa, aI g 8 sf'), (ta, aI g 8 tf'), (SG, ob 4 [.ref la, .ref ba, .int (nI sz)]), (la, aI g 6 lf), (ba, aI g 6 bf)])) (F0 mm 28 ls []) := by
          intro N0
          induction N0 with
          | zero => intro i hN; exact absurd hN (Nat.not_lt_zero _)
          | succ N0 ih28 =>
            intro i hN hi hno H locs ls S hl
            refine lv_iload_n hx hb dX6_which_28 rfl (lv_at hl 0 rfl) ?_
            refine lv_aload_n hx hb dX6_which_29 rfl (lv_at hl 2 rfl) ?_
            refine top_get C S inX6_which_X6 rfl 0 rfl 0 (by decide) (by decide +kernel) rfl rfl dX6_which_30 ?_
            refine top_getN C S inX6_which_X2 rfl 1 rfl 1 (by decide) (by decide +kernel) rfl dX6_which_33 ?_
            refine bn_igt (tgt := 57) (a := i) (b := n) hx hb rfl rfl (by omega) (by omega) dX6_which_36 (by decide) (fun c_12 => ?_) (fun c_12 => ?_)
            · -- 36 T
              have hin : i = n + 1 := by omega
              rw [hin] at hno
              refine lv_ldc (v := (-2000000)) hx hb hown (hts (.constant RX6 183 (-2000000)) (by decide +kernel)) dX6_which_57 ?_
              exact ret_I C S hr dX6_which_59 ⟨(Eq.trans (show _ = whichA nu n ww sz lo bf w by unfold whichA; rw [if_neg c_11, hno]) (chk1_ok (by omega) (by decide)).symm), z1'_3, z2'_4, z3'_5, z4'_6, z5'_7, rf'_8, sf'_9, tf'_10, (rfl)⟩
            · -- 36 F
              refine lv_iload_n hx hb dX6_which_39 rfl (lv_at hl 1 rfl) ?_
              refine lv_iload_n hx hb dX6_which_40 rfl (lv_at hl 0 rfl) ?_
              refine after_I (wc := []) (y := yX6_holds) C S (va_runS (As := [.int (nI (fbits (soB nu n ww sz lo bf) (n + 1))), .int (nI i)]) (rest := []) C.1 (kX6_holds l g (fbits (soB nu n ww sz lo bf) (n + 1)) i (by first | assumption | omega) (by first | assumption | omega) H.size) (va_cwS 2 hts gX6_which_X6_holds rfl rfl rfl (by decide +kernel) ⟨Nat.le_of_ble_eq_true rfl, Nat.le_of_ble_eq_true rfl⟩) (preS_at C S [] rfl (by decide)) rfl rfl hl.1 rfl (lv_room (Nat.le_of_ble_eq_true rfl)) dX6_which_41 ⟨Nat.le_of_ble_eq_true rfl, Nat.le_of_ble_eq_true rfl⟩) [] [0, 1, 2, 3, 4, 5, 6, 7, 8, 9] rfl (wr := [(O, ob 6 [.ref h, .ref dh, .ref th, .ref HH, .ref IM, .ref SG, .ref P, .ref ca]), (h, ob 2 [.ref q, .int (nI n), .int (nI ww)]), (q, aI g 32 f), (P, ob 3 [.ref ra, .ref sa, .ref ta, .int z1'_3, .int z2'_4, .int z3'_5, .int z4'_6, .int z5'_7]), (ra, aI g 8 rf'_8), (sa, aI g 8 sf'_9), (ta, aI g 8 tf'_10), (SG, ob 4 [.ref la, .ref ba, .int (nI sz)]), (la, aI g 6 lf), (ba, aI g 6 bf)]) rfl (by decide) (by decide) (fun r0 w0 H locs hq S => ?_)
              obtain ⟨rfl, rfl⟩ := hq
              have S : ST g A ss H locs [(O, ob 6 [.ref h, .ref dh, .ref th, .ref HH, .ref IM, .ref SG, .ref P, .ref ca]), (h, ob 2 [.ref q, .int (nI n), .int (nI ww)]), (q, aI g 32 f), (P, ob 3 [.ref ra, .ref sa, .ref ta, .int z1'_3, .int z2'_4, .int z3'_5, .int z4'_6, .int z5'_7]), (ra, aI g 8 rf'_8), (sa, aI g 8 sf'_9), (ta, aI g 8 tf'_10), (SG, ob 4 [.ref la, .ref ba, .int (nI sz)]), (la, aI g 6 lf), (ba, aI g 6 bf)] := S
              refine br_eqB (tgt := 51) hx hb dX6_which_44 (by decide) (fun c_13 => ?_) (fun c_13 => ?_)
              · -- 44 T
                have hso := c_13
                rw [fb_so (by omega)] at hso
                refine lv_iinc (v := nI (i + 1)) (lv' := [(3, .int (nI (i + 1))), (2, .int (nI (fbits (soB nu n ww sz lo bf) (n + 1)))), (0, .ref O), (1, .int (nI w))]) hx hb dX6_which_51 hl (k := 0) rfl (nI_add _ _) (by decide) rfl (fun ls hl => ?_)
                refine lv_goto (tgt := 28) hx hb dX6_which_54 (by decide) ?_
                exact ih28 (i + 1) (by omega) (by first | assumption | omega) (by simp only [fso, hno, hso, if_true, if_false, Bool.false_eq_true, reduceIte]) H locs ls (ST.eq S (rfl)) (lv_sub hl [0, 1, 2, 3] (rfl))
              · -- 44 F
                have hso := c_13
                rw [fb_so (by omega)] at hso
                refine lv_iload_n hx hb dX6_which_47 rfl (lv_at hl 0 rfl) ?_
                refine lv_iconst (v := 1) hx hb dX6_which_48 (by decide) ?_
                refine lv_isub hx hb dX6_which_49 ?_
                exact ret_I C S hr dX6_which_50 ⟨(Eq.trans (show _ = whichA nu n ww sz lo bf w by unfold whichA; rw [if_neg c_11, show n + 1 = (i + 1) + (n - i) by omega, fso_stay (s := i) (by simp only [fso, hno, hso, if_true, if_false, Bool.false_eq_true, reduceIte]) (n - i)]) (chk1_ok (by omega) (by decide)).symm), z1'_3, z2'_4, z3'_5, z4'_6, z5'_7, rf'_8, sf'_9, tf'_10, (rfl)⟩
        exact loop28 _ 0 (Nat.lt_succ_self _) (by first | assumption | omega) (rfl) H locs ls (ST.eq S (rfl)) (lv_sub hl [0, 1, 2, 3] (rfl))
      · -- 18 F
        refine lv_iload_n hx hb dX6_which_21 rfl (lv_at hl 0 rfl) ?_
        refine after_I (wc := []) (y := yJ6_bitCount_0f7a4) C S (va_runS (As := [.int (nI (fbits (soB nu n ww sz lo bf) (n + 1)))]) (rest := []) C.1 (kJ6_bitCount_0f7a4 l g (fbits (soB nu n ww sz lo bf) (n + 1)) (by first | assumption | omega) H.size) (va_cwS 1 hts gX6_which_J6_bitCount_0f7a4 rfl rfl rfl (by decide +kernel) ⟨Nat.le_of_ble_eq_true rfl, Nat.le_of_ble_eq_true rfl⟩) (preS_at C S [] rfl (by decide)) rfl rfl hl.1 rfl (lv_room (Nat.le_of_ble_eq_true rfl)) dX6_which_22 ⟨Nat.le_of_ble_eq_true rfl, Nat.le_of_ble_eq_true rfl⟩) [] [0, 1, 2, 3, 4, 5, 6, 7, 8, 9] rfl (wr := [(O, ob 6 [.ref h, .ref dh, .ref th, .ref HH, .ref IM, .ref SG, .ref P, .ref ca]), (h, ob 2 [.ref q, .int (nI n), .int (nI ww)]), (q, aI g 32 f), (P, ob 3 [.ref ra, .ref sa, .ref ta, .int z1'_3, .int z2'_4, .int z3'_5, .int z4'_6, .int z5'_7]), (ra, aI g 8 rf'_8), (sa, aI g 8 sf'_9), (ta, aI g 8 tf'_10), (SG, ob 4 [.ref la, .ref ba, .int (nI sz)]), (la, aI g 6 lf), (ba, aI g 6 bf)]) rfl (by decide) (by decide) (fun r0 w0 H locs hq S => ?_)
        obtain ⟨rfl, rfl⟩ := hq
        have S : ST g A ss H locs [(O, ob 6 [.ref h, .ref dh, .ref th, .ref HH, .ref IM, .ref SG, .ref P, .ref ca]), (h, ob 2 [.ref q, .int (nI n), .int (nI ww)]), (q, aI g 32 f), (P, ob 3 [.ref ra, .ref sa, .ref ta, .int z1'_3, .int z2'_4, .int z3'_5, .int z4'_6, .int z5'_7]), (ra, aI g 8 rf'_8), (sa, aI g 8 sf'_9), (ta, aI g 8 tf'_10), (SG, ob 4 [.ref la, .ref ba, .int (nI sz)]), (la, aI g 6 lf), (ba, aI g 6 bf)] := S
        exact ret_I C S hr dX6_which_25 ⟨(Eq.trans (show _ = whichA nu n ww sz lo bf w by unfold whichA; rw [if_pos c_11, cnt_9 (n + 1) (by omega)]) (chk1_ok (by omega) (by decide)).symm), z1'_3, z2'_4, z3'_5, z4'_6, z5'_7, rf'_8, sf'_9, tf'_10, (rfl)⟩
    · -- 6 F
      refine lv_ldc (v := (-1000000)) hx hb hown (hts (.constant RX6 176 (-1000000)) (by decide +kernel)) dX6_which_9 ?_
      exact ret_I C S hr dX6_which_11 ⟨((chk1_bad (ok_nle (k := 1) rfl (by decide) c_2)).symm), p1, p2, p3, p4, p5, rf, sf, tf, (rfl)⟩

set_option maxRecDepth 100000 in
set_option maxHeartbeats 4000000 in
theorem kX6_ask (l : Launch) (g : GG) (O : Nat) (dh : Nat) (th : Nat) (HH : Nat) (IM : Nat) (SG : Nat) (ca : Nat) (h : Nat) (q : Nat) (f : Nat → Int32) (n : Nat) (ww : Nat) (nu : Nat → Nat → Nat) (P : Nat) (ra : Nat) (sa : Nat) (ta : Nat) (rf : Nat → Int32) (sf : Nat → Int32) (tf : Nat → Int32) (p1 : Int32) (p2 : Int32) (p3 : Int32) (p4 : Int32) (p5 : Int32) (la : Nat) (ba : Nat) (lf : Nat → Int32) (bf : Nat → Int32) (sz : Nat) (lo : Nat → Nat) (cf : Nat → Int32) (hn1 : 1 ≤ n) (hn : n ≤ 8) (hww : ww < 256) (hf : ∀ a i, a < 4 → i < n → f (a * 8 + i) = nI (nu a i)) (hB : HB nu n) (hs6 : sz ≤ 6) (hlo : ∀ i, i < sz → lf i = nI (lo i)) (hlb : ∀ i, i < sz → lo i ≤ 999) : KI l g yX6_ask wsX6_ask 6 137 [.ref O] [(O, ob 6 [.ref h, .ref dh, .ref th, .ref HH, .ref IM, .ref SG, .ref P, .ref ca]), (h, ob 2 [.ref q, .int (nI n), .int (nI ww)]), (q, aI g 32 f), (P, ob 3 [.ref ra, .ref sa, .ref ta, .int p1, .int p2, .int p3, .int p4, .int p5]), (ra, aI g 8 rf), (sa, aI g 8 sf), (ta, aI g 8 tf), (SG, ob 4 [.ref la, .ref ba, .int (nI sz)]), (la, aI g 6 lf), (ba, aI g 6 bf), (ca, aI g 9 cf)] (fun (r : Int32) (w' : va_W) => r = (askA nu n ww sz lo bf) ∧ ∃ (z1' : Int32), ∃ (z2' : Int32), ∃ (z3' : Int32), ∃ (z4' : Int32), ∃ (z5' : Int32), ∃ (rf' : Nat → Int32), ∃ (sf' : Nat → Int32), ∃ (tf' : Nat → Int32), ∃ (cf' : Nat → Int32), w' = [(O, ob 6 [.ref h, .ref dh, .ref th, .ref HH, .ref IM, .ref SG, .ref P, .ref ca]), (h, ob 2 [.ref q, .int (nI n), .int (nI ww)]), (q, aI g 32 f), (P, ob 3 [.ref ra, .ref sa, .ref ta, .int z1', .int z2', .int z3', .int z4', .int z5']), (ra, aI g 8 rf'), (sa, aI g 8 sf'), (ta, aI g 8 tf'), (SG, ob 4 [.ref la, .ref ba, .int (nI sz)]), (la, aI g 6 lf), (ba, aI g 6 bf), (ca, aI g 9 cf')]) := by
  refine kI_of (cc := cX6_ask) (maxL := 6) (by decide) rfl (Nat.le_of_ble_eq_true rfl) ?_
  intro pp ee ss mm bel mth cd A ls C S hr hl
  obtain ⟨hx, hb, hml, hown, hts⟩ := id C.1
  have hl : lv_has ls 6 [(0, .ref O)] := hl
  obtain ⟨H, hH⟩ : ∃ H, H = ss.heap := ⟨_, rfl⟩
  obtain ⟨locs, hL0⟩ : ∃ L : List Loc, L = [] := ⟨_, rfl⟩
  rw [← hH, ← hL0] at S ⊢
  refine lv_aload_n hx hb dX6_ask_0 rfl (lv_at hl 0 rfl) ?_
  refine after_I (wc := [(O, ob 6 [.ref h, .ref dh, .ref th, .ref HH, .ref IM, .ref SG, .ref P, .ref ca]), (h, ob 2 [.ref q, .int (nI n), .int (nI ww)]), (q, aI g 32 f), (P, ob 3 [.ref ra, .ref sa, .ref ta, .int p1, .int p2, .int p3, .int p4, .int p5]), (ra, aI g 8 rf), (sa, aI g 8 sf), (ta, aI g 8 tf), (SG, ob 4 [.ref la, .ref ba, .int (nI sz)]), (la, aI g 6 lf), (ba, aI g 6 bf)]) (y := yX6_suspects) C S (va_runV (As := []) (rest := []) C.1 (kX6_suspects l g O dh th HH IM SG ca h q f n ww nu P ra sa ta rf sf tf p1 p2 p3 p4 p5 la ba lf bf sz lo (by first | assumption | omega) (by first | assumption | omega) (by first | assumption | omega) (by first | assumption | omega) (by first | assumption | omega) (by first | assumption | omega) (by first | assumption | omega) (by first | assumption | omega) H.size) (cwV 0 hts gX6_ask_X6_suspects rfl rfl rfl (by decide +kernel) ⟨Nat.le_of_ble_eq_true rfl, Nat.le_of_ble_eq_true rfl⟩) (preV_at C S 0 rfl rfl [0, 1, 2, 3, 4, 5, 6, 7, 8, 9] rfl (by decide)) rfl rfl hl.1 rfl (lv_room (Nat.le_of_ble_eq_true rfl)) dX6_ask_1 ⟨Nat.le_of_ble_eq_true rfl, Nat.le_of_ble_eq_true rfl⟩) [0, 1, 2, 3, 4, 5, 6, 7, 8, 9] [10] rfl (wr := [(ca, aI g 9 cf)]) rfl (by decide) (by decide) (fun r0 w0 H locs hq S => ?_)
  obtain ⟨rfl, z1'_1, z2'_2, z3'_3, z4'_4, z5'_5, rf'_6, sf'_7, tf'_8, rfl⟩ := hq
  have S : ST g A ss H locs [(O, ob 6 [.ref h, .ref dh, .ref th, .ref HH, .ref IM, .ref SG, .ref P, .ref ca]), (h, ob 2 [.ref q, .int (nI n), .int (nI ww)]), (q, aI g 32 f), (P, ob 3 [.ref ra, .ref sa, .ref ta, .int z1'_1, .int z2'_2, .int z3'_3, .int z4'_4, .int z5'_5]), (ra, aI g 8 rf'_6), (sa, aI g 8 sf'_7), (ta, aI g 8 tf'_8), (SG, ob 4 [.ref la, .ref ba, .int (nI sz)]), (la, aI g 6 lf), (ba, aI g 6 bf), (ca, aI g 9 cf)] := ST.sub S [1, 2, 3, 4, 5, 6, 7, 8, 9, 10, 0] (by decide) rfl
  refine lv_istore_n (lv' := [(1, .int (nI (fbits (soB nu n ww sz lo bf) (n + 1)))), (0, .ref O)]) hx hb dX6_ask_4 rfl hl (by decide) rfl (fun ls hl => ?_)
  have hfl : fbits (soB nu n ww sz lo bf) (n + 1) < 512 := Nat.lt_of_lt_of_le (fbits_lt (n + 1)) (Nat.pow_le_pow_right (by decide) (show n + 1 ≤ 9 by omega))
  have hpl := pop_le (fbits (soB nu n ww sz lo bf) (n + 1))
  refine lv_iload_n hx hb dX6_ask_5 rfl (lv_at hl 0 rfl) ?_
  refine after_I (wc := []) (y := yJ6_bitCount_0f7a4) C S (va_runS (As := [.int (nI (fbits (soB nu n ww sz lo bf) (n + 1)))]) (rest := []) C.1 (kJ6_bitCount_0f7a4 l g (fbits (soB nu n ww sz lo bf) (n + 1)) (by first | assumption | omega) H.size) (va_cwS 1 hts gX6_ask_J6_bitCount_0f7a4 rfl rfl rfl (by decide +kernel) ⟨Nat.le_of_ble_eq_true rfl, Nat.le_of_ble_eq_true rfl⟩) (preS_at C S [] rfl (by decide)) rfl rfl hl.1 rfl (lv_room (Nat.le_of_ble_eq_true rfl)) dX6_ask_6 ⟨Nat.le_of_ble_eq_true rfl, Nat.le_of_ble_eq_true rfl⟩) [] [0, 1, 2, 3, 4, 5, 6, 7, 8, 9, 10] rfl (wr := [(O, ob 6 [.ref h, .ref dh, .ref th, .ref HH, .ref IM, .ref SG, .ref P, .ref ca]), (h, ob 2 [.ref q, .int (nI n), .int (nI ww)]), (q, aI g 32 f), (P, ob 3 [.ref ra, .ref sa, .ref ta, .int z1'_1, .int z2'_2, .int z3'_3, .int z4'_4, .int z5'_5]), (ra, aI g 8 rf'_6), (sa, aI g 8 sf'_7), (ta, aI g 8 tf'_8), (SG, ob 4 [.ref la, .ref ba, .int (nI sz)]), (la, aI g 6 lf), (ba, aI g 6 bf), (ca, aI g 9 cf)]) rfl (by decide) (by decide) (fun r0 w0 H locs hq S => ?_)
  obtain ⟨rfl, rfl⟩ := hq
  have S : ST g A ss H locs [(O, ob 6 [.ref h, .ref dh, .ref th, .ref HH, .ref IM, .ref SG, .ref P, .ref ca]), (h, ob 2 [.ref q, .int (nI n), .int (nI ww)]), (q, aI g 32 f), (P, ob 3 [.ref ra, .ref sa, .ref ta, .int z1'_1, .int z2'_2, .int z3'_3, .int z4'_4, .int z5'_5]), (ra, aI g 8 rf'_6), (sa, aI g 8 sf'_7), (ta, aI g 8 tf'_8), (SG, ob 4 [.ref la, .ref ba, .int (nI sz)]), (la, aI g 6 lf), (ba, aI g 6 bf), (ca, aI g 9 cf)] := S
  refine lv_iconst (v := 2) hx hb dX6_ask_9 (by decide) ?_
  refine bn_ige (tgt := 16) (a := pop (fbits (soB nu n ww sz lo bf) (n + 1))) (b := 2) hx hb rfl rfl (by omega) (by omega) dX6_ask_10 (by decide) (fun c_9 => ?_) (fun c_9 => ?_)
  · -- 10 T
    have hct := c_9
    rw [← cnt_9 (n + 1) (by omega)] at hct
    refine lv_bipush (v := (-9)) hx hb dX6_ask_16 (by decide) ?_
    refine lv_istore_n (lv' := [(2, .int (-9)), (1, .int (nI (fbits (soB nu n ww sz lo bf) (n + 1)))), (0, .ref O)]) hx hb dX6_ask_18 rfl hl (by decide) rfl (fun ls hl => ?_)
    refine lv_bipush (v := 10) hx hb dX6_ask_19 (by decide) ?_
    refine lv_istore_n (lv' := [(3, .int 10), (2, .int (-9)), (1, .int (nI (fbits (soB nu n ww sz lo bf) (n + 1)))), (0, .ref O)]) hx hb dX6_ask_21 rfl hl (by decide) rfl (fun ls hl => ?_)
    refine lv_bipush (v := 10) hx hb dX6_ask_22 (by decide) ?_
    refine lv_istore (lv' := [(4, .int 10), (3, .int 10), (2, .int (-9)), (1, .int (nI (fbits (soB nu n ww sz lo bf) (n + 1)))), (0, .ref O)]) hx hb dX6_ask_24 hl (by decide) rfl (fun ls hl => ?_)
    have loop26 : ∀ (N0 : Nat) (k : Nat) (few : Nat) (bst : Int32) (z1 : Int32) (z2 : Int32) (z3 : Int32) (z4 : Int32) (z5 : Int32) (r1 : Nat → Int32) (s1 : Nat → Int32) (t1 : Nat → Int32) (c1 : Nat → Int32), 30 - k < N0 → (k ≤ 30) → (few ≤ 10) → (ak (fun p => mA (soB nu n ww sz lo bf) nu n ww p) k = (bst, few)) → ∀ (H : Heap) (locs : List Loc) (ls : Array Slot), ST g A ss H locs [(O, ob 6 [.ref h, .ref dh, .ref th, .ref HH, .ref IM, .ref SG, .ref P, .ref ca]), (h, ob 2 [.ref q, .int (nI n), .int (nI ww)]), (q, aI g 32 f), (P, ob 3 [.ref ra, .ref sa, .ref ta, .int z1, .int z2, .int z3, .int z4, .int z5]), (ra, aI g 8 r1), (sa, aI g 8 s1), (ta, aI g 8 t1), (SG, ob 4 [.ref la, .ref ba, .int (nI sz)]), (la, aI g 6 lf), (ba, aI g 6 bf), (ca, aI g 9 c1)] → lv_has ls 6 [(4, .int (nI (10 + 10 * k))), (3, .int (nI few)), (2, .int bst), (1, .int (nI (fbits (soB nu n ww sz lo bf) (n + 1)))), (0, .ref O)] → W pp l ee { frames := 6, cells := 0, slots := 0, locals := 137 } ss mm ([.ref O] : List Value).toArray bel mth cd H locs 0 0 (QI bel ([.ref O] : List Value).toArray ss g A (fun (r : Int32) (w' : va_W) => r = (askA nu n ww sz lo bf) ∧ ∃ (z1' : Int32), ∃ (z2' : Int32), ∃ (z3' : Int32), ∃ (z4' : Int32), ∃ (z5' : Int32), ∃ (rf' : Nat → Int32), ∃ (sf' : Nat → Int32), ∃ (tf' : Nat → Int32), ∃ (cf' : Nat → Int32), w' = [(O, ob 6 [.ref h, .ref dh, .ref th, .ref HH, .ref IM, .ref SG, .ref P, .ref ca]), (h, ob 2 [.ref q, .int (nI n), .int (nI ww)]), (q, aI g 32 f), (P, ob 3 [.ref ra, .ref sa, .ref ta, .int z1', .int z2', .int z3', .int z4', .int z5']), (ra, aI g 8 rf'), (sa, aI g 8 sf'), (ta, aI g 8 tf'), (SG, ob 4 [.ref la, .ref ba, .int (nI sz)]), (la, aI g 6 lf), (ba, aI g 6 bf), (ca, aI g 9 cf')])) (F0 mm 26 ls []) := by
      intro N0
      induction N0 with
      | zero => intro k few bst z1 z2 z3 z4 z5 r1 s1 t1 c1 hN; exact absurd hN (Nat.not_lt_zero _)
      | succ N0 ih26 =>
        intro k few bst z1 z2 z3 z4 z5 r1 s1 t1 c1 hN hk hfew hak H locs ls S hl
        refine lv_iload hx hb dX6_ask_26 (lv_at hl 0 rfl) ?_
        refine lv_sipush (v := 300) hx hb dX6_ask_28 (by decide) ?_
        refine bn_igt (tgt := 61) (a := 10 + 10 * k) (b := 300) hx hb rfl rfl (by omega) (by omega) dX6_ask_31 (by decide) (fun c_10 => ?_) (fun c_10 => ?_)
        · -- 31 T
          have hin : k = 30 := by omega
          rw [hin] at hak
          refine lv_iload_n hx hb dX6_ask_61 rfl (lv_at hl 2 rfl) ?_
          exact ret_I C S hr dX6_ask_62 ⟨(by unfold askA; rw [if_pos hct, hak]), z1, z2, z3, z4, z5, r1, s1, t1, c1, (rfl)⟩
        · -- 31 F
          have hmA : mA (soB nu n ww sz lo bf) nu n ww (10 + 10 * k) ≤ n + 1 := mlC_le (n + 1)
          refine lv_aload_n hx hb dX6_ask_34 rfl (lv_at hl 4 rfl) ?_
          refine lv_iload_n hx hb dX6_ask_35 rfl (lv_at hl 3 rfl) ?_
          refine lv_iload hx hb dX6_ask_36 (lv_at hl 0 rfl) ?_
          refine after_I (wc := [(O, ob 6 [.ref h, .ref dh, .ref th, .ref HH, .ref IM, .ref SG, .ref P, .ref ca]), (h, ob 2 [.ref q, .int (nI n), .int (nI ww)]), (q, aI g 32 f), (P, ob 3 [.ref ra, .ref sa, .ref ta, .int z1, .int z2, .int z3, .int z4, .int z5]), (ra, aI g 8 r1), (sa, aI g 8 s1), (ta, aI g 8 t1), (ca, aI g 9 c1)]) (y := yX6_mostAlike) C S (va_runV (As := [.int (nI (fbits (soB nu n ww sz lo bf) (n + 1))), .int (nI (10 + 10 * k))]) (rest := []) C.1 (kX6_mostAlike l g O dh th HH IM SG ca h q f n ww nu P ra sa ta r1 s1 t1 z1 z2 z3 z4 z5 c1 (fbits (soB nu n ww sz lo bf) (n + 1)) (10 + 10 * k) (by first | assumption | omega) (by first | assumption | omega) (by first | assumption | omega) (by first | assumption | omega) (by first | assumption | omega) (by first | assumption | omega) (by omega) H.size) (cwV 2 hts gX6_ask_X6_mostAlike rfl rfl rfl (by decide +kernel) ⟨Nat.le_of_ble_eq_true rfl, Nat.le_of_ble_eq_true rfl⟩) (preV_at C S 0 rfl rfl [0, 1, 2, 3, 4, 5, 6, 10] rfl (by decide)) rfl rfl hl.1 rfl (lv_room (Nat.le_of_ble_eq_true rfl)) dX6_ask_38 ⟨Nat.le_of_ble_eq_true rfl, Nat.le_of_ble_eq_true rfl⟩) [0, 1, 2, 3, 4, 5, 6, 10] [7, 8, 9] rfl (wr := [(SG, ob 4 [.ref la, .ref ba, .int (nI sz)]), (la, aI g 6 lf), (ba, aI g 6 bf)]) rfl (by decide) (by decide) (fun r0 w0 H locs hq S => ?_)
          obtain ⟨rfl, z1'_11, z2'_12, z3'_13, z4'_14, z5'_15, rf'_16, sf'_17, tf'_18, cf'_19, rfl⟩ := hq
          have S : ST g A ss H locs [(O, ob 6 [.ref h, .ref dh, .ref th, .ref HH, .ref IM, .ref SG, .ref P, .ref ca]), (h, ob 2 [.ref q, .int (nI n), .int (nI ww)]), (q, aI g 32 f), (P, ob 3 [.ref ra, .ref sa, .ref ta, .int z1'_11, .int z2'_12, .int z3'_13, .int z4'_14, .int z5'_15]), (ra, aI g 8 rf'_16), (sa, aI g 8 sf'_17), (ta, aI g 8 tf'_18), (SG, ob 4 [.ref la, .ref ba, .int (nI sz)]), (la, aI g 6 lf), (ba, aI g 6 bf), (ca, aI g 9 cf'_19)] := ST.sub S [3, 4, 5, 6, 7, 8, 9, 0, 1, 2, 10] (by decide) rfl
          refine top_eq (y := nI (mA (soB nu n ww sz lo bf) nu n ww (10 + 10 * k))) (congrArg nI mA_sb) ?_
          refine lv_istore (lv' := [(5, .int (nI (mA (soB nu n ww sz lo bf) nu n ww (10 + 10 * k)))), (4, .int (nI (10 + 10 * k))), (3, .int (nI few)), (2, .int bst), (1, .int (nI (fbits (soB nu n ww sz lo bf) (n + 1)))), (0, .ref O)]) hx hb dX6_ask_41 hl (by decide) rfl (fun ls hl => ?_)
          refine lv_iload hx hb dX6_ask_43 (lv_at hl 0 rfl) ?_
          refine lv_iload_n hx hb dX6_ask_45 rfl (lv_at hl 2 rfl) ?_
          refine bn_ige (tgt := 55) (a := mA (soB nu n ww sz lo bf) nu n ww (10 + 10 * k)) (b := few) hx hb rfl rfl (by omega) (by omega) dX6_ask_46 (by decide) (fun c_20 => ?_) (fun c_20 => ?_)
          · -- 46 T
            refine lv_iinc (v := nI ((10 + 10 * k) + 10)) (lv' := [(4, .int (nI ((10 + 10 * k) + 10))), (5, .int (nI (mA (soB nu n ww sz lo bf) nu n ww (10 + 10 * k)))), (3, .int (nI few)), (2, .int bst), (1, .int (nI (fbits (soB nu n ww sz lo bf) (n + 1)))), (0, .ref O)]) hx hb dX6_ask_55 hl (k := 1) rfl (nI_add _ _) (by decide) rfl (fun ls hl => ?_)
            refine lv_goto (tgt := 26) hx hb dX6_ask_58 (by decide) ?_
            exact ih26 (k + 1) few bst z1'_11 z2'_12 z3'_13 z4'_14 z5'_15 rf'_16 sf'_17 tf'_18 cf'_19 (by omega) (by first | assumption | omega) (by first | assumption | omega) (by simp only [ak, hak, if_pos c_20]) H locs ls (ST.eq S (rfl)) (lv_sub hl [0, 2, 3, 4, 5] (by simp only [show 10 + 10 * (k + 1) = 10 + 10 * k + 10 by omega] <;> rfl))
          · -- 46 F
            refine lv_iload hx hb dX6_ask_49 (lv_at hl 1 rfl) ?_
            refine lv_istore_n (lv' := [(2, .int (nI (10 + 10 * k))), (5, .int (nI (mA (soB nu n ww sz lo bf) nu n ww (10 + 10 * k)))), (4, .int (nI (10 + 10 * k))), (3, .int (nI few)), (1, .int (nI (fbits (soB nu n ww sz lo bf) (n + 1)))), (0, .ref O)]) hx hb dX6_ask_51 rfl hl (by decide) rfl (fun ls hl => ?_)
            refine lv_iload hx hb dX6_ask_52 (lv_at hl 1 rfl) ?_
            refine lv_istore_n (lv' := [(3, .int (nI (mA (soB nu n ww sz lo bf) nu n ww (10 + 10 * k)))), (2, .int (nI (10 + 10 * k))), (5, .int (nI (mA (soB nu n ww sz lo bf) nu n ww (10 + 10 * k)))), (4, .int (nI (10 + 10 * k))), (1, .int (nI (fbits (soB nu n ww sz lo bf) (n + 1)))), (0, .ref O)]) hx hb dX6_ask_54 rfl hl (by decide) rfl (fun ls hl => ?_)
            refine lv_iinc (v := nI ((10 + 10 * k) + 10)) (lv' := [(4, .int (nI ((10 + 10 * k) + 10))), (3, .int (nI (mA (soB nu n ww sz lo bf) nu n ww (10 + 10 * k)))), (2, .int (nI (10 + 10 * k))), (5, .int (nI (mA (soB nu n ww sz lo bf) nu n ww (10 + 10 * k)))), (1, .int (nI (fbits (soB nu n ww sz lo bf) (n + 1)))), (0, .ref O)]) hx hb dX6_ask_55 hl (k := 3) rfl (nI_add _ _) (by decide) rfl (fun ls hl => ?_)
            refine lv_goto (tgt := 26) hx hb dX6_ask_58 (by decide) ?_
            exact ih26 (k + 1) (mA (soB nu n ww sz lo bf) nu n ww (10 + 10 * k)) (nI (10 + 10 * k)) z1'_11 z2'_12 z3'_13 z4'_14 z5'_15 rf'_16 sf'_17 tf'_18 cf'_19 (by omega) (by first | assumption | omega) (by first | assumption | omega) (by simp only [ak, hak, if_neg c_20]) H locs ls (ST.eq S (rfl)) (lv_sub hl [0, 1, 2, 4, 5] (by simp only [show 10 + 10 * (k + 1) = 10 + 10 * k + 10 by omega] <;> rfl))
    exact loop26 _ 0 10 (-9) z1'_1 z2'_2 z3'_3 z4'_4 z5'_5 rf'_6 sf'_7 tf'_8 cf (Nat.lt_succ_self _) (by first | assumption | omega) (by first | assumption | omega) (rfl) H locs ls (ST.eq S (rfl)) (lv_sub hl [0, 1, 2, 3, 4] (rfl))
  · -- 10 F
    have hct := c_9
    rw [← cnt_9 (n + 1) (by omega)] at hct
    refine lv_bipush (v := (-9)) hx hb dX6_ask_13 (by decide) ?_
    exact ret_I C S hr dX6_ask_15 ⟨(by unfold askA; rw [if_neg hct]), z1'_1, z2'_2, z3'_3, z4'_4, z5'_5, rf'_6, sf'_7, tf'_8, cf, (rfl)⟩

theorem inX6_count_X0 : ∀ w ∈ wsX00, w ∈ wsX6_count := by decide +kernel
theorem inX6_count_X2 : ∀ w ∈ wsX20, w ∈ wsX6_count := by decide +kernel
theorem inX6_count_X4 : ∀ w ∈ wsX40, w ∈ wsX6_count := by decide +kernel
theorem inX6_count_X5 : ∀ w ∈ wsX50, w ∈ wsX6_count := by decide +kernel
theorem inX6_count_X6 : ∀ w ∈ wsX60, w ∈ wsX6_count := by decide +kernel
set_option maxRecDepth 100000 in
set_option maxHeartbeats 4000000 in
theorem kX6_count (l : Launch) (g : GG) (O : Nat) (dh : Nat) (th : Nat) (HH : Nat) (IM : Nat) (SG : Nat) (ca : Nat) (h : Nat) (q : Nat) (f : Nat → Int32) (n : Nat) (ww : Nat) (nu : Nat → Nat → Nat) (P : Nat) (ra : Nat) (sa : Nat) (ta : Nat) (rf : Nat → Int32) (sf : Nat → Int32) (tf : Nat → Int32) (p1 : Int32) (p2 : Int32) (p3 : Int32) (p4 : Int32) (p5 : Int32) (la : Nat) (ba : Nat) (lf : Nat → Int32) (bf : Nat → Int32) (sz : Nat) (tl : Nat) (tf9 : Nat → Int32) (tz : Nat) (rg : Nat) (ro : Nat → Option Nat) (k : Nat) (z : Nat) (x : Int32) (hn1 : 1 ≤ n) (hn : n ≤ 8) (hww : ww < 256) (hf : ∀ a i, a < 4 → i < n → f (a * 8 + i) = nI (nu a i)) (hB : HB nu n) : KI l g yX6_count wsX6_count 5 113 [.ref O, .int x] [(O, ob 6 [.ref h, .ref dh, .ref th, .ref HH, .ref IM, .ref SG, .ref P, .ref ca]), (h, ob 2 [.ref q, .int (nI n), .int (nI ww)]), (q, aI g 32 f), (P, ob 3 [.ref ra, .ref sa, .ref ta, .int p1, .int p2, .int p3, .int p4, .int p5]), (ra, aI g 8 rf), (sa, aI g 8 sf), (ta, aI g 8 tf), (SG, ob 4 [.ref la, .ref ba, .int (nI sz)]), (la, aI g 6 lf), (ba, aI g 6 bf), (th, ob 5 [.ref tl, .int (nI tz)]), (tl, aC g 100 tf9), (HH, ob 0 [.ref rg, .int (nI k), .int (nI z)]), (rg, aO g 6 ro)] (fun (r : Int32) (w' : va_W) => r = (chk1 (-1) 8 (countA nu n ww sz tz z) x) ∧ ∃ (z1' : Int32), ∃ (z2' : Int32), ∃ (z3' : Int32), ∃ (z4' : Int32), ∃ (z5' : Int32), ∃ (rf' : Nat → Int32), ∃ (sf' : Nat → Int32), ∃ (tf' : Nat → Int32), w' = [(O, ob 6 [.ref h, .ref dh, .ref th, .ref HH, .ref IM, .ref SG, .ref P, .ref ca]), (h, ob 2 [.ref q, .int (nI n), .int (nI ww)]), (q, aI g 32 f), (P, ob 3 [.ref ra, .ref sa, .ref ta, .int z1', .int z2', .int z3', .int z4', .int z5']), (ra, aI g 8 rf'), (sa, aI g 8 sf'), (ta, aI g 8 tf'), (SG, ob 4 [.ref la, .ref ba, .int (nI sz)]), (la, aI g 6 lf), (ba, aI g 6 bf), (th, ob 5 [.ref tl, .int (nI tz)]), (tl, aC g 100 tf9), (HH, ob 0 [.ref rg, .int (nI k), .int (nI z)]), (rg, aO g 6 ro)]) := by
  refine kI_of (cc := cX6_count) (maxL := 2) (by decide) rfl (Nat.le_of_ble_eq_true rfl) ?_
  intro pp ee ss mm bel mth cd A ls C S hr hl
  obtain ⟨hx, hb, hml, hown, hts⟩ := id C.1
  have hl : lv_has ls 2 [(0, .ref O), (1, .int x)] := hl
  obtain ⟨H, hH⟩ : ∃ H, H = ss.heap := ⟨_, rfl⟩
  obtain ⟨locs, hL0⟩ : ∃ L : List Loc, L = [] := ⟨_, rfl⟩
  rw [← hH, ← hL0] at S ⊢
  refine lv_iload_n hx hb dX6_count_0 rfl (lv_at hl 1 rfl) ?_
  by_cases c_1 : x = 0
  · -- case 0
    refine lv_tableIn (tgt := 48) hx hb dX6_count_1 (by rw [c_1]; decide) (by rw [c_1]; decide) (by rw [c_1]; rfl) (by decide) ?_
    subst c_1
    refine lv_aload_n hx hb dX6_count_48 rfl (lv_at hl 0 rfl) ?_
    refine top_get C S inX6_count_X6 rfl 0 rfl 0 (by decide) (by decide +kernel) rfl rfl dX6_count_49 ?_
    refine top_getN C S inX6_count_X2 rfl 1 rfl 1 (by decide) (by decide +kernel) rfl dX6_count_52 ?_
    exact ret_I C S hr dX6_count_55 ⟨(Eq.trans (show _ = countA nu n ww sz tz z 0 from rfl) (chk1_ok (j := 0) (by omega) (by decide)).symm), p1, p2, p3, p4, p5, rf, sf, tf, (rfl)⟩
  by_cases c_2 : x = 1
  · -- case 1
    refine lv_tableIn (tgt := 56) hx hb dX6_count_1 (by rw [c_2]; decide) (by rw [c_2]; decide) (by rw [c_2]; rfl) (by decide) ?_
    subst c_2
    refine lv_aload_n hx hb dX6_count_56 rfl (lv_at hl 0 rfl) ?_
    refine top_get C S inX6_count_X6 rfl 0 rfl 0 (by decide) (by decide +kernel) rfl rfl dX6_count_57 ?_
    refine top_getN C S inX6_count_X2 rfl 1 rfl 2 (by decide) (by decide +kernel) rfl dX6_count_60 ?_
    refine after_I (wc := []) (y := yJ6_bitCount_0f7a4) C S (va_runS (As := [.int (nI ww)]) (rest := []) C.1 (kJ6_bitCount_0f7a4 l g ww (by first | assumption | omega) H.size) (va_cwS 1 hts gX6_count_J6_bitCount_0f7a4 rfl rfl rfl (by decide +kernel) ⟨Nat.le_of_ble_eq_true rfl, Nat.le_of_ble_eq_true rfl⟩) (preS_at C S [] rfl (by decide)) rfl rfl hl.1 rfl (lv_room (Nat.le_of_ble_eq_true rfl)) dX6_count_63 ⟨Nat.le_of_ble_eq_true rfl, Nat.le_of_ble_eq_true rfl⟩) [] [0, 1, 2, 3, 4, 5, 6, 7, 8, 9, 10, 11, 12, 13] rfl (wr := [(O, ob 6 [.ref h, .ref dh, .ref th, .ref HH, .ref IM, .ref SG, .ref P, .ref ca]), (h, ob 2 [.ref q, .int (nI n), .int (nI ww)]), (q, aI g 32 f), (P, ob 3 [.ref ra, .ref sa, .ref ta, .int p1, .int p2, .int p3, .int p4, .int p5]), (ra, aI g 8 rf), (sa, aI g 8 sf), (ta, aI g 8 tf), (SG, ob 4 [.ref la, .ref ba, .int (nI sz)]), (la, aI g 6 lf), (ba, aI g 6 bf), (th, ob 5 [.ref tl, .int (nI tz)]), (tl, aC g 100 tf9), (HH, ob 0 [.ref rg, .int (nI k), .int (nI z)]), (rg, aO g 6 ro)]) rfl (by decide) (by decide) (fun r0 w0 H locs hq S => ?_)
    obtain ⟨rfl, rfl⟩ := hq
    have S : ST g A ss H locs [(O, ob 6 [.ref h, .ref dh, .ref th, .ref HH, .ref IM, .ref SG, .ref P, .ref ca]), (h, ob 2 [.ref q, .int (nI n), .int (nI ww)]), (q, aI g 32 f), (P, ob 3 [.ref ra, .ref sa, .ref ta, .int p1, .int p2, .int p3, .int p4, .int p5]), (ra, aI g 8 rf), (sa, aI g 8 sf), (ta, aI g 8 tf), (SG, ob 4 [.ref la, .ref ba, .int (nI sz)]), (la, aI g 6 lf), (ba, aI g 6 bf), (th, ob 5 [.ref tl, .int (nI tz)]), (tl, aC g 100 tf9), (HH, ob 0 [.ref rg, .int (nI k), .int (nI z)]), (rg, aO g 6 ro)] := S
    exact ret_I C S hr dX6_count_66 ⟨(Eq.trans (show _ = countA nu n ww sz tz z 1 from rfl) (chk1_ok (j := 1) (by omega) (by decide)).symm), p1, p2, p3, p4, p5, rf, sf, tf, (rfl)⟩
  by_cases c_3 : x = 2
  · -- case 2
    refine lv_tableIn (tgt := 67) hx hb dX6_count_1 (by rw [c_3]; decide) (by rw [c_3]; decide) (by rw [c_3]; rfl) (by decide) ?_
    subst c_3
    refine lv_aload_n hx hb dX6_count_67 rfl (lv_at hl 0 rfl) ?_
    refine top_get C S inX6_count_X6 rfl 0 rfl 0 (by decide) (by decide +kernel) rfl rfl dX6_count_68 ?_
    refine lv_iconst (v := 1) hx hb dX6_count_71 (by decide) ?_
    refine lv_aload_n hx hb dX6_count_72 rfl (lv_at hl 0 rfl) ?_
    refine top_get C S inX6_count_X6 rfl 0 rfl 0 (by decide) (by decide +kernel) rfl rfl dX6_count_73 ?_
    refine top_getN C S inX6_count_X2 rfl 1 rfl 2 (by decide) (by decide +kernel) rfl dX6_count_76 ?_
    refine after_I (wc := [(h, ob 2 [.ref q, .int (nI n), .int (nI ww)]), (q, aI g 32 f)]) (y := yX2_sum) C S (va_runV (As := [.int 1, .int (nI ww)]) (rest := []) C.1 (kX2_sum l g h q f n ww nu 1 ww (by first | assumption | omega) (by first | assumption | omega) (by decide) (by first | assumption | omega) H.size) (cwV 2 hts gX6_count_X2_sum rfl rfl rfl (by decide +kernel) ⟨Nat.le_of_ble_eq_true rfl, Nat.le_of_ble_eq_true rfl⟩) (preV_at C S 1 rfl rfl [1, 2] rfl (by decide)) rfl rfl hl.1 rfl (lv_room (Nat.le_of_ble_eq_true rfl)) dX6_count_79 ⟨Nat.le_of_ble_eq_true rfl, Nat.le_of_ble_eq_true rfl⟩) [1, 2] [0, 3, 4, 5, 6, 7, 8, 9, 10, 11, 12, 13] rfl (wr := [(O, ob 6 [.ref h, .ref dh, .ref th, .ref HH, .ref IM, .ref SG, .ref P, .ref ca]), (P, ob 3 [.ref ra, .ref sa, .ref ta, .int p1, .int p2, .int p3, .int p4, .int p5]), (ra, aI g 8 rf), (sa, aI g 8 sf), (ta, aI g 8 tf), (SG, ob 4 [.ref la, .ref ba, .int (nI sz)]), (la, aI g 6 lf), (ba, aI g 6 bf), (th, ob 5 [.ref tl, .int (nI tz)]), (tl, aC g 100 tf9), (HH, ob 0 [.ref rg, .int (nI k), .int (nI z)]), (rg, aO g 6 ro)]) rfl (by decide) (by decide) (fun r0 w0 H locs hq S => ?_)
    obtain ⟨rfl, rfl⟩ := hq
    have S : ST g A ss H locs [(O, ob 6 [.ref h, .ref dh, .ref th, .ref HH, .ref IM, .ref SG, .ref P, .ref ca]), (h, ob 2 [.ref q, .int (nI n), .int (nI ww)]), (q, aI g 32 f), (P, ob 3 [.ref ra, .ref sa, .ref ta, .int p1, .int p2, .int p3, .int p4, .int p5]), (ra, aI g 8 rf), (sa, aI g 8 sf), (ta, aI g 8 tf), (SG, ob 4 [.ref la, .ref ba, .int (nI sz)]), (la, aI g 6 lf), (ba, aI g 6 bf), (th, ob 5 [.ref tl, .int (nI tz)]), (tl, aC g 100 tf9), (HH, ob 0 [.ref rg, .int (nI k), .int (nI z)]), (rg, aO g 6 ro)] := ST.sub S [0, 12, 13, 1, 2, 3, 4, 5, 6, 7, 8, 9, 10, 11] (by decide) rfl
    exact ret_I C S hr dX6_count_82 ⟨(Eq.trans (show _ = countA nu n ww sz tz z 2 from rfl) (chk1_ok (j := 2) (by omega) (by decide)).symm), p1, p2, p3, p4, p5, rf, sf, tf, (rfl)⟩
  by_cases c_4 : x = 3
  · -- case 3
    refine lv_tableIn (tgt := 83) hx hb dX6_count_1 (by rw [c_4]; decide) (by rw [c_4]; decide) (by rw [c_4]; rfl) (by decide) ?_
    subst c_4
    refine lv_aload_n hx hb dX6_count_83 rfl (lv_at hl 0 rfl) ?_
    refine top_get C S inX6_count_X6 rfl 0 rfl 0 (by decide) (by decide +kernel) rfl rfl dX6_count_84 ?_
    refine lv_iconst (v := 0) hx hb dX6_count_87 (by decide) ?_
    refine lv_sipush (v := 255) hx hb dX6_count_88 (by decide) ?_
    refine after_I (wc := [(h, ob 2 [.ref q, .int (nI n), .int (nI ww)]), (q, aI g 32 f)]) (y := yX2_sum) C S (va_runV (As := [.int 0, .int 255]) (rest := []) C.1 (kX2_sum l g h q f n ww nu 0 255 (by first | assumption | omega) (by first | assumption | omega) (by decide) (by decide) H.size) (cwV 2 hts gX6_count_X2_sum rfl rfl rfl (by decide +kernel) ⟨Nat.le_of_ble_eq_true rfl, Nat.le_of_ble_eq_true rfl⟩) (preV_at C S 1 rfl rfl [1, 2] rfl (by decide)) rfl rfl hl.1 rfl (lv_room (Nat.le_of_ble_eq_true rfl)) dX6_count_91 ⟨Nat.le_of_ble_eq_true rfl, Nat.le_of_ble_eq_true rfl⟩) [1, 2] [0, 3, 4, 5, 6, 7, 8, 9, 10, 11, 12, 13] rfl (wr := [(O, ob 6 [.ref h, .ref dh, .ref th, .ref HH, .ref IM, .ref SG, .ref P, .ref ca]), (P, ob 3 [.ref ra, .ref sa, .ref ta, .int p1, .int p2, .int p3, .int p4, .int p5]), (ra, aI g 8 rf), (sa, aI g 8 sf), (ta, aI g 8 tf), (SG, ob 4 [.ref la, .ref ba, .int (nI sz)]), (la, aI g 6 lf), (ba, aI g 6 bf), (th, ob 5 [.ref tl, .int (nI tz)]), (tl, aC g 100 tf9), (HH, ob 0 [.ref rg, .int (nI k), .int (nI z)]), (rg, aO g 6 ro)]) rfl (by decide) (by decide) (fun r0 w0 H locs hq S => ?_)
    obtain ⟨rfl, rfl⟩ := hq
    have S : ST g A ss H locs [(O, ob 6 [.ref h, .ref dh, .ref th, .ref HH, .ref IM, .ref SG, .ref P, .ref ca]), (h, ob 2 [.ref q, .int (nI n), .int (nI ww)]), (q, aI g 32 f), (P, ob 3 [.ref ra, .ref sa, .ref ta, .int p1, .int p2, .int p3, .int p4, .int p5]), (ra, aI g 8 rf), (sa, aI g 8 sf), (ta, aI g 8 tf), (SG, ob 4 [.ref la, .ref ba, .int (nI sz)]), (la, aI g 6 lf), (ba, aI g 6 bf), (th, ob 5 [.ref tl, .int (nI tz)]), (tl, aC g 100 tf9), (HH, ob 0 [.ref rg, .int (nI k), .int (nI z)]), (rg, aO g 6 ro)] := ST.sub S [0, 12, 13, 1, 2, 3, 4, 5, 6, 7, 8, 9, 10, 11] (by decide) rfl
    exact ret_I C S hr dX6_count_94 ⟨(Eq.trans (show _ = countA nu n ww sz tz z 3 from rfl) (chk1_ok (j := 3) (by omega) (by decide)).symm), p1, p2, p3, p4, p5, rf, sf, tf, (rfl)⟩
  by_cases c_5 : x = 4
  · -- case 4
    refine lv_tableIn (tgt := 95) hx hb dX6_count_1 (by rw [c_5]; decide) (by rw [c_5]; decide) (by rw [c_5]; rfl) (by decide) ?_
    subst c_5
    refine lv_aload_n hx hb dX6_count_95 rfl (lv_at hl 0 rfl) ?_
    refine lv_aload_n hx hb dX6_count_96 rfl (lv_at hl 0 rfl) ?_
    refine top_get C S inX6_count_X6 rfl 0 rfl 0 (by decide) (by decide +kernel) rfl rfl dX6_count_97 ?_
    refine top_getN C S inX6_count_X2 rfl 1 rfl 1 (by decide) (by decide +kernel) rfl dX6_count_100 ?_
    refine lv_iconst (v := 1) hx hb dX6_count_103 (by decide) ?_
    refine lv_isub hx hb dX6_count_104 ?_
    refine top_eq (y := nI (n - 1)) (pk_sub (a := n) (b := 1) (by omega)) ?_
    refine lv_bipush (v := 6) hx hb dX6_count_105 (by decide) ?_
    refine after_I (wc := [(O, ob 6 [.ref h, .ref dh, .ref th, .ref HH, .ref IM, .ref SG, .ref P, .ref ca]), (h, ob 2 [.ref q, .int (nI n), .int (nI ww)]), (q, aI g 32 f), (P, ob 3 [.ref ra, .ref sa, .ref ta, .int p1, .int p2, .int p3, .int p4, .int p5]), (ra, aI g 8 rf), (sa, aI g 8 sf), (ta, aI g 8 tf)]) (y := yX6_leaf) C S (va_runV (As := [.int (nI (n - 1)), .int 6]) (rest := []) C.1 (kX6_leaf l g O dh th HH IM SG ca h q f n ww nu P ra sa ta rf sf tf p1 p2 p3 p4 p5 (nI (n - 1)) 6 (by first | assumption | omega) (by first | assumption | omega) (by first | assumption | omega) (by first | assumption | omega) (by first | assumption | omega) H.size) (cwV 2 hts gX6_count_X6_leaf rfl rfl rfl (by decide +kernel) ⟨Nat.le_of_ble_eq_true rfl, Nat.le_of_ble_eq_true rfl⟩) (preV_at C S 0 rfl rfl [0, 1, 2, 3, 4, 5, 6] rfl (by decide)) rfl rfl hl.1 rfl (lv_room (Nat.le_of_ble_eq_true rfl)) dX6_count_107 ⟨Nat.le_of_ble_eq_true rfl, Nat.le_of_ble_eq_true rfl⟩) [0, 1, 2, 3, 4, 5, 6] [7, 8, 9, 10, 11, 12, 13] rfl (wr := [(SG, ob 4 [.ref la, .ref ba, .int (nI sz)]), (la, aI g 6 lf), (ba, aI g 6 bf), (th, ob 5 [.ref tl, .int (nI tz)]), (tl, aC g 100 tf9), (HH, ob 0 [.ref rg, .int (nI k), .int (nI z)]), (rg, aO g 6 ro)]) rfl (by decide) (by decide) (fun r0 w0 H locs hq S => ?_)
    obtain ⟨rfl, z1'_6, z2'_7, z3'_8, z4'_9, z5'_10, rf'_11, sf'_12, tf'_13, rfl⟩ := hq
    have S : ST g A ss H locs [(O, ob 6 [.ref h, .ref dh, .ref th, .ref HH, .ref IM, .ref SG, .ref P, .ref ca]), (h, ob 2 [.ref q, .int (nI n), .int (nI ww)]), (q, aI g 32 f), (P, ob 3 [.ref ra, .ref sa, .ref ta, .int z1'_6, .int z2'_7, .int z3'_8, .int z4'_9, .int z5'_10]), (ra, aI g 8 rf'_11), (sa, aI g 8 sf'_12), (ta, aI g 8 tf'_13), (SG, ob 4 [.ref la, .ref ba, .int (nI sz)]), (la, aI g 6 lf), (ba, aI g 6 bf), (th, ob 5 [.ref tl, .int (nI tz)]), (tl, aC g 100 tf9), (HH, ob 0 [.ref rg, .int (nI k), .int (nI z)]), (rg, aO g 6 ro)] := ST.sub S [7, 8, 9, 10, 11, 12, 13, 0, 1, 2, 3, 4, 5, 6] (by decide) rfl
    exact ret_I C S hr dX6_count_110 ⟨(Eq.trans (chk2_ok (i := n - 1) (j := 6) (by omega) (by omega) (by omega) (by decide)) (chk1_ok (bad := (-1)) (k := 8) (j := 4) (f := countA nu n ww sz tz z) (by omega) (by decide)).symm), z1'_6, z2'_7, z3'_8, z4'_9, z5'_10, rf'_11, sf'_12, tf'_13, (rfl)⟩
  by_cases c_14 : x = 5
  · -- case 5
    refine lv_tableIn (tgt := 111) hx hb dX6_count_1 (by rw [c_14]; decide) (by rw [c_14]; decide) (by rw [c_14]; rfl) (by decide) ?_
    subst c_14
    refine lv_aload_n hx hb dX6_count_111 rfl (lv_at hl 0 rfl) ?_
    refine top_get C S inX6_count_X6 rfl 0 rfl 5 (by decide) (by decide +kernel) rfl rfl dX6_count_112 ?_
    refine top_getN C S inX6_count_X4 rfl 7 rfl 2 (by decide) (by decide +kernel) rfl dX6_count_115 ?_
    exact ret_I C S hr dX6_count_118 ⟨(Eq.trans (show _ = countA nu n ww sz tz z 5 from rfl) (chk1_ok (j := 5) (by omega) (by decide)).symm), p1, p2, p3, p4, p5, rf, sf, tf, (rfl)⟩
  by_cases c_15 : x = 6
  · -- case 6
    refine lv_tableIn (tgt := 119) hx hb dX6_count_1 (by rw [c_15]; decide) (by rw [c_15]; decide) (by rw [c_15]; rfl) (by decide) ?_
    subst c_15
    refine lv_aload_n hx hb dX6_count_119 rfl (lv_at hl 0 rfl) ?_
    refine top_get C S inX6_count_X6 rfl 0 rfl 2 (by decide) (by decide +kernel) rfl rfl dX6_count_120 ?_
    refine top_getN C S inX6_count_X5 rfl 10 rfl 1 (by decide) (by decide +kernel) rfl dX6_count_123 ?_
    exact ret_I C S hr dX6_count_126 ⟨(Eq.trans (show _ = countA nu n ww sz tz z 6 from rfl) (chk1_ok (j := 6) (by omega) (by decide)).symm), p1, p2, p3, p4, p5, rf, sf, tf, (rfl)⟩
  by_cases c_16 : x = 7
  · -- case 7
    refine lv_tableIn (tgt := 127) hx hb dX6_count_1 (by rw [c_16]; decide) (by rw [c_16]; decide) (by rw [c_16]; rfl) (by decide) ?_
    subst c_16
    refine lv_aload_n hx hb dX6_count_127 rfl (lv_at hl 0 rfl) ?_
    refine top_get C S inX6_count_X6 rfl 0 rfl 3 (by decide) (by decide +kernel) rfl rfl dX6_count_128 ?_
    refine top_getN C S inX6_count_X0 rfl 12 rfl 2 (by decide) (by decide +kernel) rfl dX6_count_131 ?_
    exact ret_I C S hr dX6_count_134 ⟨(Eq.trans (show _ = countA nu n ww sz tz z 7 from rfl) (chk1_ok (j := 7) (by omega) (by decide)).symm), p1, p2, p3, p4, p5, rf, sf, tf, (rfl)⟩
  · -- default
    refine lv_tableOut (tgt := 135) hx hb dX6_count_1 (sw_out x (hi := 7) (by decide) (fun k hk => by rcases (show k = 0 ∨ k = 1 ∨ k = 2 ∨ k = 3 ∨ k = 4 ∨ k = 5 ∨ k = 6 ∨ k = 7 by omega) with rfl | rfl | rfl | rfl | rfl | rfl | rfl | rfl <;> first | exact c_1 | exact c_2 | exact c_3 | exact c_4 | exact c_5 | exact c_14 | exact c_15 | exact c_16)) (by decide) ?_
    refine lv_iconst (v := (-1)) hx hb dX6_count_135 (by decide) ?_
    exact ret_I C S hr dX6_count_136 ⟨((chk1_bad (sw_bad (k := 7) (by decide) (fun k9 hk9 => by rcases (show k9 = 0 ∨ k9 = 1 ∨ k9 = 2 ∨ k9 = 3 ∨ k9 = 4 ∨ k9 = 5 ∨ k9 = 6 ∨ k9 = 7 by omega) with rfl | rfl | rfl | rfl | rfl | rfl | rfl | rfl <;> first | exact c_1 | exact c_2 | exact c_3 | exact c_4 | exact c_5 | exact c_14 | exact c_15 | exact c_16))).symm), p1, p2, p3, p4, p5, rf, sf, tf, (rfl)⟩

theorem inX6_forget_X6 : ∀ w ∈ wsX60, w ∈ wsX6_forget := by decide +kernel
set_option maxRecDepth 100000 in
set_option maxHeartbeats 4000000 in
theorem kX6_forget (l : Launch) (g : GG) (O : Nat) (dh : Nat) (th : Nat) (HH : Nat) (IM : Nat) (SG : Nat) (ca : Nat) (h : Nat) (P : Nat) (la : Nat) (ba : Nat) (lf : Nat → Int32) (bf : Nat → Int32) (sz : Nat)  : KI l g yX6_forget wsX6_forget 1 21 [.ref O] [(O, ob 6 [.ref h, .ref dh, .ref th, .ref HH, .ref IM, .ref SG, .ref P, .ref ca]), (SG, ob 4 [.ref la, .ref ba, .int (nI sz)]), (la, aI g 6 lf), (ba, aI g 6 bf)] (fun (r : Int32) (w' : va_W) => r = (nI sz) ∧ w' = [(O, ob 6 [.ref h, .ref dh, .ref th, .ref HH, .ref IM, .ref SG, .ref P, .ref ca]), (SG, ob 4 [.ref la, .ref ba, .int (nI 0)]), (la, aI g 6 lf), (ba, aI g 6 bf)]) := by
  refine kI_of (cc := cX6_forget) (maxL := 1) (by decide) rfl (Nat.le_of_ble_eq_true rfl) ?_
  intro pp ee ss mm bel mth cd A ls C S hr hl
  obtain ⟨hx, hb, hml, hown, hts⟩ := id C.1
  have hl : lv_has ls 1 [(0, .ref O)] := hl
  obtain ⟨H, hH⟩ : ∃ H, H = ss.heap := ⟨_, rfl⟩
  obtain ⟨locs, hL0⟩ : ∃ L : List Loc, L = [] := ⟨_, rfl⟩
  rw [← hH, ← hL0] at S ⊢
  refine lv_aload_n hx hb dX6_forget_0 rfl (lv_at hl 0 rfl) ?_
  refine top_get C S inX6_forget_X6 rfl 0 rfl 5 (by decide) (by decide +kernel) rfl rfl dX6_forget_1 ?_
  refine after_I (wc := [(SG, ob 4 [.ref la, .ref ba, .int (nI sz)]), (la, aI g 6 lf), (ba, aI g 6 bf)]) (y := yX4_empty) C S (va_runV (As := []) (rest := []) C.1 (kX4_empty l g SG la ba lf bf sz H.size) (cwV 0 hts gX6_forget_X4_empty rfl rfl rfl (by decide +kernel) ⟨Nat.le_of_ble_eq_true rfl, Nat.le_of_ble_eq_true rfl⟩) (preV_at C S 1 rfl rfl [1, 2, 3] rfl (by decide)) rfl rfl hl.1 rfl (lv_room (Nat.le_of_ble_eq_true rfl)) dX6_forget_4 ⟨Nat.le_of_ble_eq_true rfl, Nat.le_of_ble_eq_true rfl⟩) [1, 2, 3] [0] rfl (wr := [(O, ob 6 [.ref h, .ref dh, .ref th, .ref HH, .ref IM, .ref SG, .ref P, .ref ca])]) rfl (by decide) (by decide) (fun r0 w0 H locs hq S => ?_)
  obtain ⟨rfl, rfl⟩ := hq
  have S : ST g A ss H locs [(O, ob 6 [.ref h, .ref dh, .ref th, .ref HH, .ref IM, .ref SG, .ref P, .ref ca]), (SG, ob 4 [.ref la, .ref ba, .int (nI 0)]), (la, aI g 6 lf), (ba, aI g 6 bf)] := S
  exact ret_I C S hr dX6_forget_7 ⟨(by first | rfl | simp only []), (by first | rfl | simp only [])⟩
