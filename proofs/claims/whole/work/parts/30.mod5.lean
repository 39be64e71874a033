theorem inX7_loadAt_X7 : ∀ w ∈ wsX70, w ∈ wsX7_loadAt := by decide +kernel
set_option maxRecDepth 100000 in
set_option maxHeartbeats 4000000 in
theorem kX7_loadAt (l : Launch) (g : GG) (M : Nat) (nw : Nat) (dr : Nat) (pa : Nat) (im : Nat) (ke : Nat) (fl : Nat) (fq : Nat) (te : Nat) (ni : Nat) (re : Nat) (ma : Nat) (be : Nat) (ypa : Int32) (yfa : Int32) (yty : Int32) (yat : Int32) (yst : Int32) (yso : Int32) (yva : Int32) (yab : Int32) (ybl : Int32) (yis : Int32) (yra : Int32) (gn : Nat → Int32) (n : Nat) (ww : Nat) (nu : Nat → Nat → Nat) (ref : Nat → Int32) (d : Nat) (hn1 : 1 ≤ n) (hn : n ≤ 8) (hww : ww < 2 ^ n) (hg0 : gn 0 = nI n) (hgn : ∀ a i, a < 4 → i < n → gn (5 * i + (a + 1)) = nI (nu a i)) (hgw : ∀ i, i < n → gn (5 * i + 5) = nI (ww.testBit i).toNat) (hB : HB nu n) (hRe : ∀ j, j < n → ref j = nI (R0 nu j)) (hRb : ∀ i, i < n → R0 nu i ≤ 240) (hd : d ≤ 240) : KI l g yX7_loadAt wsX7_loadAt 2 43 [.ref M, .int (nI d)] [(M, ob 7 [.ref nw, .ref dr, .ref pa, .int ypa, .ref im, .ref ke, .ref fl, .ref fq, .int yfa, .ref te, .int yty, .int yat, .int yst, .int yso, .int yva, .ref ni, .ref re, .int yab, .int ybl, .int yis, .int yra, .ref ma, .ref be]), (nw, aI g 41 gn), (re, aI g 8 ref)] (fun (r : Int32) (w' : va_W) => r = (nI (laN (nu 1) (R0 nu) ww d n)) ∧ w' = [(M, ob 7 [.ref nw, .ref dr, .ref pa, .int ypa, .ref im, .ref ke, .ref fl, .ref fq, .int yfa, .ref te, .int yty, .int yat, .int yst, .int yso, .int yva, .ref ni, .ref re, .int yab, .int ybl, .int yis, .int yra, .ref ma, .ref be]), (nw, aI g 41 gn), (re, aI g 8 ref)]) := by
  refine kI_of (cc := cX7_loadAt) (maxL := 4) (by decide) rfl (Nat.le_of_ble_eq_true rfl) ?_
  intro pp ee ss mm bel mth cd A ls C S hr hl
  obtain ⟨hx, hb, hml, hown, hts⟩ := id C.1
  have hl : lv_has ls 4 [(0, .ref M), (1, .int (nI d))] := hl
  obtain ⟨H, hH⟩ : ∃ H, H = ss.heap := ⟨_, rfl⟩
  obtain ⟨locs, hL0⟩ : ∃ L : List Loc, L = [] := ⟨_, rfl⟩
  rw [← hH, ← hL0] at S ⊢
  refine lv_iconst (v := 0) hx hb dX7_loadAt_0 (by decide) ?_
  refine lv_istore_n (lv' := [(2, .int 0), (0, .ref M), (1, .int (nI d))]) hx hb dX7_loadAt_1 rfl hl (by decide) rfl (fun ls hl => ?_)
  refine lv_iconst (v := 0) hx hb dX7_loadAt_2 (by decide) ?_
  refine lv_istore_n (lv' := [(3, .int 0), (2, .int 0), (0, .ref M), (1, .int (nI d))]) hx hb dX7_loadAt_3 rfl hl (by decide) rfl (fun ls hl => ?_)
  have loop4 : ∀ (N0 : Nat) (i : Nat) (x : Nat), n - i < N0 → (i ≤ n) → (x = laN (nu 1) (R0 nu) ww d i) → ∀ (H : Heap) (locs : List Loc) (ls : Array Slot), ST g A ss H locs [(M, ob 7 [.ref nw, .ref dr, .ref pa, .int ypa, .ref im, .ref ke, .ref fl, .ref fq, .int yfa, .ref te, .int yty, .int yat, .int yst, .int yso, .int yva, .ref ni, .ref re, .int yab, .int ybl, .int yis, .int yra, .ref ma, .ref be]), (nw, aI g 41 gn), (re, aI g 8 ref)] → lv_has ls 4 [(3, .int (nI i)), (2, .int (nI x)), (0, .ref M), (1, .int (nI d))] → W pp l ee { frames := 2, cells := 0, slots := 0, locals := 43 } ss mm ([.ref M, .int (nI d)] : List Value).toArray bel mth cd H locs 0 0 (QI bel ([.ref M, .int (nI d)] : List Value).toArray ss g A (fun (r : Int32) (w' : va_W) => r = (nI (laN (nu 1) (R0 nu) ww d n)) ∧ w' = [(M, ob 7 [.ref nw, .ref dr, .ref pa, .int ypa, .ref im, .ref ke, .ref fl, .ref fq, .int yfa, .ref te, .int yty, .int yat, .int yst, .int yso, .int yva, .ref ni, .ref re, .int yab, .int ybl, .int yis, .int yra, .ref ma, .ref be]), (nw, aI g 41 gn), (re, aI g 8 ref)])) (F0 mm 4 ls []) := by
    intro N0
    induction N0 with
    | zero => intro i x hN; exact absurd hN (Nat.not_lt_zero _)
    | succ N0 ih4 =>
      intro i x hN hi hx1 H locs ls S hl
      refine lv_iload_n hx hb dX7_loadAt_4 rfl (lv_at hl 0 rfl) ?_
      refine lv_aload_n hx hb dX7_loadAt_5 rfl (lv_at hl 2 rfl) ?_
      refine top_get C S inX7_loadAt_X7 rfl 0 rfl 0 (by decide) (by decide +kernel) rfl rfl dX7_loadAt_6 ?_
      refine lv_iconst (v := 0) hx hb dX7_loadAt_9 (by decide) ?_
      refine top_ild C S 1 rfl (j := 0) rfl (by omega) (by decide) dX7_loadAt_10 ?_
      refine top_eq (y := nI n) hg0 ?_
      refine bn_ige (tgt := 60) (a := i) (b := n) hx hb rfl rfl (by omega) (by omega) dX7_loadAt_11 (by decide) (fun c_1 => ?_) (fun c_1 => ?_)
      · -- 11 T
        refine lv_iload_n hx hb dX7_loadAt_60 rfl (lv_at hl 1 rfl) ?_
        exact ret_I C S hr dX7_loadAt_61 ⟨(by rw [hx1, show i = n by omega]), (rfl)⟩
      · -- 11 F
        have e1 := hRb i (by omega)
        refine lv_iload_n hx hb dX7_loadAt_14 rfl (lv_at hl 1 rfl) ?_
        refine lv_aload_n hx hb dX7_loadAt_15 rfl (lv_at hl 2 rfl) ?_
        refine lv_iload_n hx hb dX7_loadAt_16 rfl (lv_at hl 0 rfl) ?_
        refine after_I (wc := [(M, ob 7 [.ref nw, .ref dr, .ref pa, .int ypa, .ref im, .ref ke, .ref fl, .ref fq, .int yfa, .ref te, .int yty, .int yat, .int yst, .int yso, .int yva, .ref ni, .ref re, .int yab, .int ybl, .int yis, .int yra, .ref ma, .ref be]), (nw, aI g 41 gn)]) (y := yX7_isWhole) C S (va_runV (As := [.int (nI i)]) (rest := [.int (nI x)]) C.1 (kX7_isWhole l g M nw dr pa im ke fl fq te ni re ma be ypa yfa yty yat yst yso yva yab ybl yis yra gn n ww i (by first | assumption | omega) (by first | assumption | omega) (by first | assumption | omega) (by first | assumption | omega) H.size) (cwV 1 hts gX7_loadAt_X7_isWhole rfl rfl rfl (by decide +kernel) ⟨Nat.le_of_ble_eq_true rfl, Nat.le_of_ble_eq_true rfl⟩) (preV_at C S 0 rfl rfl [0, 1] rfl (by decide)) rfl rfl hl.1 rfl (lv_room (Nat.le_of_ble_eq_true rfl)) dX7_loadAt_17 ⟨Nat.le_of_ble_eq_true rfl, Nat.le_of_ble_eq_true rfl⟩) [0, 1] [2] rfl (wr := [(re, aI g 8 ref)]) rfl (by decide) (by decide) (fun r0 w0 H locs hq S => ?_)
        obtain ⟨rfl, rfl⟩ := hq
        have S : ST g A ss H locs [(M, ob 7 [.ref nw, .ref dr, .ref pa, .int ypa, .ref im, .ref ke, .ref fl, .ref fq, .int yfa, .ref te, .int yty, .int yat, .int yst, .int yso, .int yva, .ref ni, .ref re, .int yab, .int ybl, .int yis, .int yra, .ref ma, .ref be]), (nw, aI g 41 gn), (re, aI g 8 ref)] := ST.sub S [1, 2, 0] (by decide) rfl
        refine br_eqB (tgt := 51) hx hb dX7_loadAt_20 (by decide) (fun c_2 => ?_) (fun c_2 => ?_)
        · -- 20 T
          refine lv_iconst (v := 0) hx hb dX7_loadAt_51 (by decide) ?_
          refine lv_iadd hx hb dX7_loadAt_52 ?_
          refine top_eq (y := nI (x + 0)) (nI_add _ _) ?_
          refine lv_istore_n (lv' := [(2, .int (nI (x + 0))), (3, .int (nI i)), (0, .ref M), (1, .int (nI d))]) hx hb dX7_loadAt_53 rfl hl (by decide) rfl (fun ls hl => ?_)
          refine lv_iinc (v := nI (i + 1)) (lv' := [(3, .int (nI (i + 1))), (2, .int (nI (x + 0))), (0, .ref M), (1, .int (nI d))]) hx hb dX7_loadAt_54 hl (k := 1) rfl (nI_add _ _) (by decide) rfl (fun ls hl => ?_)
          refine lv_goto (tgt := 4) hx hb dX7_loadAt_57 (by decide) ?_
          exact ih4 (i + 1) (x + 0) (by omega) (by first | assumption | omega) (by simp only [laN, ← hx1, if_neg (Bool.eq_false_iff.mp c_2), Nat.add_zero]) H locs ls (ST.eq S (rfl)) (lv_sub hl [0, 1, 2, 3] (rfl))
        · -- 20 F
          refine lv_aload_n hx hb dX7_loadAt_23 rfl (lv_at hl 2 rfl) ?_
          refine top_get C S inX7_loadAt_X7 rfl 0 rfl 16 (by decide) (by decide +kernel) rfl rfl dX7_loadAt_24 ?_
          refine lv_iload_n hx hb dX7_loadAt_27 rfl (lv_at hl 0 rfl) ?_
          refine top_ild C S 2 rfl (j := i) rfl (by omega) (by decide) dX7_loadAt_28 ?_
          refine top_eq (y := nI (R0 nu i)) (hRe _ (by omega)) ?_
          refine lv_iload_n hx hb dX7_loadAt_29 rfl (lv_at hl 3 rfl) ?_
          refine bn_ige (tgt := 51) (a := R0 nu i) (b := d) hx hb rfl rfl (by omega) (by omega) dX7_loadAt_30 (by decide) (fun c_3 => ?_) (fun c_3 => ?_)
          · -- 30 T
            refine lv_iconst (v := 0) hx hb dX7_loadAt_51 (by decide) ?_
            refine lv_iadd hx hb dX7_loadAt_52 ?_
            refine top_eq (y := nI (x + 0)) (nI_add _ _) ?_
            refine lv_istore_n (lv' := [(2, .int (nI (x + 0))), (3, .int (nI i)), (0, .ref M), (1, .int (nI d))]) hx hb dX7_loadAt_53 rfl hl (by decide) rfl (fun ls hl => ?_)
            refine lv_iinc (v := nI (i + 1)) (lv' := [(3, .int (nI (i + 1))), (2, .int (nI (x + 0))), (0, .ref M), (1, .int (nI d))]) hx hb dX7_loadAt_54 hl (k := 1) rfl (nI_add _ _) (by decide) rfl (fun ls hl => ?_)
            refine lv_goto (tgt := 4) hx hb dX7_loadAt_57 (by decide) ?_
            exact ih4 (i + 1) (x + 0) (by omega) (by first | assumption | omega) (by simp only [laN, ← hx1, if_pos c_2, show d - R0 nu i = 0 by omega, Nat.mul_zero]) H locs ls (ST.eq S (rfl)) (lv_sub hl [0, 1, 2, 3] (rfl))
          · -- 30 F
            refine lv_aload_n hx hb dX7_loadAt_33 rfl (lv_at hl 2 rfl) ?_
            refine lv_iload_n hx hb dX7_loadAt_34 rfl (lv_at hl 0 rfl) ?_
            refine lv_iconst (v := 2) hx hb dX7_loadAt_35 (by decide) ?_
            refine after_I (wc := [(M, ob 7 [.ref nw, .ref dr, .ref pa, .int ypa, .ref im, .ref ke, .ref fl, .ref fq, .int yfa, .ref te, .int yty, .int yat, .int yst, .int yso, .int yva, .ref ni, .ref re, .int yab, .int ybl, .int yis, .int yra, .ref ma, .ref be]), (nw, aI g 41 gn)]) (y := yX7_of) C S (va_runV (As := [.int (nI i), .int 2]) (rest := [.int (nI x)]) C.1 (kX7_of l g M nw dr pa im ke fl fq te ni re ma be ypa yfa yty yat yst yso yva yab ybl yis yra gn i 2 (by first | assumption | omega) (by first | assumption | omega) H.size) (cwV 2 hts gX7_loadAt_X7_of rfl rfl rfl (by decide +kernel) ⟨Nat.le_of_ble_eq_true rfl, Nat.le_of_ble_eq_true rfl⟩) (preV_at C S 0 rfl rfl [0, 1] rfl (by decide)) rfl rfl hl.1 rfl (lv_room (Nat.le_of_ble_eq_true rfl)) dX7_loadAt_36 ⟨Nat.le_of_ble_eq_true rfl, Nat.le_of_ble_eq_true rfl⟩) [0, 1] [2] rfl (wr := [(re, aI g 8 ref)]) rfl (by decide) (by decide) (fun r0 w0 H locs hq S => ?_)
            obtain ⟨rfl, rfl⟩ := hq
            have S : ST g A ss H locs [(M, ob 7 [.ref nw, .ref dr, .ref pa, .int ypa, .ref im, .ref ke, .ref fl, .ref fq, .int yfa, .ref te, .int yty, .int yat, .int yst, .int yso, .int yva, .ref ni, .ref re, .int yab, .int ybl, .int yis, .int yra, .ref ma, .ref be]), (nw, aI g 41 gn), (re, aI g 8 ref)] := ST.sub S [1, 2, 0] (by decide) rfl
            refine top_eq (y := nI (nu 1 i)) (hgn 1 _ (by omega) (by omega)) ?_
            refine lv_iload_n hx hb dX7_loadAt_39 rfl (lv_at hl 3 rfl) ?_
            refine lv_aload_n hx hb dX7_loadAt_40 rfl (lv_at hl 2 rfl) ?_
            refine top_get C S inX7_loadAt_X7 rfl 0 rfl 16 (by decide) (by decide +kernel) rfl rfl dX7_loadAt_41 ?_
            refine lv_iload_n hx hb dX7_loadAt_44 rfl (lv_at hl 0 rfl) ?_
            refine top_ild C S 2 rfl (j := i) rfl (by omega) (by decide) dX7_loadAt_45 ?_
            refine top_eq (y := nI (R0 nu i)) (hRe _ (by omega)) ?_
            refine lv_isub hx hb dX7_loadAt_46 ?_
            refine top_eq (y := nI (d - (R0 nu i))) (pk_sub (a := d) (b := R0 nu i) (by omega)) ?_
            refine lv_imul hx hb dX7_loadAt_47 ?_
            refine top_eq (y := nI ((nu 1 i) * (d - (R0 nu i)))) (pk_mul _ _) ?_
            refine lv_goto (tgt := 52) hx hb dX7_loadAt_48 (by decide) ?_
            refine lv_iadd hx hb dX7_loadAt_52 ?_
            refine top_eq (y := nI (x + ((nu 1 i) * (d - (R0 nu i))))) (nI_add _ _) ?_
            refine lv_istore_n (lv' := [(2, .int (nI (x + ((nu 1 i) * (d - (R0 nu i)))))), (3, .int (nI i)), (0, .ref M), (1, .int (nI d))]) hx hb dX7_loadAt_53 rfl hl (by decide) rfl (fun ls hl => ?_)
            refine lv_iinc (v := nI (i + 1)) (lv' := [(3, .int (nI (i + 1))), (2, .int (nI (x + ((nu 1 i) * (d - (R0 nu i)))))), (0, .ref M), (1, .int (nI d))]) hx hb dX7_loadAt_54 hl (k := 1) rfl (nI_add _ _) (by decide) rfl (fun ls hl => ?_)
            refine lv_goto (tgt := 4) hx hb dX7_loadAt_57 (by decide) ?_
            exact ih4 (i + 1) (x + ((nu 1 i) * (d - (R0 nu i)))) (by omega) (by first | assumption | omega) (by simp only [laN, ← hx1, if_pos c_2]) H locs ls (ST.eq S (rfl)) (lv_sub hl [0, 1, 2, 3] (rfl))
  exact loop4 _ 0 0 (Nat.lt_succ_self _) (by first | assumption | omega) (rfl) H locs ls (ST.eq S (rfl)) (lv_sub hl [0, 1, 2, 3] (rfl))

theorem inX7_rate_X7 : ∀ w ∈ wsX70, w ∈ wsX7_rate := by decide +kernel
set_option maxRecDepth 100000 in
set_option maxHeartbeats 4000000 in
theorem kX7_rate (l : Launch) (g : GG) (M : Nat) (nw : Nat) (dr : Nat) (pa : Nat) (im : Nat) (ke : Nat) (fl : Nat) (fq : Nat) (te : Nat) (ni : Nat) (re : Nat) (ma : Nat) (be : Nat) (ypa : Int32) (yfa : Int32) (yty : Int32) (yat : Int32) (yst : Int32) (yso : Int32) (yva : Int32) (yab : Int32) (ybl : Int32) (yis : Int32) (yra : Int32) (gn : Nat → Int32) (n : Nat) (ww : Nat) (nu : Nat → Nat → Nat) (nf : Nat → Int32) (ref : Nat → Int32) (x : Int32) (hn1 : 1 ≤ n) (hn : n ≤ 8) (hww : ww < 2 ^ n) (hg0 : gn 0 = nI n) (hgn : ∀ a i, a < 4 → i < n → gn (5 * i + (a + 1)) = nI (nu a i)) (hgw : ∀ i, i < n → gn (5 * i + 5) = nI (ww.testBit i).toNat) (hB : HB nu n) : KI l g yX7_rate wsX7_rate 3 74 [.ref M, .int x] [(M, ob 7 [.ref nw, .ref dr, .ref pa, .int ypa, .ref im, .ref ke, .ref fl, .ref fq, .int yfa, .ref te, .int yty, .int yat, .int yst, .int yso, .int yva, .ref ni, .ref re, .int yab, .int ybl, .int yis, .int yra, .ref ma, .ref be]), (nw, aI g 41 gn), (ni, aI g 8 nf), (re, aI g 8 ref)] (fun (r : Int32) (w' : va_W) => r = (chk1 (-1) 1000 (rateA nu n ww) x) ∧ ∃ (ab' : Int32), ∃ (bl' : Int32), ∃ (is' : Int32), ∃ (ra' : Int32), ∃ (nf' : Nat → Int32), ∃ (ref' : Nat → Int32), w' = [(M, ob 7 [.ref nw, .ref dr, .ref pa, .int ypa, .ref im, .ref ke, .ref fl, .ref fq, .int yfa, .ref te, .int yty, .int yat, .int yst, .int yso, .int yva, .ref ni, .ref re, .int ab', .int bl', .int is', .int ra', .ref ma, .ref be]), (nw, aI g 41 gn), (ni, aI g 8 nf'), (re, aI g 8 ref')]) := by
  refine kI_of (cc := cX7_rate) (maxL := 2) (by decide) rfl (Nat.le_of_ble_eq_true rfl) ?_
  intro pp ee ss mm bel mth cd A ls C S hr hl
  obtain ⟨hx, hb, hml, hown, hts⟩ := id C.1
  have hl : lv_has ls 2 [(0, .ref M), (1, .int x)] := hl
  obtain ⟨H, hH⟩ : ∃ H, H = ss.heap := ⟨_, rfl⟩
  obtain ⟨locs, hL0⟩ : ∃ L : List Loc, L = [] := ⟨_, rfl⟩
  rw [← hH, ← hL0] at S ⊢
  have hca : ∀ i, i < n → nu 2 i ≤ 30 := fun i9 h9 => (hB i9 h9).2.2.1
  have hSb : ∀ i, i < n → nu 1 i ≤ 9 := fun i9 h9 => (hB i9 h9).2.1.2
  have hTb : ∀ i, i < n → nu 3 i ≤ 99 := fun i9 h9 => (hB i9 h9).2.2.2.2
  have hRb : ∀ i, i < n → R0 nu i ≤ 240 := RC_le hn hca
  have hst : ∀ i, i < n → 1 ≤ nu 1 i ∧ nu 1 i ≤ 9 := fun i9 h9 => (hB i9 h9).2.1
  have w8 : ww < 256 := wlt hn hww
  have a8 : 2 ^ n - 1 < 256 := all_lt hn
  refine lv_iload_n hx hb dX7_rate_0 rfl (lv_at hl 1 rfl) ?_
  refine lv_iconst (v := 0) hx hb dX7_rate_1 (by decide) ?_
  refine lv_sipush (v := 999) hx hb dX7_rate_2 (by decide) ?_
  refine after_I (wc := []) (y := yX7_in) C S (va_runS (As := [.int x, .int 0, .int 999]) (rest := []) C.1 (kX7_inz l g x 999 (by first | assumption | omega) H.size) (va_cwS 3 hts gX7_rate_X7_in rfl rfl rfl (by decide +kernel) ⟨Nat.le_of_ble_eq_true rfl, Nat.le_of_ble_eq_true rfl⟩) (preS_at C S [] rfl (by decide)) rfl rfl hl.1 rfl (lv_room (Nat.le_of_ble_eq_true rfl)) dX7_rate_5 ⟨Nat.le_of_ble_eq_true rfl, Nat.le_of_ble_eq_true rfl⟩) [] [0, 1, 2, 3] rfl (wr := [(M, ob 7 [.ref nw, .ref dr, .ref pa, .int ypa, .ref im, .ref ke, .ref fl, .ref fq, .int yfa, .ref te, .int yty, .int yat, .int yst, .int yso, .int yva, .ref ni, .ref re, .int yab, .int ybl, .int yis, .int yra, .ref ma, .ref be]), (nw, aI g 41 gn), (ni, aI g 8 nf), (re, aI g 8 ref)]) rfl (by decide) (by decide) (fun r0 w0 H locs hq S => ?_)
  obtain ⟨rfl, rfl⟩ := hq
  have S : ST g A ss H locs [(M, ob 7 [.ref nw, .ref dr, .ref pa, .int ypa, .ref im, .ref ke, .ref fl, .ref fq, .int yfa, .ref te, .int yty, .int yat, .int yst, .int yso, .int yva, .ref ni, .ref re, .int yab, .int ybl, .int yis, .int yra, .ref ma, .ref be]), (nw, aI g 41 gn), (ni, aI g 8 nf), (re, aI g 8 ref)] := S
  refine br_neB (tgt := 13) hx hb dX7_rate_8 (by decide) (fun c_1 => ?_) (fun c_1 => ?_)
  · -- 8 T
    obtain ⟨p, hp, rfl⟩ := ok_ex (k := 1000) (by omega) c_1
    refine lv_aload_n hx hb dX7_rate_13 rfl (lv_at hl 0 rfl) ?_
    refine lv_aload_n hx hb dX7_rate_14 rfl (lv_at hl 0 rfl) ?_
    refine after_I (wc := [(M, ob 7 [.ref nw, .ref dr, .ref pa, .int ypa, .ref im, .ref ke, .ref fl, .ref fq, .int yfa, .ref te, .int yty, .int yat, .int yst, .int yso, .int yva, .ref ni, .ref re, .int yab, .int ybl, .int yis, .int yra, .ref ma, .ref be]), (nw, aI g 41 gn)]) (y := yX7_all) C S (va_runV (As := []) (rest := [.ref M]) C.1 (kX7_all l g M nw dr pa im ke fl fq te ni re ma be ypa yfa yty yat yst yso yva yab ybl yis yra gn n (by first | assumption | omega) (by first | assumption | omega) H.size) (cwV 0 hts gX7_rate_X7_all rfl rfl rfl (by decide +kernel) ⟨Nat.le_of_ble_eq_true rfl, Nat.le_of_ble_eq_true rfl⟩) (preV_at C S 0 rfl rfl [0, 1] rfl (by decide)) rfl rfl hl.1 rfl (lv_room (Nat.le_of_ble_eq_true rfl)) dX7_rate_15 ⟨Nat.le_of_ble_eq_true rfl, Nat.le_of_ble_eq_true rfl⟩) [0, 1] [2, 3] rfl (wr := [(ni, aI g 8 nf), (re, aI g 8 ref)]) rfl (by decide) (by decide) (fun r0 w0 H locs hq S => ?_)
    obtain ⟨rfl, rfl⟩ := hq
    have S : ST g A ss H locs [(M, ob 7 [.ref nw, .ref dr, .ref pa, .int ypa, .ref im, .ref ke, .ref fl, .ref fq, .int yfa, .ref te, .int yty, .int yat, .int yst, .int yso, .int yva, .ref ni, .ref re, .int yab, .int ybl, .int yis, .int yra, .ref ma, .ref be]), (nw, aI g 41 gn), (ni, aI g 8 nf), (re, aI g 8 ref)] := ST.sub S [2, 3, 0, 1] (by decide) rfl
    refine lv_aload_n hx hb dX7_rate_18 rfl (lv_at hl 0 rfl) ?_
    refine after_I (wc := [(M, ob 7 [.ref nw, .ref dr, .ref pa, .int ypa, .ref im, .ref ke, .ref fl, .ref fq, .int yfa, .ref te, .int yty, .int yat, .int yst, .int yso, .int yva, .ref ni, .ref re, .int yab, .int ybl, .int yis, .int yra, .ref ma, .ref be]), (nw, aI g 41 gn)]) (y := yX7_whole) C S (va_runV (As := []) (rest := [.int (nI (2 ^ n - 1)), .ref M]) C.1 (kX7_whole l g M nw dr pa im ke fl fq te ni re ma be ypa yfa yty yat yst yso yva yab ybl yis yra gn n ww (by first | assumption | omega) (by first | assumption | omega) (by first | assumption | omega) (by first | assumption | omega) H.size) (cwV 0 hts gX7_rate_X7_whole rfl rfl rfl (by decide +kernel) ⟨Nat.le_of_ble_eq_true rfl, Nat.le_of_ble_eq_true rfl⟩) (preV_at C S 0 rfl rfl [0, 1] rfl (by decide)) rfl rfl hl.1 rfl (lv_room (Nat.le_of_ble_eq_true rfl)) dX7_rate_19 ⟨Nat.le_of_ble_eq_true rfl, Nat.le_of_ble_eq_true rfl⟩) [0, 1] [2, 3] rfl (wr := [(ni, aI g 8 nf), (re, aI g 8 ref)]) rfl (by decide) (by decide) (fun r0 w0 H locs hq S => ?_)
    obtain ⟨rfl, rfl⟩ := hq
    have S : ST g A ss H locs [(M, ob 7 [.ref nw, .ref dr, .ref pa, .int ypa, .ref im, .ref ke, .ref fl, .ref fq, .int yfa, .ref te, .int yty, .int yat, .int yst, .int yso, .int yva, .ref ni, .ref re, .int yab, .int ybl, .int yis, .int yra, .ref ma, .ref be]), (nw, aI g 41 gn), (ni, aI g 8 nf), (re, aI g 8 ref)] := ST.sub S [2, 3, 0, 1] (by decide) rfl
    refine lv_iload_n hx hb dX7_rate_22 rfl (lv_at hl 1 rfl) ?_
    refine after_V (wc := [(M, ob 7 [.ref nw, .ref dr, .ref pa, .int ypa, .ref im, .ref ke, .ref fl, .ref fq, .int yfa, .ref te, .int yty, .int yat, .int yst, .int yso, .int yva, .ref ni, .ref re, .int yab, .int ybl, .int yis, .int yra, .ref ma, .ref be]), (nw, aI g 41 gn), (ni, aI g 8 nf), (re, aI g 8 ref)]) (y := yX7_bends) C S (va_runV (As := [.int (nI (2 ^ n - 1)), .int (nI ww), .int (nI p)]) (rest := []) C.1 (kX7_bends l g M nw dr pa im ke fl fq te ni re ma be ypa yfa yty yat yst yso yva yab ybl yis yra gn n nu nf ref (R0 nu) (2 ^ n - 1) ww p (by first | assumption | omega) (by first | assumption | omega) (by first | assumption | omega) (by first | assumption | omega) (by first | assumption | omega) (by omega) hww (fun j9 h9 _ => all_tb h9) (fun j9 h9 _ => RC_all hn h9) (by first | assumption | omega) (by omega) H.size) (cwV 3 hts gX7_rate_X7_bends rfl rfl rfl (by decide +kernel) ⟨Nat.le_of_ble_eq_true rfl, Nat.le_of_ble_eq_true rfl⟩) (preV_at C S 0 rfl rfl [0, 1, 2, 3] rfl (by decide)) rfl rfl hl.1 rfl (lv_room (Nat.le_of_ble_eq_true rfl)) dX7_rate_23 ⟨Nat.le_of_ble_eq_true rfl, Nat.le_of_ble_eq_true rfl⟩) [0, 1, 2, 3] [] rfl (wr := []) rfl (by decide) (by decide) (fun w0 H locs hq S => ?_)
    obtain ⟨nf1, ref1, hRe1, rfl⟩ := hq
    have S : ST g A ss H locs [(M, ob 7 [.ref nw, .ref dr, .ref pa, .int ypa, .ref im, .ref ke, .ref fl, .ref fq, .int yfa, .ref te, .int yty, .int yat, .int yst, .int yso, .int yva, .ref ni, .ref re, .int (nI (abN (nu 1) (R0 nu) ww p n)), .int (nI (beN (nu 1) (R0 nu) ww p n)), .int (bI (decide (0 < lowN (nu 1) (R0 nu) ww p n))), .int (nI ((pr (nu 1) (R0 nu) ww p n).1)), .ref ma, .ref be]), (nw, aI g 41 gn), (ni, aI g 8 nf1), (re, aI g 8 ref1)] := S
    refine lv_aload_n hx hb dX7_rate_26 rfl (lv_at hl 0 rfl) ?_
    refine top_get C S inX7_rate_X7 rfl 0 rfl 19 (by decide) (by decide +kernel) rfl rfl dX7_rate_27 ?_
    refine br_eqB (tgt := 40) hx hb dX7_rate_30 (by decide) (fun c_2 => ?_) (fun c_2 => ?_)
    · -- 30 T
      refine lv_bipush (v := (-9)) hx hb dX7_rate_40 (by decide) ?_
      exact ret_I C S hr dX7_rate_42 ⟨(Eq.trans (show _ = rateA nu n ww p by unfold rateA; rw [if_neg (of_decide_eq_false c_2)]) (chk1_ok (by omega) (by decide)).symm), (nI (abN (nu 1) (R0 nu) ww p n)), (nI (beN (nu 1) (R0 nu) ww p n)), (bI (decide (0 < lowN (nu 1) (R0 nu) ww p n))), (nI ((pr (nu 1) (R0 nu) ww p n).1)), nf1, ref1, (rfl)⟩
    · -- 30 F
      refine lv_aload_n hx hb dX7_rate_33 rfl (lv_at hl 0 rfl) ?_
      refine top_get C S inX7_rate_X7 rfl 0 rfl 20 (by decide) (by decide +kernel) rfl rfl dX7_rate_34 ?_
      refine lv_goto (tgt := 42) hx hb dX7_rate_37 (by decide) ?_
      exact ret_I C S hr dX7_rate_42 ⟨(Eq.trans (show _ = rateA nu n ww p by unfold rateA; rw [if_pos (of_decide_eq_true c_2)]) (chk1_ok (by omega) (by decide)).symm), (nI (abN (nu 1) (R0 nu) ww p n)), (nI (beN (nu 1) (R0 nu) ww p n)), (bI (decide (0 < lowN (nu 1) (R0 nu) ww p n))), (nI ((pr (nu 1) (R0 nu) ww p n).1)), nf1, ref1, (rfl)⟩
  · -- 8 F
    refine lv_iconst (v := (-1)) hx hb dX7_rate_11 (by decide) ?_
    exact ret_I C S hr dX7_rate_12 ⟨((chk1_bad c_1).symm), yab, ybl, yis, yra, nf, ref, (rfl)⟩

theorem inX7_bend_X7 : ∀ w ∈ wsX70, w ∈ wsX7_bend := by decide +kernel
set_option maxRecDepth 100000 in
set_option maxHeartbeats 4000000 in
theorem kX7_bend (l : Launch) (g : GG) (M : Nat) (nw : Nat) (dr : Nat) (pa : Nat) (im : Nat) (ke : Nat) (fl : Nat) (fq : Nat) (te : Nat) (ni : Nat) (re : Nat) (ma : Nat) (be : Nat) (ypa : Int32) (yfa : Int32) (yty : Int32) (yat : Int32) (yst : Int32) (yso : Int32) (yva : Int32) (yab : Int32) (ybl : Int32) (yis : Int32) (yra : Int32) (gn : Nat → Int32) (n : Nat) (ww : Nat) (nu : Nat → Nat → Nat) (nf : Nat → Int32) (ref : Nat → Int32) (x : Int32) (y : Int32) (hn1 : 1 ≤ n) (hn : n ≤ 8) (hww : ww < 2 ^ n) (hg0 : gn 0 = nI n) (hgn : ∀ a i, a < 4 → i < n → gn (5 * i + (a + 1)) = nI (nu a i)) (hgw : ∀ i, i < n → gn (5 * i + 5) = nI (ww.testBit i).toNat) (hB : HB nu n) : KI l g yX7_bend wsX7_bend 3 74 [.ref M, .int x, .int y] [(M, ob 7 [.ref nw, .ref dr, .ref pa, .int ypa, .ref im, .ref ke, .ref fl, .ref fq, .int yfa, .ref te, .int yty, .int yat, .int yst, .int yso, .int yva, .ref ni, .ref re, .int yab, .int ybl, .int yis, .int yra, .ref ma, .ref be]), (nw, aI g 41 gn), (ni, aI g 8 nf), (re, aI g 8 ref)] (fun (r : Int32) (w' : va_W) => r = (chk2 (-1) 1000 3 (bendA nu n ww) x y) ∧ ∃ (ab' : Int32), ∃ (bl' : Int32), ∃ (is' : Int32), ∃ (ra' : Int32), ∃ (nf' : Nat → Int32), ∃ (ref' : Nat → Int32), w' = [(M, ob 7 [.ref nw, .ref dr, .ref pa, .int ypa, .ref im, .ref ke, .ref fl, .ref fq, .int yfa, .ref te, .int yty, .int yat, .int yst, .int yso, .int yva, .ref ni, .ref re, .int ab', .int bl', .int is', .int ra', .ref ma, .ref be]), (nw, aI g 41 gn), (ni, aI g 8 nf'), (re, aI g 8 ref')]) := by
  refine kI_of (cc := cX7_bend) (maxL := 4) (by decide) rfl (Nat.le_of_ble_eq_true rfl) ?_
  intro pp ee ss mm bel mth cd A ls C S hr hl
  obtain ⟨hx, hb, hml, hown, hts⟩ := id C.1
  have hl : lv_has ls 4 [(0, .ref M), (1, .int x), (2, .int y)] := hl
  obtain ⟨H, hH⟩ : ∃ H, H = ss.heap := ⟨_, rfl⟩
  obtain ⟨locs, hL0⟩ : ∃ L : List Loc, L = [] := ⟨_, rfl⟩
  rw [← hH, ← hL0] at S ⊢
  have hca : ∀ i, i < n → nu 2 i ≤ 30 := fun i9 h9 => (hB i9 h9).2.2.1
  have hSb : ∀ i, i < n → nu 1 i ≤ 9 := fun i9 h9 => (hB i9 h9).2.1.2
  have hTb : ∀ i, i < n → nu 3 i ≤ 99 := fun i9 h9 => (hB i9 h9).2.2.2.2
  have hRb : ∀ i, i < n → R0 nu i ≤ 240 := RC_le hn hca
  have hst : ∀ i, i < n → 1 ≤ nu 1 i ∧ nu 1 i ≤ 9 := fun i9 h9 => (hB i9 h9).2.1
  have w8 : ww < 256 := wlt hn hww
  have a8 : 2 ^ n - 1 < 256 := all_lt hn
  refine lv_iload_n hx hb dX7_bend_0 rfl (lv_at hl 1 rfl) ?_
  refine lv_iconst (v := 0) hx hb dX7_bend_1 (by decide) ?_
  refine lv_sipush (v := 999) hx hb dX7_bend_2 (by decide) ?_
  refine after_I (wc := []) (y := yX7_in) C S (va_runS (As := [.int x, .int 0, .int 999]) (rest := []) C.1 (kX7_inz l g x 999 (by first | assumption | omega) H.size) (va_cwS 3 hts gX7_bend_X7_in rfl rfl rfl (by decide +kernel) ⟨Nat.le_of_ble_eq_true rfl, Nat.le_of_ble_eq_true rfl⟩) (preS_at C S [] rfl (by decide)) rfl rfl hl.1 rfl (lv_room (Nat.le_of_ble_eq_true rfl)) dX7_bend_5 ⟨Nat.le_of_ble_eq_true rfl, Nat.le_of_ble_eq_true rfl⟩) [] [0, 1, 2, 3] rfl (wr := [(M, ob 7 [.ref nw, .ref dr, .ref pa, .int ypa, .ref im, .ref ke, .ref fl, .ref fq, .int yfa, .ref te, .int yty, .int yat, .int yst, .int yso, .int yva, .ref ni, .ref re, .int yab, .int ybl, .int yis, .int yra, .ref ma, .ref be]), (nw, aI g 41 gn), (ni, aI g 8 nf), (re, aI g 8 ref)]) rfl (by decide) (by decide) (fun r0 w0 H locs hq S => ?_)
  obtain ⟨rfl, rfl⟩ := hq
  have S : ST g A ss H locs [(M, ob 7 [.ref nw, .ref dr, .ref pa, .int ypa, .ref im, .ref ke, .ref fl, .ref fq, .int yfa, .ref te, .int yty, .int yat, .int yst, .int yso, .int yva, .ref ni, .ref re, .int yab, .int ybl, .int yis, .int yra, .ref ma, .ref be]), (nw, aI g 41 gn), (ni, aI g 8 nf), (re, aI g 8 ref)] := S
  refine br_eqB (tgt := 20) hx hb dX7_bend_8 (by decide) (fun c_1 => ?_) (fun c_1 => ?_)
  · -- 8 T
    refine lv_iconst (v := (-1)) hx hb dX7_bend_20 (by decide) ?_
    exact ret_I C S hr dX7_bend_21 ⟨((chk2_bad1 c_1).symm), yab, ybl, yis, yra, nf, ref, (rfl)⟩
  · -- 8 F
    obtain ⟨p, hp, rfl⟩ := ok_ex (k := 1000) (by omega) c_1
    refine lv_iload_n hx hb dX7_bend_11 rfl (lv_at hl 2 rfl) ?_
    refine lv_iconst (v := 0) hx hb dX7_bend_12 (by decide) ?_
    refine lv_iconst (v := 2) hx hb dX7_bend_13 (by decide) ?_
    refine after_I (wc := []) (y := yX7_in) C S (va_runS (As := [.int y, .int 0, .int 2]) (rest := []) C.1 (kX7_inz l g y 2 (by first | assumption | omega) H.size) (va_cwS 3 hts gX7_bend_X7_in rfl rfl rfl (by decide +kernel) ⟨Nat.le_of_ble_eq_true rfl, Nat.le_of_ble_eq_true rfl⟩) (preS_at C S [] rfl (by decide)) rfl rfl hl.1 rfl (lv_room (Nat.le_of_ble_eq_true rfl)) dX7_bend_14 ⟨Nat.le_of_ble_eq_true rfl, Nat.le_of_ble_eq_true rfl⟩) [] [0, 1, 2, 3] rfl (wr := [(M, ob 7 [.ref nw, .ref dr, .ref pa, .int ypa, .ref im, .ref ke, .ref fl, .ref fq, .int yfa, .ref te, .int yty, .int yat, .int yst, .int yso, .int yva, .ref ni, .ref re, .int yab, .int ybl, .int yis, .int yra, .ref ma, .ref be]), (nw, aI g 41 gn), (ni, aI g 8 nf), (re, aI g 8 ref)]) rfl (by decide) (by decide) (fun r0 w0 H locs hq S => ?_)
    obtain ⟨rfl, rfl⟩ := hq
    have S : ST g A ss H locs [(M, ob 7 [.ref nw, .ref dr, .ref pa, .int ypa, .ref im, .ref ke, .ref fl, .ref fq, .int yfa, .ref te, .int yty, .int yat, .int yst, .int yso, .int yva, .ref ni, .ref re, .int yab, .int ybl, .int yis, .int yra, .ref ma, .ref be]), (nw, aI g 41 gn), (ni, aI g 8 nf), (re, aI g 8 ref)] := S
    refine br_neB (tgt := 22) hx hb dX7_bend_17 (by decide) (fun c_2 => ?_) (fun c_2 => ?_)
    · -- 17 T
      obtain ⟨w, hw, rfl⟩ := ok_ex (k := 3) (by omega) c_2
      refine lv_aload_n hx hb dX7_bend_22 rfl (lv_at hl 0 rfl) ?_
      refine lv_aload_n hx hb dX7_bend_23 rfl (lv_at hl 0 rfl) ?_
      refine after_I (wc := [(M, ob 7 [.ref nw, .ref dr, .ref pa, .int ypa, .ref im, .ref ke, .ref fl, .ref fq, .int yfa, .ref te, .int yty, .int yat, .int yst, .int yso, .int yva, .ref ni, .ref re, .int yab, .int ybl, .int yis, .int yra, .ref ma, .ref be]), (nw, aI g 41 gn)]) (y := yX7_all) C S (va_runV (As := []) (rest := [.ref M]) C.1 (kX7_all l g M nw dr pa im ke fl fq te ni re ma be ypa yfa yty yat yst yso yva yab ybl yis yra gn n (by first | assumption | omega) (by first | assumption | omega) H.size) (cwV 0 hts gX7_bend_X7_all rfl rfl rfl (by decide +kernel) ⟨Nat.le_of_ble_eq_true rfl, Nat.le_of_ble_eq_true rfl⟩) (preV_at C S 0 rfl rfl [0, 1] rfl (by decide)) rfl rfl hl.1 rfl (lv_room (Nat.le_of_ble_eq_true rfl)) dX7_bend_24 ⟨Nat.le_of_ble_eq_true rfl, Nat.le_of_ble_eq_true rfl⟩) [0, 1] [2, 3] rfl (wr := [(ni, aI g 8 nf), (re, aI g 8 ref)]) rfl (by decide) (by decide) (fun r0 w0 H locs hq S => ?_)
      obtain ⟨rfl, rfl⟩ := hq
      have S : ST g A ss H locs [(M, ob 7 [.ref nw, .ref dr, .ref pa, .int ypa, .ref im, .ref ke, .ref fl, .ref fq, .int yfa, .ref te, .int yty, .int yat, .int yst, .int yso, .int yva, .ref ni, .ref re, .int yab, .int ybl, .int yis, .int yra, .ref ma, .ref be]), (nw, aI g 41 gn), (ni, aI g 8 nf), (re, aI g 8 ref)] := ST.sub S [2, 3, 0, 1] (by decide) rfl
      refine lv_aload_n hx hb dX7_bend_27 rfl (lv_at hl 0 rfl) ?_
      refine after_I (wc := [(M, ob 7 [.ref nw, .ref dr, .ref pa, .int ypa, .ref im, .ref ke, .ref fl, .ref fq, .int yfa, .ref te, .int yty, .int yat, .int yst, .int yso, .int yva, .ref ni, .ref re, .int yab, .int ybl, .int yis, .int yra, .ref ma, .ref be]), (nw, aI g 41 gn)]) (y := yX7_whole) C S (va_runV (As := []) (rest := [.int (nI (2 ^ n - 1)), .ref M]) C.1 (kX7_whole l g M nw dr pa im ke fl fq te ni re ma be ypa yfa yty yat yst yso yva yab ybl yis yra gn n ww (by first | assumption | omega) (by first | assumption | omega) (by first | assumption | omega) (by first | assumption | omega) H.size) (cwV 0 hts gX7_bend_X7_whole rfl rfl rfl (by decide +kernel) ⟨Nat.le_of_ble_eq_true rfl, Nat.le_of_ble_eq_true rfl⟩) (preV_at C S 0 rfl rfl [0, 1] rfl (by decide)) rfl rfl hl.1 rfl (lv_room (Nat.le_of_ble_eq_true rfl)) dX7_bend_28 ⟨Nat.le_of_ble_eq_true rfl, Nat.le_of_ble_eq_true rfl⟩) [0, 1] [2, 3] rfl (wr := [(ni, aI g 8 nf), (re, aI g 8 ref)]) rfl (by decide) (by decide) (fun r0 w0 H locs hq S => ?_)
      obtain ⟨rfl, rfl⟩ := hq
      have S : ST g A ss H locs [(M, ob 7 [.ref nw, .ref dr, .ref pa, .int ypa, .ref im, .ref ke, .ref fl, .ref fq, .int yfa, .ref te, .int yty, .int yat, .int yst, .int yso, .int yva, .ref ni, .ref re, .int yab, .int ybl, .int yis, .int yra, .ref ma, .ref be]), (nw, aI g 41 gn), (ni, aI g 8 nf), (re, aI g 8 ref)] := ST.sub S [2, 3, 0, 1] (by decide) rfl
      refine lv_iload_n hx hb dX7_bend_31 rfl (lv_at hl 1 rfl) ?_
      refine after_V (wc := [(M, ob 7 [.ref nw, .ref dr, .ref pa, .int ypa, .ref im, .ref ke, .ref fl, .ref fq, .int yfa, .ref te, .int yty, .int yat, .int yst, .int yso, .int yva, .ref ni, .ref re, .int yab, .int ybl, .int yis, .int yra, .ref ma, .ref be]), (nw, aI g 41 gn), (ni, aI g 8 nf), (re, aI g 8 ref)]) (y := yX7_bends) C S (va_runV (As := [.int (nI (2 ^ n - 1)), .int (nI ww), .int (nI p)]) (rest := []) C.1 (kX7_bends l g M nw dr pa im ke fl fq te ni re ma be ypa yfa yty yat yst yso yva yab ybl yis yra gn n nu nf ref (R0 nu) (2 ^ n - 1) ww p (by first | assumption | omega) (by first | assumption | omega) (by first | assumption | omega) (by first | assumption | omega) (by first | assumption | omega) (by omega) hww (fun j9 h9 _ => all_tb h9) (fun j9 h9 _ => RC_all hn h9) (by first | assumption | omega) (by omega) H.size) (cwV 3 hts gX7_bend_X7_bends rfl rfl rfl (by decide +kernel) ⟨Nat.le_of_ble_eq_true rfl, Nat.le_of_ble_eq_true rfl⟩) (preV_at C S 0 rfl rfl [0, 1, 2, 3] rfl (by decide)) rfl rfl hl.1 rfl (lv_room (Nat.le_of_ble_eq_true rfl)) dX7_bend_32 ⟨Nat.le_of_ble_eq_true rfl, Nat.le_of_ble_eq_true rfl⟩) [0, 1, 2, 3] [] rfl (wr := []) rfl (by decide) (by decide) (fun w0 H locs hq S => ?_)
      obtain ⟨nf1, ref1, hRe1, rfl⟩ := hq
      have S : ST g A ss H locs [(M, ob 7 [.ref nw, .ref dr, .ref pa, .int ypa, .ref im, .ref ke, .ref fl, .ref fq, .int yfa, .ref te, .int yty, .int yat, .int yst, .int yso, .int yva, .ref ni, .ref re, .int (nI (abN (nu 1) (R0 nu) ww p n)), .int (nI (beN (nu 1) (R0 nu) ww p n)), .int (bI (decide (0 < lowN (nu 1) (R0 nu) ww p n))), .int (nI ((pr (nu 1) (R0 nu) ww p n).1)), .ref ma, .ref be]), (nw, aI g 41 gn), (ni, aI g 8 nf1), (re, aI g 8 ref1)] := S
      refine lv_aload_n hx hb dX7_bend_35 rfl (lv_at hl 0 rfl) ?_
      refine top_get C S inX7_bend_X7 rfl 0 rfl 19 (by decide) (by decide +kernel) rfl rfl dX7_bend_36 ?_
      refine br_eqB (tgt := 47) hx hb dX7_bend_39 (by decide) (fun c_3 => ?_) (fun c_3 => ?_)
      · -- 39 T
        refine lv_aload_n hx hb dX7_bend_47 rfl (lv_at hl 0 rfl) ?_
        refine after_I (wc := [(M, ob 7 [.ref nw, .ref dr, .ref pa, .int ypa, .ref im, .ref ke, .ref fl, .ref fq, .int yfa, .ref te, .int yty, .int yat, .int yst, .int yso, .int yva, .ref ni, .ref re, .int (nI (abN (nu 1) (R0 nu) ww p n)), .int (nI (beN (nu 1) (R0 nu) ww p n)), .int (bI (decide (0 < lowN (nu 1) (R0 nu) ww p n))), .int (nI ((pr (nu 1) (R0 nu) ww p n).1)), .ref ma, .ref be])]) (y := yX7_cutOf) C S (va_runV (As := []) (rest := []) C.1 (kX7_cutOf l g M nw dr pa im ke fl fq te ni re ma be ypa yfa yty yat yst yso yva (nI ((pr (nu 1) (R0 nu) ww p n).1)) (abN (nu 1) (R0 nu) ww p n) (beN (nu 1) (R0 nu) ww p n) (decide (0 < lowN (nu 1) (R0 nu) ww p n)) (by first | exact eU | exact ab_le hn (by omega) hSb hRb) (by first | exact eL | exact be_le hn hSb hRb) (fun _ => by first | exact hpos | exact be_pos) H.size) (cwV 0 hts gX7_bend_X7_cutOf rfl rfl rfl (by decide +kernel) ⟨Nat.le_of_ble_eq_true rfl, Nat.le_of_ble_eq_true rfl⟩) (preV_at C S 0 rfl rfl [0] rfl (by decide)) rfl rfl hl.1 rfl (lv_room (Nat.le_of_ble_eq_true rfl)) dX7_bend_48 ⟨Nat.le_of_ble_eq_true rfl, Nat.le_of_ble_eq_true rfl⟩) [0] [1, 2, 3] rfl (wr := [(nw, aI g 41 gn), (ni, aI g 8 nf1), (re, aI g 8 ref1)]) rfl (by decide) (by decide) (fun r0 w0 H locs hq S => ?_)
        obtain ⟨rfl, rfl⟩ := hq
        have S : ST g A ss H locs [(M, ob 7 [.ref nw, .ref dr, .ref pa, .int ypa, .ref im, .ref ke, .ref fl, .ref fq, .int yfa, .ref te, .int yty, .int yat, .int yst, .int yso, .int yva, .ref ni, .ref re, .int (nI (abN (nu 1) (R0 nu) ww p n)), .int (nI (beN (nu 1) (R0 nu) ww p n)), .int (bI (decide (0 < lowN (nu 1) (R0 nu) ww p n))), .int (nI ((pr (nu 1) (R0 nu) ww p n).1)), .ref ma, .ref be]), (nw, aI g 41 gn), (ni, aI g 8 nf1), (re, aI g 8 ref1)] := ST.sub S [3, 0, 1, 2] (by decide) rfl
        exact ret_I C S hr dX7_bend_51 ⟨(Eq.trans (show _ = bendA nu n ww p w by unfold bendA; rw [if_neg (Bool.eq_false_iff.mp c_3), if_neg (of_decide_eq_false c_3)]) (chk2_ok (i := p) (j := w) (by omega) (by omega) (by decide) (by decide)).symm), (nI (abN (nu 1) (R0 nu) ww p n)), (nI (beN (nu 1) (R0 nu) ww p n)), (bI (decide (0 < lowN (nu 1) (R0 nu) ww p n))), (nI ((pr (nu 1) (R0 nu) ww p n).1)), nf1, ref1, (rfl)⟩
      · -- 39 F
        have hpos := of_decide_eq_true c_3
        rw [(ab_eq hpos).1, (ab_eq hpos).2] at S
        have S : ST g A ss H locs [(M, ob 7 [.ref nw, .ref dr, .ref pa, .int ypa, .ref im, .ref ke, .ref fl, .ref fq, .int yfa, .ref te, .int yty, .int yat, .int yst, .int yso, .int yva, .ref ni, .ref re, .int (nI (uppN (nu 1) (R0 nu) ww p n)), .int (nI (lowN (nu 1) (R0 nu) ww p n)), .int (bI (decide (0 < lowN (nu 1) (R0 nu) ww p n))), .int (nI ((pr (nu 1) (R0 nu) ww p n).1)), .ref ma, .ref be]), (nw, aI g 41 gn), (ni, aI g 8 nf1), (re, aI g 8 ref1)] := S
        have eU : uppN (nu 1) (R0 nu) ww p n ≤ 20000 := upp_le hn (by omega) hSb hRb
        have eL : lowN (nu 1) (R0 nu) ww p n ≤ 72 := low_le hn hSb hRb
        refine lv_iload_n hx hb dX7_bend_42 rfl (lv_at hl 2 rfl) ?_
        refine lv_iconst (v := 2) hx hb dX7_bend_43 (by decide) ?_
        refine bn_ine (tgt := 52) (a := w) (b := 2) hx hb rfl rfl (by omega) (by omega) dX7_bend_44 (by decide) (fun c_4 => ?_) (fun c_4 => ?_)
        · -- 44 T
          refine lv_aload_n hx hb dX7_bend_52 rfl (lv_at hl 0 rfl) ?_
          refine top_get C S inX7_bend_X7 rfl 0 rfl 17 (by decide) (by decide +kernel) rfl rfl dX7_bend_53 ?_
          refine lv_aload_n hx hb dX7_bend_56 rfl (lv_at hl 0 rfl) ?_
          refine top_get C S inX7_bend_X7 rfl 0 rfl 18 (by decide) (by decide +kernel) rfl rfl dX7_bend_57 ?_
          refine after_I (wc := []) (y := yX7_common) C S (va_runS (As := [.int (nI (uppN (nu 1) (R0 nu) ww p n)), .int (nI (lowN (nu 1) (R0 nu) ww p n))]) (rest := []) C.1 (kX7_common l g (uppN (nu 1) (R0 nu) ww p n) (lowN (nu 1) (R0 nu) ww p n) (by omega) (by omega) H.size) (va_cwS 2 hts gX7_bend_X7_common rfl rfl rfl (by decide +kernel) ⟨Nat.le_of_ble_eq_true rfl, Nat.le_of_ble_eq_true rfl⟩) (preS_at C S [] rfl (by decide)) rfl rfl hl.1 rfl (lv_room (Nat.le_of_ble_eq_true rfl)) dX7_bend_60 ⟨Nat.le_of_ble_eq_true rfl, Nat.le_of_ble_eq_true rfl⟩) [] [0, 1, 2, 3] rfl (wr := [(M, ob 7 [.ref nw, .ref dr, .ref pa, .int ypa, .ref im, .ref ke, .ref fl, .ref fq, .int yfa, .ref te, .int yty, .int yat, .int yst, .int yso, .int yva, .ref ni, .ref re, .int (nI (uppN (nu 1) (R0 nu) ww p n)), .int (nI (lowN (nu 1) (R0 nu) ww p n)), .int (bI (decide (0 < lowN (nu 1) (R0 nu) ww p n))), .int (nI ((pr (nu 1) (R0 nu) ww p n).1)), .ref ma, .ref be]), (nw, aI g 41 gn), (ni, aI g 8 nf1), (re, aI g 8 ref1)]) rfl (by decide) (by decide) (fun r0 w0 H locs hq S => ?_)
          obtain ⟨rfl, rfl⟩ := hq
          have S : ST g A ss H locs [(M, ob 7 [.ref nw, .ref dr, .ref pa, .int ypa, .ref im, .ref ke, .ref fl, .ref fq, .int yfa, .ref te, .int yty, .int yat, .int yst, .int yso, .int yva, .ref ni, .ref re, .int (nI (uppN (nu 1) (R0 nu) ww p n)), .int (nI (lowN (nu 1) (R0 nu) ww p n)), .int (bI (decide (0 < lowN (nu 1) (R0 nu) ww p n))), .int (nI ((pr (nu 1) (R0 nu) ww p n).1)), .ref ma, .ref be]), (nw, aI g 41 gn), (ni, aI g 8 nf1), (re, aI g 8 ref1)] := S
          refine lv_istore_n (lv' := [(3, .int (nI (Nat.gcd (uppN (nu 1) (R0 nu) ww p n) (lowN (nu 1) (R0 nu) ww p n)))), (0, .ref M), (1, .int (nI p)), (2, .int (nI w))]) hx hb dX7_bend_63 rfl hl (by decide) rfl (fun ls hl => ?_)
          obtain ⟨hgp, hgl⟩ := gcd_bd (a := uppN (nu 1) (R0 nu) ww p n) (b := lowN (nu 1) (R0 nu) ww p n) hpos eL
          refine lv_iload_n hx hb dX7_bend_64 rfl (lv_at hl 3 rfl) ?_
          refine bn_zne (tgt := 77) (a := w) hx hb rfl (by omega) dX7_bend_65 (by decide) (fun c_5 => ?_) (fun c_5 => ?_)
          · -- 65 T
            refine lv_aload_n hx hb dX7_bend_77 rfl (lv_at hl 1 rfl) ?_
            refine top_get C S inX7_bend_X7 rfl 0 rfl 18 (by decide) (by decide +kernel) rfl rfl dX7_bend_78 ?_
            refine lv_iload_n hx hb dX7_bend_81 rfl (lv_at hl 0 rfl) ?_
            refine lv_idiv hx hb dX7_bend_82 (nI_ne0 (n := Nat.gcd (uppN (nu 1) (R0 nu) ww p n) (lowN (nu 1) (R0 nu) ww p n)) (by omega) (by omega)) ?_
            refine top_eq (y := nI ((lowN (nu 1) (R0 nu) ww p n) / (Nat.gcd (uppN (nu 1) (R0 nu) ww p n) (lowN (nu 1) (R0 nu) ww p n)))) (pk_div (a := lowN (nu 1) (R0 nu) ww p n) (d := Nat.gcd (uppN (nu 1) (R0 nu) ww p n) (lowN (nu 1) (R0 nu) ww p n)) (by omega) (by omega) (by omega)) ?_
            exact ret_I C S hr dX7_bend_83 ⟨(Eq.trans (show _ = bendA nu n ww p w by unfold bendA; rw [if_pos hpos, if_neg c_4, if_neg c_5, gcd_pos hpos]) (chk2_ok (i := p) (j := w) (by omega) (by omega) (by decide) (by decide)).symm), (nI (uppN (nu 1) (R0 nu) ww p n)), (nI (lowN (nu 1) (R0 nu) ww p n)), (bI (decide (0 < lowN (nu 1) (R0 nu) ww p n))), (nI ((pr (nu 1) (R0 nu) ww p n).1)), nf1, ref1, (rfl)⟩
          · -- 65 F
            refine lv_aload_n hx hb dX7_bend_68 rfl (lv_at hl 1 rfl) ?_
            refine top_get C S inX7_bend_X7 rfl 0 rfl 17 (by decide) (by decide +kernel) rfl rfl dX7_bend_69 ?_
            refine lv_iload_n hx hb dX7_bend_72 rfl (lv_at hl 0 rfl) ?_
            refine lv_idiv hx hb dX7_bend_73 (nI_ne0 (n := Nat.gcd (uppN (nu 1) (R0 nu) ww p n) (lowN (nu 1) (R0 nu) ww p n)) (by omega) (by omega)) ?_
            refine top_eq (y := nI ((uppN (nu 1) (R0 nu) ww p n) / (Nat.gcd (uppN (nu 1) (R0 nu) ww p n) (lowN (nu 1) (R0 nu) ww p n)))) (pk_div (a := uppN (nu 1) (R0 nu) ww p n) (d := Nat.gcd (uppN (nu 1) (R0 nu) ww p n) (lowN (nu 1) (R0 nu) ww p n)) (by omega) (by omega) (by omega)) ?_
            refine lv_goto (tgt := 83) hx hb dX7_bend_74 (by decide) ?_
            exact ret_I C S hr dX7_bend_83 ⟨(Eq.trans (show _ = bendA nu n ww p w by unfold bendA; rw [if_pos hpos, if_neg c_4, if_pos c_5, gcd_pos hpos]) (chk2_ok (i := p) (j := w) (by omega) (by omega) (by decide) (by decide)).symm), (nI (uppN (nu 1) (R0 nu) ww p n)), (nI (lowN (nu 1) (R0 nu) ww p n)), (bI (decide (0 < lowN (nu 1) (R0 nu) ww p n))), (nI ((pr (nu 1) (R0 nu) ww p n).1)), nf1, ref1, (rfl)⟩
        · -- 44 F
          refine lv_aload_n hx hb dX7_bend_47 rfl (lv_at hl 0 rfl) ?_
          refine after_I (wc := [(M, ob 7 [.ref nw, .ref dr, .ref pa, .int ypa, .ref im, .ref ke, .ref fl, .ref fq, .int yfa, .ref te, .int yty, .int yat, .int yst, .int yso, .int yva, .ref ni, .ref re, .int (nI (uppN (nu 1) (R0 nu) ww p n)), .int (nI (lowN (nu 1) (R0 nu) ww p n)), .int (bI (decide (0 < lowN (nu 1) (R0 nu) ww p n))), .int (nI ((pr (nu 1) (R0 nu) ww p n).1)), .ref ma, .ref be])]) (y := yX7_cutOf) C S (va_runV (As := []) (rest := []) C.1 (kX7_cutOf l g M nw dr pa im ke fl fq te ni re ma be ypa yfa yty yat yst yso yva (nI ((pr (nu 1) (R0 nu) ww p n).1)) (uppN (nu 1) (R0 nu) ww p n) (lowN (nu 1) (R0 nu) ww p n) (decide (0 < lowN (nu 1) (R0 nu) ww p n)) (by first | exact eU | exact ab_le hn (by omega) hSb hRb) (by first | exact eL | exact be_le hn hSb hRb) (fun _ => by first | exact hpos | exact be_pos) H.size) (cwV 0 hts gX7_bend_X7_cutOf rfl rfl rfl (by decide +kernel) ⟨Nat.le_of_ble_eq_true rfl, Nat.le_of_ble_eq_true rfl⟩) (preV_at C S 0 rfl rfl [0] rfl (by decide)) rfl rfl hl.1 rfl (lv_room (Nat.le_of_ble_eq_true rfl)) dX7_bend_48 ⟨Nat.le_of_ble_eq_true rfl, Nat.le_of_ble_eq_true rfl⟩) [0] [1, 2, 3] rfl (wr := [(nw, aI g 41 gn), (ni, aI g 8 nf1), (re, aI g 8 ref1)]) rfl (by decide) (by decide) (fun r0 w0 H locs hq S => ?_)
          obtain ⟨rfl, rfl⟩ := hq
          have S : ST g A ss H locs [(M, ob 7 [.ref nw, .ref dr, .ref pa, .int ypa, .ref im, .ref ke, .ref fl, .ref fq, .int yfa, .ref te, .int yty, .int yat, .int yst, .int yso, .int yva, .ref ni, .ref re, .int (nI (uppN (nu 1) (R0 nu) ww p n)), .int (nI (lowN (nu 1) (R0 nu) ww p n)), .int (bI (decide (0 < lowN (nu 1) (R0 nu) ww p n))), .int (nI ((pr (nu 1) (R0 nu) ww p n).1)), .ref ma, .ref be]), (nw, aI g 41 gn), (ni, aI g 8 nf1), (re, aI g 8 ref1)] := ST.sub S [3, 0, 1, 2] (by decide) rfl
          exact ret_I C S hr dX7_bend_51 ⟨(Eq.trans (show _ = bendA nu n ww p w by unfold bendA; rw [if_pos (decide_eq_true hpos), if_pos hpos, if_pos c_4]) (chk2_ok (i := p) (j := w) (by omega) (by omega) (by decide) (by decide)).symm), (nI (uppN (nu 1) (R0 nu) ww p n)), (nI (lowN (nu 1) (R0 nu) ww p n)), (bI (decide (0 < lowN (nu 1) (R0 nu) ww p n))), (nI ((pr (nu 1) (R0 nu) ww p n).1)), nf1, ref1, (rfl)⟩
    · -- 17 F
      refine lv_iconst (v := (-1)) hx hb dX7_bend_20 (by decide) ?_
      exact ret_I C S hr dX7_bend_21 ⟨((chk2_bad2 c_2).symm), yab, ybl, yis, yra, nf, ref, (rfl)⟩

theorem inX7_bears_X7 : ∀ w ∈ wsX70, w ∈ wsX7_bears := by decide +kernel
set_option maxRecDepth 100000 in
set_option maxHeartbeats 4000000 in
theorem kX7_bears (l : Launch) (g : GG) (M : Nat) (nw : Nat) (dr : Nat) (pa : Nat) (im : Nat) (ke : Nat) (fl : Nat) (fq : Nat) (te : Nat) (ni : Nat) (re : Nat) (ma : Nat) (be : Nat) (ypa : Int32) (yfa : Int32) (yty : Int32) (yat : Int32) (yst : Int32) (yso : Int32) (yva : Int32) (yab : Int32) (ybl : Int32) (yis : Int32) (yra : Int32) (gn : Nat → Int32) (n : Nat) (ww : Nat) (nu : Nat → Nat → Nat) (nf : Nat → Int32) (ref : Nat → Int32) (x : Int32) (y : Int32) (z : Int32) (hn1 : 1 ≤ n) (hn : n ≤ 8) (hww : ww < 2 ^ n) (hg0 : gn 0 = nI n) (hgn : ∀ a i, a < 4 → i < n → gn (5 * i + (a + 1)) = nI (nu a i)) (hgw : ∀ i, i < n → gn (5 * i + 5) = nI (ww.testBit i).toNat) (hB : HB nu n) : KI l g yX7_bears wsX7_bears 3 74 [.ref M, .int x, .int y, .int z] [(M, ob 7 [.ref nw, .ref dr, .ref pa, .int ypa, .ref im, .ref ke, .ref fl, .ref fq, .int yfa, .ref te, .int yty, .int yat, .int yst, .int yso, .int yva, .ref ni, .ref re, .int yab, .int ybl, .int yis, .int yra, .ref ma, .ref be]), (nw, aI g 41 gn), (ni, aI g 8 nf), (re, aI g 8 ref)] (fun (r : Int32) (w' : va_W) => r = (chk3 (-1) n 1000 3 (bearsA nu n ww) x y z) ∧ ∃ (ab' : Int32), ∃ (bl' : Int32), ∃ (is' : Int32), ∃ (ra' : Int32), ∃ (nf' : Nat → Int32), ∃ (ref' : Nat → Int32), w' = [(M, ob 7 [.ref nw, .ref dr, .ref pa, .int ypa, .ref im, .ref ke, .ref fl, .ref fq, .int yfa, .ref te, .int yty, .int yat, .int yst, .int yso, .int yva, .ref ni, .ref re, .int ab', .int bl', .int is', .int ra', .ref ma, .ref be]), (nw, aI g 41 gn), (ni, aI g 8 nf'), (re, aI g 8 ref')]) := by
  refine kI_of (cc := cX7_bears) (maxL := 7) (by decide) rfl (Nat.le_of_ble_eq_true rfl) ?_
  intro pp ee ss mm bel mth cd A ls C S hr hl
  obtain ⟨hx, hb, hml, hown, hts⟩ := id C.1
  have hl : lv_has ls 7 [(0, .ref M), (1, .int x), (2, .int y), (3, .int z)] := hl
  obtain ⟨H, hH⟩ : ∃ H, H = ss.heap := ⟨_, rfl⟩
  obtain ⟨locs, hL0⟩ : ∃ L : List Loc, L = [] := ⟨_, rfl⟩
  rw [← hH, ← hL0] at S ⊢
  have hca : ∀ i, i < n → nu 2 i ≤ 30 := fun i9 h9 => (hB i9 h9).2.2.1
  have hSb : ∀ i, i < n → nu 1 i ≤ 9 := fun i9 h9 => (hB i9 h9).2.1.2
  have hTb : ∀ i, i < n → nu 3 i ≤ 99 := fun i9 h9 => (hB i9 h9).2.2.2.2
  have hRb : ∀ i, i < n → R0 nu i ≤ 240 := RC_le hn hca
  have hst : ∀ i, i < n → 1 ≤ nu 1 i ∧ nu 1 i ≤ 9 := fun i9 h9 => (hB i9 h9).2.1
  have w8 : ww < 256 := wlt hn hww
  have a8 : 2 ^ n - 1 < 256 := all_lt hn
  refine lv_aload_n hx hb dX7_bears_0 rfl (lv_at hl 0 rfl) ?_
  refine lv_iload_n hx hb dX7_bears_1 rfl (lv_at hl 1 rfl) ?_
  refine after_I (wc := [(M, ob 7 [.ref nw, .ref dr, .ref pa, .int ypa, .ref im, .ref ke, .ref fl, .ref fq, .int yfa, .ref te, .int yty, .int yat, .int yst, .int yso, .int yva, .ref ni, .ref re, .int yab, .int ybl, .int yis, .int yra, .ref ma, .ref be]), (nw, aI g 41 gn)]) (y := yX7_isLeaf) C S (va_runV (As := [.int x]) (rest := []) C.1 (kX7_isLeaf l g M nw dr pa im ke fl fq te ni re ma be ypa yfa yty yat yst yso yva yab ybl yis yra gn n x (by first | assumption | omega) (by first | assumption | omega) (by first | assumption | omega) H.size) (cwV 1 hts gX7_bears_X7_isLeaf rfl rfl rfl (by decide +kernel) ⟨Nat.le_of_ble_eq_true rfl, Nat.le_of_ble_eq_true rfl⟩) (preV_at C S 0 rfl rfl [0, 1] rfl (by decide)) rfl rfl hl.1 rfl (lv_room (Nat.le_of_ble_eq_true rfl)) dX7_bears_2 ⟨Nat.le_of_ble_eq_true rfl, Nat.le_of_ble_eq_true rfl⟩) [0, 1] [2, 3] rfl (wr := [(ni, aI g 8 nf), (re, aI g 8 ref)]) rfl (by decide) (by decide) (fun r0 w0 H locs hq S => ?_)
  obtain ⟨rfl, rfl⟩ := hq
  have S : ST g A ss H locs [(M, ob 7 [.ref nw, .ref dr, .ref pa, .int ypa, .ref im, .ref ke, .ref fl, .ref fq, .int yfa, .ref te, .int yty, .int yat, .int yst, .int yso, .int yva, .ref ni, .ref re, .int yab, .int ybl, .int yis, .int yra, .ref ma, .ref be]), (nw, aI g 41 gn), (ni, aI g 8 nf), (re, aI g 8 ref)] := ST.sub S [2, 3, 0, 1] (by decide) rfl
  refine br_eqB (tgt := 28) hx hb dX7_bears_5 (by decide) (fun c_1 => ?_) (fun c_1 => ?_)
  · -- 5 T
    refine lv_iconst (v := (-1)) hx hb dX7_bears_28 (by decide) ?_
    exact ret_I C S hr dX7_bears_29 ⟨((chk3_bad1 c_1).symm), yab, ybl, yis, yra, nf, ref, (rfl)⟩
  · -- 5 F
    obtain ⟨j, hj, rfl⟩ := ok_ex (k := n) (by omega) c_1
    refine lv_iload_n hx hb dX7_bears_8 rfl (lv_at hl 2 rfl) ?_
    refine lv_iconst (v := 0) hx hb dX7_bears_9 (by decide) ?_
    refine lv_sipush (v := 999) hx hb dX7_bears_10 (by decide) ?_
    refine after_I (wc := []) (y := yX7_in) C S (va_runS (As := [.int y, .int 0, .int 999]) (rest := []) C.1 (kX7_inz l g y 999 (by first | assumption | omega) H.size) (va_cwS 3 hts gX7_bears_X7_in rfl rfl rfl (by decide +kernel) ⟨Nat.le_of_ble_eq_true rfl, Nat.le_of_ble_eq_true rfl⟩) (preS_at C S [] rfl (by decide)) rfl rfl hl.1 rfl (lv_room (Nat.le_of_ble_eq_true rfl)) dX7_bears_13 ⟨Nat.le_of_ble_eq_true rfl, Nat.le_of_ble_eq_true rfl⟩) [] [0, 1, 2, 3] rfl (wr := [(M, ob 7 [.ref nw, .ref dr, .ref pa, .int ypa, .ref im, .ref ke, .ref fl, .ref fq, .int yfa, .ref te, .int yty, .int yat, .int yst, .int yso, .int yva, .ref ni, .ref re, .int yab, .int ybl, .int yis, .int yra, .ref ma, .ref be]), (nw, aI g 41 gn), (ni, aI g 8 nf), (re, aI g 8 ref)]) rfl (by decide) (by decide) (fun r0 w0 H locs hq S => ?_)
    obtain ⟨rfl, rfl⟩ := hq
    have S : ST g A ss H locs [(M, ob 7 [.ref nw, .ref dr, .ref pa, .int ypa, .ref im, .ref ke, .ref fl, .ref fq, .int yfa, .ref te, .int yty, .int yat, .int yst, .int yso, .int yva, .ref ni, .ref re, .int yab, .int ybl, .int yis, .int yra, .ref ma, .ref be]), (nw, aI g 41 gn), (ni, aI g 8 nf), (re, aI g 8 ref)] := S
    refine br_eqB (tgt := 28) hx hb dX7_bears_16 (by decide) (fun c_2 => ?_) (fun c_2 => ?_)
    · -- 16 T
      refine lv_iconst (v := (-1)) hx hb dX7_bears_28 (by decide) ?_
      exact ret_I C S hr dX7_bears_29 ⟨((chk3_bad2 c_2).symm), yab, ybl, yis, yra, nf, ref, (rfl)⟩
    · -- 16 F
      obtain ⟨p, hp, rfl⟩ := ok_ex (k := 1000) (by omega) c_2
      refine lv_iload_n hx hb dX7_bears_19 rfl (lv_at hl 3 rfl) ?_
      refine lv_iconst (v := 0) hx hb dX7_bears_20 (by decide) ?_
      refine lv_iconst (v := 2) hx hb dX7_bears_21 (by decide) ?_
      refine after_I (wc := []) (y := yX7_in) C S (va_runS (As := [.int z, .int 0, .int 2]) (rest := []) C.1 (kX7_inz l g z 2 (by first | assumption | omega) H.size) (va_cwS 3 hts gX7_bears_X7_in rfl rfl rfl (by decide +kernel) ⟨Nat.le_of_ble_eq_true rfl, Nat.le_of_ble_eq_true rfl⟩) (preS_at C S [] rfl (by decide)) rfl rfl hl.1 rfl (lv_room (Nat.le_of_ble_eq_true rfl)) dX7_bears_22 ⟨Nat.le_of_ble_eq_true rfl, Nat.le_of_ble_eq_true rfl⟩) [] [0, 1, 2, 3] rfl (wr := [(M, ob 7 [.ref nw, .ref dr, .ref pa, .int ypa, .ref im, .ref ke, .ref fl, .ref fq, .int yfa, .ref te, .int yty, .int yat, .int yst, .int yso, .int yva, .ref ni, .ref re, .int yab, .int ybl, .int yis, .int yra, .ref ma, .ref be]), (nw, aI g 41 gn), (ni, aI g 8 nf), (re, aI g 8 ref)]) rfl (by decide) (by decide) (fun r0 w0 H locs hq S => ?_)
      obtain ⟨rfl, rfl⟩ := hq
      have S : ST g A ss H locs [(M, ob 7 [.ref nw, .ref dr, .ref pa, .int ypa, .ref im, .ref ke, .ref fl, .ref fq, .int yfa, .ref te, .int yty, .int yat, .int yst, .int yso, .int yva, .ref ni, .ref re, .int yab, .int ybl, .int yis, .int yra, .ref ma, .ref be]), (nw, aI g 41 gn), (ni, aI g 8 nf), (re, aI g 8 ref)] := S
      refine br_neB (tgt := 30) hx hb dX7_bears_25 (by decide) (fun c_3 => ?_) (fun c_3 => ?_)
      · -- 25 T
        obtain ⟨w, hw, rfl⟩ := ok_ex (k := 3) (by omega) c_3
        refine lv_aload_n hx hb dX7_bears_30 rfl (lv_at hl 0 rfl) ?_
        refine after_I (wc := [(M, ob 7 [.ref nw, .ref dr, .ref pa, .int ypa, .ref im, .ref ke, .ref fl, .ref fq, .int yfa, .ref te, .int yty, .int yat, .int yst, .int yso, .int yva, .ref ni, .ref re, .int yab, .int ybl, .int yis, .int yra, .ref ma, .ref be]), (nw, aI g 41 gn)]) (y := yX7_whole) C S (va_runV (As := []) (rest := []) C.1 (kX7_whole l g M nw dr pa im ke fl fq te ni re ma be ypa yfa yty yat yst yso yva yab ybl yis yra gn n ww (by first | assumption | omega) (by first | assumption | omega) (by first | assumption | omega) (by first | assumption | omega) H.size) (cwV 0 hts gX7_bears_X7_whole rfl rfl rfl (by decide +kernel) ⟨Nat.le_of_ble_eq_true rfl, Nat.le_of_ble_eq_true rfl⟩) (preV_at C S 0 rfl rfl [0, 1] rfl (by decide)) rfl rfl hl.1 rfl (lv_room (Nat.le_of_ble_eq_true rfl)) dX7_bears_31 ⟨Nat.le_of_ble_eq_true rfl, Nat.le_of_ble_eq_true rfl⟩) [0, 1] [2, 3] rfl (wr := [(ni, aI g 8 nf), (re, aI g 8 ref)]) rfl (by decide) (by decide) (fun r0 w0 H locs hq S => ?_)
        obtain ⟨rfl, rfl⟩ := hq
        have S : ST g A ss H locs [(M, ob 7 [.ref nw, .ref dr, .ref pa, .int ypa, .ref im, .ref ke, .ref fl, .ref fq, .int yfa, .ref te, .int yty, .int yat, .int yst, .int yso, .int yva, .ref ni, .ref re, .int yab, .int ybl, .int yis, .int yra, .ref ma, .ref be]), (nw, aI g 41 gn), (ni, aI g 8 nf), (re, aI g 8 ref)] := ST.sub S [2, 3, 0, 1] (by decide) rfl
        refine lv_istore (lv' := [(4, .int (nI ww)), (0, .ref M), (1, .int (nI j)), (2, .int (nI p)), (3, .int (nI w))]) hx hb dX7_bears_34 hl (by decide) rfl (fun ls hl => ?_)
        refine lv_aload_n hx hb dX7_bears_36 rfl (lv_at hl 1 rfl) ?_
        refine lv_aload_n hx hb dX7_bears_37 rfl (lv_at hl 1 rfl) ?_
        refine after_I (wc := [(M, ob 7 [.ref nw, .ref dr, .ref pa, .int ypa, .ref im, .ref ke, .ref fl, .ref fq, .int yfa, .ref te, .int yty, .int yat, .int yst, .int yso, .int yva, .ref ni, .ref re, .int yab, .int ybl, .int yis, .int yra, .ref ma, .ref be]), (nw, aI g 41 gn)]) (y := yX7_all) C S (va_runV (As := []) (rest := [.ref M]) C.1 (kX7_all l g M nw dr pa im ke fl fq te ni re ma be ypa yfa yty yat yst yso yva yab ybl yis yra gn n (by first | assumption | omega) (by first | assumption | omega) H.size) (cwV 0 hts gX7_bears_X7_all rfl rfl rfl (by decide +kernel) ⟨Nat.le_of_ble_eq_true rfl, Nat.le_of_ble_eq_true rfl⟩) (preV_at C S 0 rfl rfl [0, 1] rfl (by decide)) rfl rfl hl.1 rfl (lv_room (Nat.le_of_ble_eq_true rfl)) dX7_bears_38 ⟨Nat.le_of_ble_eq_true rfl, Nat.le_of_ble_eq_true rfl⟩) [0, 1] [2, 3] rfl (wr := [(ni, aI g 8 nf), (re, aI g 8 ref)]) rfl (by decide) (by decide) (fun r0 w0 H locs hq S => ?_)
        obtain ⟨rfl, rfl⟩ := hq
        have S : ST g A ss H locs [(M, ob 7 [.ref nw, .ref dr, .ref pa, .int ypa, .ref im, .ref ke, .ref fl, .ref fq, .int yfa, .ref te, .int yty, .int yat, .int yst, .int yso, .int yva, .ref ni, .ref re, .int yab, .int ybl, .int yis, .int yra, .ref ma, .ref be]), (nw, aI g 41 gn), (ni, aI g 8 nf), (re, aI g 8 ref)] := ST.sub S [2, 3, 0, 1] (by decide) rfl
        refine lv_iload hx hb dX7_bears_41 (lv_at hl 0 rfl) ?_
        refine lv_iload_n hx hb dX7_bears_43 rfl (lv_at hl 3 rfl) ?_
        refine after_V (wc := [(M, ob 7 [.ref nw, .ref dr, .ref pa, .int ypa, .ref im, .ref ke, .ref fl, .ref fq, .int yfa, .ref te, .int yty, .int yat, .int yst, .int yso, .int yva, .ref ni, .ref re, .int yab, .int ybl, .int yis, .int yra, .ref ma, .ref be]), (nw, aI g 41 gn), (ni, aI g 8 nf), (re, aI g 8 ref)]) (y := yX7_bends) C S (va_runV (As := [.int (nI (2 ^ n - 1)), .int (nI ww), .int (nI p)]) (rest := []) C.1 (kX7_bends l g M nw dr pa im ke fl fq te ni re ma be ypa yfa yty yat yst yso yva yab ybl yis yra gn n nu nf ref (R0 nu) (2 ^ n - 1) ww p (by first | assumption | omega) (by first | assumption | omega) (by first | assumption | omega) (by first | assumption | omega) (by first | assumption | omega) (by omega) hww (fun j9 h9 _ => all_tb h9) (fun j9 h9 _ => RC_all hn h9) (by first | assumption | omega) (by omega) H.size) (cwV 3 hts gX7_bears_X7_bends rfl rfl rfl (by decide +kernel) ⟨Nat.le_of_ble_eq_true rfl, Nat.le_of_ble_eq_true rfl⟩) (preV_at C S 0 rfl rfl [0, 1, 2, 3] rfl (by decide)) rfl rfl hl.1 rfl (lv_room (Nat.le_of_ble_eq_true rfl)) dX7_bears_44 ⟨Nat.le_of_ble_eq_true rfl, Nat.le_of_ble_eq_true rfl⟩) [0, 1, 2, 3] [] rfl (wr := []) rfl (by decide) (by decide) (fun w0 H locs hq S => ?_)
        obtain ⟨nf1, ref1, hRe1, rfl⟩ := hq
        have S : ST g A ss H locs [(M, ob 7 [.ref nw, .ref dr, .ref pa, .int ypa, .ref im, .ref ke, .ref fl, .ref fq, .int yfa, .ref te, .int yty, .int yat, .int yst, .int yso, .int yva, .ref ni, .ref re, .int (nI (abN (nu 1) (R0 nu) ww p n)), .int (nI (beN (nu 1) (R0 nu) ww p n)), .int (bI (decide (0 < lowN (nu 1) (R0 nu) ww p n))), .int (nI ((pr (nu 1) (R0 nu) ww p n).1)), .ref ma, .ref be]), (nw, aI g 41 gn), (ni, aI g 8 nf1), (re, aI g 8 ref1)] := S
        refine lv_aload_n hx hb dX7_bears_47 rfl (lv_at hl 1 rfl) ?_
        refine top_get C S inX7_bears_X7 rfl 0 rfl 19 (by decide) (by decide +kernel) rfl rfl dX7_bears_48 ?_
        refine br_neB (tgt := 57) hx hb dX7_bears_51 (by decide) (fun c_4 => ?_) (fun c_4 => ?_)
        · -- 51 T
          have hpos := of_decide_eq_true c_4
          rw [(ab_eq hpos).1, (ab_eq hpos).2] at S
          have S : ST g A ss H locs [(M, ob 7 [.ref nw, .ref dr, .ref pa, .int ypa, .ref im, .ref ke, .ref fl, .ref fq, .int yfa, .ref te, .int yty, .int yat, .int yst, .int yso, .int yva, .ref ni, .ref re, .int (nI (uppN (nu 1) (R0 nu) ww p n)), .int (nI (lowN (nu 1) (R0 nu) ww p n)), .int (bI (decide (0 < lowN (nu 1) (R0 nu) ww p n))), .int (nI ((pr (nu 1) (R0 nu) ww p n).1)), .ref ma, .ref be]), (nw, aI g 41 gn), (ni, aI g 8 nf1), (re, aI g 8 ref1)] := S
          have eU : uppN (nu 1) (R0 nu) ww p n ≤ 20000 := upp_le hn (by omega) hSb hRb
          have eL : lowN (nu 1) (R0 nu) ww p n ≤ 72 := low_le hn hSb hRb
          refine lv_aload_n hx hb dX7_bears_57 rfl (lv_at hl 1 rfl) ?_
          refine lv_iload hx hb dX7_bears_58 (lv_at hl 0 rfl) ?_
          refine lv_iload_n hx hb dX7_bears_60 rfl (lv_at hl 2 rfl) ?_
          refine after_I (wc := [(M, ob 7 [.ref nw, .ref dr, .ref pa, .int ypa, .ref im, .ref ke, .ref fl, .ref fq, .int yfa, .ref te, .int yty, .int yat, .int yst, .int yso, .int yva, .ref ni, .ref re, .int (nI (uppN (nu 1) (R0 nu) ww p n)), .int (nI (lowN (nu 1) (R0 nu) ww p n)), .int (bI (decide (0 < lowN (nu 1) (R0 nu) ww p n))), .int (nI ((pr (nu 1) (R0 nu) ww p n).1)), .ref ma, .ref be]), (nw, aI g 41 gn), (re, aI g 8 ref1)]) (y := yX7_bearsBy) C S (va_runV (As := [.int (nI ww), .int (nI j)]) (rest := []) C.1 (kX7_bearsBy l g M nw dr pa im ke fl fq te ni re ma be ypa yfa yty yat yst yso yva (bI (decide (0 < lowN (nu 1) (R0 nu) ww p n))) (nI ((pr (nu 1) (R0 nu) ww p n).1)) gn n nu ref1 (uppN (nu 1) (R0 nu) ww p n) (lowN (nu 1) (R0 nu) ww p n) (R0 nu) ww j (by first | assumption | omega) (by first | assumption | omega) (by first | assumption | omega) eU eL (by omega) (by first | assumption | omega) (fun _ => hRe1 j hj (all_tb hj)) (hRb j hj) H.size) (cwV 2 hts gX7_bears_X7_bearsBy rfl rfl rfl (by decide +kernel) ⟨Nat.le_of_ble_eq_true rfl, Nat.le_of_ble_eq_true rfl⟩) (preV_at C S 0 rfl rfl [0, 1, 3] rfl (by decide)) rfl rfl hl.1 rfl (lv_room (Nat.le_of_ble_eq_true rfl)) dX7_bears_61 ⟨Nat.le_of_ble_eq_true rfl, Nat.le_of_ble_eq_true rfl⟩) [0, 1, 3] [2] rfl (wr := [(ni, aI g 8 nf1)]) rfl (by decide) (by decide) (fun r0 w0 H locs hq S => ?_)
          obtain ⟨rfl, rfl⟩ := hq
          have S : ST g A ss H locs [(M, ob 7 [.ref nw, .ref dr, .ref pa, .int ypa, .ref im, .ref ke, .ref fl, .ref fq, .int yfa, .ref te, .int yty, .int yat, .int yst, .int yso, .int yva, .ref ni, .ref re, .int (nI (uppN (nu 1) (R0 nu) ww p n)), .int (nI (lowN (nu 1) (R0 nu) ww p n)), .int (bI (decide (0 < lowN (nu 1) (R0 nu) ww p n))), .int (nI ((pr (nu 1) (R0 nu) ww p n).1)), .ref ma, .ref be]), (nw, aI g 41 gn), (ni, aI g 8 nf1), (re, aI g 8 ref1)] := ST.sub S [1, 2, 0, 3] (by decide) rfl
          refine lv_istore (lv' := [(5, .int (nI (boN (nu 1) (R0 nu) ww (uppN (nu 1) (R0 nu) ww p n) (lowN (nu 1) (R0 nu) ww p n) j))), (4, .int (nI ww)), (0, .ref M), (1, .int (nI j)), (2, .int (nI p)), (3, .int (nI w))]) hx hb dX7_bears_64 hl (by decide) rfl (fun ls hl => ?_)
          have eB : boN (nu 1) (R0 nu) ww (uppN (nu 1) (R0 nu) ww p n) (lowN (nu 1) (R0 nu) ww p n) j ≤ 180000 := bo_le eU (hSb j hj)
          have eT : nu 3 j * lowN (nu 1) (R0 nu) ww p n ≤ 99 * 72 := Nat.mul_le_mul (hTb j hj) eL
          refine lv_iload_n hx hb dX7_bears_66 rfl (lv_at hl 5 rfl) ?_
          refine lv_iconst (v := 2) hx hb dX7_bears_67 (by decide) ?_
          refine bn_ine (tgt := 93) (a := w) (b := 2) hx hb rfl rfl (by omega) (by omega) dX7_bears_68 (by decide) (fun c_5 => ?_) (fun c_5 => ?_)
          · -- 68 T
            refine lv_iload hx hb dX7_bears_93 (lv_at hl 0 rfl) ?_
            refine lv_aload_n hx hb dX7_bears_95 rfl (lv_at hl 2 rfl) ?_
            refine top_get C S inX7_bears_X7 rfl 0 rfl 18 (by decide) (by decide +kernel) rfl rfl dX7_bears_96 ?_
            refine after_I (wc := []) (y := yX7_common) C S (va_runS (As := [.int (nI (boN (nu 1) (R0 nu) ww (uppN (nu 1) (R0 nu) ww p n) (lowN (nu 1) (R0 nu) ww p n) j)), .int (nI (lowN (nu 1) (R0 nu) ww p n))]) (rest := []) C.1 (kX7_common l g (boN (nu 1) (R0 nu) ww (uppN (nu 1) (R0 nu) ww p n) (lowN (nu 1) (R0 nu) ww p n) j) (lowN (nu 1) (R0 nu) ww p n) (by omega) (by omega) H.size) (va_cwS 2 hts gX7_bears_X7_common rfl rfl rfl (by decide +kernel) ⟨Nat.le_of_ble_eq_true rfl, Nat.le_of_ble_eq_true rfl⟩) (preS_at C S [] rfl (by decide)) rfl rfl hl.1 rfl (lv_room (Nat.le_of_ble_eq_true rfl)) dX7_bears_99 ⟨Nat.le_of_ble_eq_true rfl, Nat.le_of_ble_eq_true rfl⟩) [] [0, 1, 2, 3] rfl (wr := [(M, ob 7 [.ref nw, .ref dr, .ref pa, .int ypa, .ref im, .ref ke, .ref fl, .ref fq, .int yfa, .ref te, .int yty, .int yat, .int yst, .int yso, .int yva, .ref ni, .ref re, .int (nI (uppN (nu 1) (R0 nu) ww p n)), .int (nI (lowN (nu 1) (R0 nu) ww p n)), .int (bI (decide (0 < lowN (nu 1) (R0 nu) ww p n))), .int (nI ((pr (nu 1) (R0 nu) ww p n).1)), .ref ma, .ref be]), (nw, aI g 41 gn), (ni, aI g 8 nf1), (re, aI g 8 ref1)]) rfl (by decide) (by decide) (fun r0 w0 H locs hq S => ?_)
            obtain ⟨rfl, rfl⟩ := hq
            have S : ST g A ss H locs [(M, ob 7 [.ref nw, .ref dr, .ref pa, .int ypa, .ref im, .ref ke, .ref fl, .ref fq, .int yfa, .ref te, .int yty, .int yat, .int yst, .int yso, .int yva, .ref ni, .ref re, .int (nI (uppN (nu 1) (R0 nu) ww p n)), .int (nI (lowN (nu 1) (R0 nu) ww p n)), .int (bI (decide (0 < lowN (nu 1) (R0 nu) ww p n))), .int (nI ((pr (nu 1) (R0 nu) ww p n).1)), .ref ma, .ref be]), (nw, aI g 41 gn), (ni, aI g 8 nf1), (re, aI g 8 ref1)] := S
            refine lv_istore (lv' := [(6, .int (nI (Nat.gcd (boN (nu 1) (R0 nu) ww (uppN (nu 1) (R0 nu) ww p n) (lowN (nu 1) (R0 nu) ww p n) j) (lowN (nu 1) (R0 nu) ww p n)))), (5, .int (nI (boN (nu 1) (R0 nu) ww (uppN (nu 1) (R0 nu) ww p n) (lowN (nu 1) (R0 nu) ww p n) j))), (4, .int (nI ww)), (0, .ref M), (1, .int (nI j)), (2, .int (nI p)), (3, .int (nI w))]) hx hb dX7_bears_102 hl (by decide) rfl (fun ls hl => ?_)
            obtain ⟨hgp, hgl⟩ := gcd_bd (a := boN (nu 1) (R0 nu) ww (uppN (nu 1) (R0 nu) ww p n) (lowN (nu 1) (R0 nu) ww p n) j) (b := lowN (nu 1) (R0 nu) ww p n) hpos eL
            refine lv_iload_n hx hb dX7_bears_104 rfl (lv_at hl 6 rfl) ?_
            refine bn_zne (tgt := 116) (a := w) hx hb rfl (by omega) dX7_bears_105 (by decide) (fun c_6 => ?_) (fun c_6 => ?_)
            · -- 105 T
              refine lv_aload_n hx hb dX7_bears_116 rfl (lv_at hl 3 rfl) ?_
              refine top_get C S inX7_bears_X7 rfl 0 rfl 18 (by decide) (by decide +kernel) rfl rfl dX7_bears_117 ?_
              refine lv_iload hx hb dX7_bears_120 (lv_at hl 0 rfl) ?_
              refine lv_idiv hx hb dX7_bears_122 (nI_ne0 (n := Nat.gcd (boN (nu 1) (R0 nu) ww (uppN (nu 1) (R0 nu) ww p n) (lowN (nu 1) (R0 nu) ww p n) j) (lowN (nu 1) (R0 nu) ww p n)) (by omega) (by omega)) ?_
              refine top_eq (y := nI ((lowN (nu 1) (R0 nu) ww p n) / (Nat.gcd (boN (nu 1) (R0 nu) ww (uppN (nu 1) (R0 nu) ww p n) (lowN (nu 1) (R0 nu) ww p n) j) (lowN (nu 1) (R0 nu) ww p n)))) (pk_div (a := lowN (nu 1) (R0 nu) ww p n) (d := Nat.gcd (boN (nu 1) (R0 nu) ww (uppN (nu 1) (R0 nu) ww p n) (lowN (nu 1) (R0 nu) ww p n) j) (lowN (nu 1) (R0 nu) ww p n)) (by omega) (by omega) (by omega)) ?_
              exact ret_I C S hr dX7_bears_123 ⟨(Eq.trans (show _ = bearsA nu n ww j p w by unfold bearsA; rw [if_pos hpos, if_neg c_5, if_neg c_6, gcd_pos hpos]) (chk3_ok (i := j) (j := p) (k := w) (by omega) (by omega) (by omega) (by omega) (by decide) (by decide)).symm), (nI (uppN (nu 1) (R0 nu) ww p n)), (nI (lowN (nu 1) (R0 nu) ww p n)), (bI (decide (0 < lowN (nu 1) (R0 nu) ww p n))), (nI ((pr (nu 1) (R0 nu) ww p n).1)), nf1, ref1, (rfl)⟩
            · -- 105 F
              refine lv_iload hx hb dX7_bears_108 (lv_at hl 1 rfl) ?_
              refine lv_iload hx hb dX7_bears_110 (lv_at hl 0 rfl) ?_
              refine lv_idiv hx hb dX7_bears_112 (nI_ne0 (n := Nat.gcd (boN (nu 1) (R0 nu) ww (uppN (nu 1) (R0 nu) ww p n) (lowN (nu 1) (R0 nu) ww p n) j) (lowN (nu 1) (R0 nu) ww p n)) (by omega) (by omega)) ?_
              refine top_eq (y := nI ((boN (nu 1) (R0 nu) ww (uppN (nu 1) (R0 nu) ww p n) (lowN (nu 1) (R0 nu) ww p n) j) / (Nat.gcd (boN (nu 1) (R0 nu) ww (uppN (nu 1) (R0 nu) ww p n) (lowN (nu 1) (R0 nu) ww p n) j) (lowN (nu 1) (R0 nu) ww p n)))) (pk_div (a := boN (nu 1) (R0 nu) ww (uppN (nu 1) (R0 nu) ww p n) (lowN (nu 1) (R0 nu) ww p n) j) (d := Nat.gcd (boN (nu 1) (R0 nu) ww (uppN (nu 1) (R0 nu) ww p n) (lowN (nu 1) (R0 nu) ww p n) j) (lowN (nu 1) (R0 nu) ww p n)) (by omega) (by omega) (by omega)) ?_
              refine lv_goto (tgt := 123) hx hb dX7_bears_113 (by decide) ?_
              exact ret_I C S hr dX7_bears_123 ⟨(Eq.trans (show _ = bearsA nu n ww j p w by unfold bearsA; rw [if_pos hpos, if_neg c_5, if_pos c_6, gcd_pos hpos]) (chk3_ok (i := j) (j := p) (k := w) (by omega) (by omega) (by omega) (by omega) (by decide) (by decide)).symm), (nI (uppN (nu 1) (R0 nu) ww p n)), (nI (lowN (nu 1) (R0 nu) ww p n)), (bI (decide (0 < lowN (nu 1) (R0 nu) ww p n))), (nI ((pr (nu 1) (R0 nu) ww p n).1)), nf1, ref1, (rfl)⟩
          · -- 68 F
            refine lv_iload hx hb dX7_bears_71 (lv_at hl 0 rfl) ?_
            refine lv_aload_n hx hb dX7_bears_73 rfl (lv_at hl 2 rfl) ?_
            refine lv_iload_n hx hb dX7_bears_74 rfl (lv_at hl 3 rfl) ?_
            refine lv_iconst (v := 4) hx hb dX7_bears_75 (by decide) ?_
            refine after_I (wc := [(M, ob 7 [.ref nw, .ref dr, .ref pa, .int ypa, .ref im, .ref ke, .ref fl, .ref fq, .int yfa, .ref te, .int yty, .int yat, .int yst, .int yso, .int yva, .ref ni, .ref re, .int (nI (uppN (nu 1) (R0 nu) ww p n)), .int (nI (lowN (nu 1) (R0 nu) ww p n)), .int (bI (decide (0 < lowN (nu 1) (R0 nu) ww p n))), .int (nI ((pr (nu 1) (R0 nu) ww p n).1)), .ref ma, .ref be]), (nw, aI g 41 gn)]) (y := yX7_of) C S (va_runV (As := [.int (nI j), .int 4]) (rest := [.int (nI (boN (nu 1) (R0 nu) ww (uppN (nu 1) (R0 nu) ww p n) (lowN (nu 1) (R0 nu) ww p n) j))]) C.1 (kX7_of l g M nw dr pa im ke fl fq te ni re ma be ypa yfa yty yat yst yso yva (nI (uppN (nu 1) (R0 nu) ww p n)) (nI (lowN (nu 1) (R0 nu) ww p n)) (bI (decide (0 < lowN (nu 1) (R0 nu) ww p n))) (nI ((pr (nu 1) (R0 nu) ww p n).1)) gn j 4 (by first | assumption | omega) (by first | assumption | omega) H.size) (cwV 2 hts gX7_bears_X7_of rfl rfl rfl (by decide +kernel) ⟨Nat.le_of_ble_eq_true rfl, Nat.le_of_ble_eq_true rfl⟩) (preV_at C S 0 rfl rfl [0, 1] rfl (by decide)) rfl rfl hl.1 rfl (lv_room (Nat.le_of_ble_eq_true rfl)) dX7_bears_76 ⟨Nat.le_of_ble_eq_true rfl, Nat.le_of_ble_eq_true rfl⟩) [0, 1] [2, 3] rfl (wr := [(ni, aI g 8 nf1), (re, aI g 8 ref1)]) rfl (by decide) (by decide) (fun r0 w0 H locs hq S => ?_)
            obtain ⟨rfl, rfl⟩ := hq
            have S : ST g A ss H locs [(M, ob 7 [.ref nw, .ref dr, .ref pa, .int ypa, .ref im, .ref ke, .ref fl, .ref fq, .int yfa, .ref te, .int yty, .int yat, .int yst, .int yso, .int yva, .ref ni, .ref re, .int (nI (uppN (nu 1) (R0 nu) ww p n)), .int (nI (lowN (nu 1) (R0 nu) ww p n)), .int (bI (decide (0 < lowN (nu 1) (R0 nu) ww p n))), .int (nI ((pr (nu 1) (R0 nu) ww p n).1)), .ref ma, .ref be]), (nw, aI g 41 gn), (ni, aI g 8 nf1), (re, aI g 8 ref1)] := ST.sub S [2, 3, 0, 1] (by decide) rfl
            refine top_eq (y := nI (nu 3 j)) (hgn 3 _ (by omega) (by omega)) ?_
            refine lv_aload_n hx hb dX7_bears_79 rfl (lv_at hl 2 rfl) ?_
            refine top_get C S inX7_bears_X7 rfl 0 rfl 18 (by decide) (by decide +kernel) rfl rfl dX7_bears_80 ?_
            refine lv_imul hx hb dX7_bears_83 ?_
            refine top_eq (y := nI ((nu 3 j) * (lowN (nu 1) (R0 nu) ww p n))) (pk_mul _ _) ?_
            refine bn_ile (tgt := 91) (a := boN (nu 1) (R0 nu) ww (uppN (nu 1) (R0 nu) ww p n) (lowN (nu 1) (R0 nu) ww p n) j) (b := (nu 3 j) * (lowN (nu 1) (R0 nu) ww p n)) hx hb rfl rfl (by omega) (by omega) dX7_bears_84 (by decide) (fun c_7 => ?_) (fun c_7 => ?_)
            · -- 84 T
              refine lv_iconst (v := 0) hx hb dX7_bears_91 (by decide) ?_
              exact ret_I C S hr dX7_bears_92 ⟨(Eq.trans (show _ = bearsA nu n ww j p w by unfold bearsA; rw [if_pos hpos, if_pos c_5, decide_eq_false (Nat.not_lt.mpr c_7)] <;> rfl) (chk3_ok (i := j) (j := p) (k := w) (by omega) (by omega) (by omega) (by omega) (by decide) (by decide)).symm), (nI (uppN (nu 1) (R0 nu) ww p n)), (nI (lowN (nu 1) (R0 nu) ww p n)), (bI (decide (0 < lowN (nu 1) (R0 nu) ww p n))), (nI ((pr (nu 1) (R0 nu) ww p n).1)), nf1, ref1, (rfl)⟩
            · -- 84 F
              refine lv_iconst (v := 1) hx hb dX7_bears_87 (by decide) ?_
              refine lv_goto (tgt := 92) hx hb dX7_bears_88 (by decide) ?_
              exact ret_I C S hr dX7_bears_92 ⟨(Eq.trans (show _ = bearsA nu n ww j p w by unfold bearsA; rw [if_pos hpos, if_pos c_5, decide_eq_true (Nat.lt_of_not_le c_7)] <;> rfl) (chk3_ok (i := j) (j := p) (k := w) (by omega) (by omega) (by omega) (by omega) (by decide) (by decide)).symm), (nI (uppN (nu 1) (R0 nu) ww p n)), (nI (lowN (nu 1) (R0 nu) ww p n)), (bI (decide (0 < lowN (nu 1) (R0 nu) ww p n))), (nI ((pr (nu 1) (R0 nu) ww p n).1)), nf1, ref1, (rfl)⟩
        · -- 51 F
          refine lv_bipush (v := (-9)) hx hb dX7_bears_54 (by decide) ?_
          exact ret_I C S hr dX7_bears_56 ⟨(Eq.trans (show _ = bearsA nu n ww j p w by unfold bearsA; rw [if_neg (of_decide_eq_false c_4)]) (chk3_ok (i := j) (j := p) (k := w) (by omega) (by omega) (by omega) (by omega) (by decide) (by decide)).symm), (nI (abN (nu 1) (R0 nu) ww p n)), (nI (beN (nu 1) (R0 nu) ww p n)), (bI (decide (0 < lowN (nu 1) (R0 nu) ww p n))), (nI ((pr (nu 1) (R0 nu) ww p n).1)), nf1, ref1, (rfl)⟩
      · -- 25 F
        refine lv_iconst (v := (-1)) hx hb dX7_bears_28 (by decide) ?_
        exact ret_I C S hr dX7_bears_29 ⟨((chk3_bad3 c_3).symm), yab, ybl, yis, yra, nf, ref, (rfl)⟩

theorem inX7_leaf_X7 : ∀ w ∈ wsX70, w ∈ wsX7_leaf := by decide +kernel
set_option maxRecDepth 100000 in
set_option maxHeartbeats 4000000 in
theorem kX7_leaf (l : Launch) (g : GG) (M : Nat) (nw : Nat) (dr : Nat) (pa : Nat) (im : Nat) (ke : Nat) (fl : Nat) (fq : Nat) (te : Nat) (ni : Nat) (re : Nat) (ma : Nat) (be : Nat) (ypa : Int32) (yfa : Int32) (yty : Int32) (yat : Int32) (yst : Int32) (yso : Int32) (yva : Int32) (yab : Int32) (ybl : Int32) (yis : Int32) (yra : Int32) (gn : Nat → Int32) (n : Nat) (ww : Nat) (nu : Nat → Nat → Nat) (nf : Nat → Int32) (ref : Nat → Int32) (x : Int32) (y : Int32) (hn1 : 1 ≤ n) (hn : n ≤ 8) (hww : ww < 2 ^ n) (hg0 : gn 0 = nI n) (hgn : ∀ a i, a < 4 → i < n → gn (5 * i + (a + 1)) = nI (nu a i)) (hgw : ∀ i, i < n → gn (5 * i + 5) = nI (ww.testBit i).toNat) (hB : HB nu n) : KI l g yX7_leaf wsX7_leaf 2 47 [.ref M, .int x, .int y] [(M, ob 7 [.ref nw, .ref dr, .ref pa, .int ypa, .ref im, .ref ke, .ref fl, .ref fq, .int yfa, .ref te, .int yty, .int yat, .int yst, .int yso, .int yva, .ref ni, .ref re, .int yab, .int ybl, .int yis, .int yra, .ref ma, .ref be]), (nw, aI g 41 gn), (ni, aI g 8 nf), (re, aI g 8 ref)] (fun (r : Int32) (w' : va_W) => r = (chk2 (-1) n 7 (leafA nu ww) x y) ∧ ∃ (nf' : Nat → Int32), ∃ (ref' : Nat → Int32), w' = [(M, ob 7 [.ref nw, .ref dr, .ref pa, .int ypa, .ref im, .ref ke, .ref fl, .ref fq, .int yfa, .ref te, .int yty, .int yat, .int yst, .int yso, .int yva, .ref ni, .ref re, .int yab, .int ybl, .int yis, .int yra, .ref ma, .ref be]), (nw, aI g 41 gn), (ni, aI g 8 nf'), (re, aI g 8 ref')]) := by
  refine kI_of (cc := cX7_leaf) (maxL := 3) (by decide) rfl (Nat.le_of_ble_eq_true rfl) ?_
  intro pp ee ss mm bel mth cd A ls C S hr hl
  obtain ⟨hx, hb, hml, hown, hts⟩ := id C.1
  have hl : lv_has ls 3 [(0, .ref M), (1, .int x), (2, .int y)] := hl
  obtain ⟨H, hH⟩ : ∃ H, H = ss.heap := ⟨_, rfl⟩
  obtain ⟨locs, hL0⟩ : ∃ L : List Loc, L = [] := ⟨_, rfl⟩
  rw [← hH, ← hL0] at S ⊢
  have hca : ∀ i, i < n → nu 2 i ≤ 30 := fun i9 h9 => (hB i9 h9).2.2.1
  have hSb : ∀ i, i < n → nu 1 i ≤ 9 := fun i9 h9 => (hB i9 h9).2.1.2
  have hTb : ∀ i, i < n → nu 3 i ≤ 99 := fun i9 h9 => (hB i9 h9).2.2.2.2
  have hRb : ∀ i, i < n → R0 nu i ≤ 240 := RC_le hn hca
  have hst : ∀ i, i < n → 1 ≤ nu 1 i ∧ nu 1 i ≤ 9 := fun i9 h9 => (hB i9 h9).2.1
  have w8 : ww < 256 := wlt hn hww
  have a8 : 2 ^ n - 1 < 256 := all_lt hn
  refine lv_aload_n hx hb dX7_leaf_0 rfl (lv_at hl 0 rfl) ?_
  refine lv_iload_n hx hb dX7_leaf_1 rfl (lv_at hl 1 rfl) ?_
  refine after_I (wc := [(M, ob 7 [.ref nw, .ref dr, .ref pa, .int ypa, .ref im, .ref ke, .ref fl, .ref fq, .int yfa, .ref te, .int yty, .int yat, .int yst, .int yso, .int yva, .ref ni, .ref re, .int yab, .int ybl, .int yis, .int yra, .ref ma, .ref be]), (nw, aI g 41 gn)]) (y := yX7_isLeaf) C S (va_runV (As := [.int x]) (rest := []) C.1 (kX7_isLeaf l g M nw dr pa im ke fl fq te ni re ma be ypa yfa yty yat yst yso yva yab ybl yis yra gn n x (by first | assumption | omega) (by first | assumption | omega) (by first | assumption | omega) H.size) (cwV 1 hts gX7_leaf_X7_isLeaf rfl rfl rfl (by decide +kernel) ⟨Nat.le_of_ble_eq_true rfl, Nat.le_of_ble_eq_true rfl⟩) (preV_at C S 0 rfl rfl [0, 1] rfl (by decide)) rfl rfl hl.1 rfl (lv_room (Nat.le_of_ble_eq_true rfl)) dX7_leaf_2 ⟨Nat.le_of_ble_eq_true rfl, Nat.le_of_ble_eq_true rfl⟩) [0, 1] [2, 3] rfl (wr := [(ni, aI g 8 nf), (re, aI g 8 ref)]) rfl (by decide) (by decide) (fun r0 w0 H locs hq S => ?_)
  obtain ⟨rfl, rfl⟩ := hq
  have S : ST g A ss H locs [(M, ob 7 [.ref nw, .ref dr, .ref pa, .int ypa, .ref im, .ref ke, .ref fl, .ref fq, .int yfa, .ref te, .int yty, .int yat, .int yst, .int yso, .int yva, .ref ni, .ref re, .int yab, .int ybl, .int yis, .int yra, .ref ma, .ref be]), (nw, aI g 41 gn), (ni, aI g 8 nf), (re, aI g 8 ref)] := ST.sub S [2, 3, 0, 1] (by decide) rfl
  refine br_eqB (tgt := 18) hx hb dX7_leaf_5 (by decide) (fun c_1 => ?_) (fun c_1 => ?_)
  · -- 5 T
    refine lv_iconst (v := (-1)) hx hb dX7_leaf_18 (by decide) ?_
    exact ret_I C S hr dX7_leaf_19 ⟨((chk2_bad1 c_1).symm), nf, ref, (rfl)⟩
  · -- 5 F
    obtain ⟨j, hj, rfl⟩ := ok_ex (k := n) (by omega) c_1
    refine lv_iload_n hx hb dX7_leaf_8 rfl (lv_at hl 2 rfl) ?_
    refine lv_iconst (v := 0) hx hb dX7_leaf_9 (by decide) ?_
    refine lv_bipush (v := 6) hx hb dX7_leaf_10 (by decide) ?_
    refine after_I (wc := []) (y := yX7_in) C S (va_runS (As := [.int y, .int 0, .int 6]) (rest := []) C.1 (kX7_inz l g y 6 (by first | assumption | omega) H.size) (va_cwS 3 hts gX7_leaf_X7_in rfl rfl rfl (by decide +kernel) ⟨Nat.le_of_ble_eq_true rfl, Nat.le_of_ble_eq_true rfl⟩) (preS_at C S [] rfl (by decide)) rfl rfl hl.1 rfl (lv_room (Nat.le_of_ble_eq_true rfl)) dX7_leaf_12 ⟨Nat.le_of_ble_eq_true rfl, Nat.le_of_ble_eq_true rfl⟩) [] [0, 1, 2, 3] rfl (wr := [(M, ob 7 [.ref nw, .ref dr, .ref pa, .int ypa, .ref im, .ref ke, .ref fl, .ref fq, .int yfa, .ref te, .int yty, .int yat, .int yst, .int yso, .int yva, .ref ni, .ref re, .int yab, .int ybl, .int yis, .int yra, .ref ma, .ref be]), (nw, aI g 41 gn), (ni, aI g 8 nf), (re, aI g 8 ref)]) rfl (by decide) (by decide) (fun r0 w0 H locs hq S => ?_)
    obtain ⟨rfl, rfl⟩ := hq
    have S : ST g A ss H locs [(M, ob 7 [.ref nw, .ref dr, .ref pa, .int ypa, .ref im, .ref ke, .ref fl, .ref fq, .int yfa, .ref te, .int yty, .int yat, .int yst, .int yso, .int yva, .ref ni, .ref re, .int yab, .int ybl, .int yis, .int yra, .ref ma, .ref be]), (nw, aI g 41 gn), (ni, aI g 8 nf), (re, aI g 8 ref)] := S
    refine br_neB (tgt := 20) hx hb dX7_leaf_15 (by decide) (fun c_2 => ?_) (fun c_2 => ?_)
    · -- 15 T
      obtain ⟨w, hw, rfl⟩ := ok_ex (k := 7) (by omega) c_2
      refine lv_aload_n hx hb dX7_leaf_20 rfl (lv_at hl 0 rfl) ?_
      refine lv_aload_n hx hb dX7_leaf_21 rfl (lv_at hl 0 rfl) ?_
      refine after_I (wc := [(M, ob 7 [.ref nw, .ref dr, .ref pa, .int ypa, .ref im, .ref ke, .ref fl, .ref fq, .int yfa, .ref te, .int yty, .int yat, .int yst, .int yso, .int yva, .ref ni, .ref re, .int yab, .int ybl, .int yis, .int yra, .ref ma, .ref be]), (nw, aI g 41 gn)]) (y := yX7_all) C S (va_runV (As := []) (rest := [.ref M]) C.1 (kX7_all l g M nw dr pa im ke fl fq te ni re ma be ypa yfa yty yat yst yso yva yab ybl yis yra gn n (by first | assumption | omega) (by first | assumption | omega) H.size) (cwV 0 hts gX7_leaf_X7_all rfl rfl rfl (by decide +kernel) ⟨Nat.le_of_ble_eq_true rfl, Nat.le_of_ble_eq_true rfl⟩) (preV_at C S 0 rfl rfl [0, 1] rfl (by decide)) rfl rfl hl.1 rfl (lv_room (Nat.le_of_ble_eq_true rfl)) dX7_leaf_22 ⟨Nat.le_of_ble_eq_true rfl, Nat.le_of_ble_eq_true rfl⟩) [0, 1] [2, 3] rfl (wr := [(ni, aI g 8 nf), (re, aI g 8 ref)]) rfl (by decide) (by decide) (fun r0 w0 H locs hq S => ?_)
      obtain ⟨rfl, rfl⟩ := hq
      have S : ST g A ss H locs [(M, ob 7 [.ref nw, .ref dr, .ref pa, .int ypa, .ref im, .ref ke, .ref fl, .ref fq, .int yfa, .ref te, .int yty, .int yat, .int yst, .int yso, .int yva, .ref ni, .ref re, .int yab, .int ybl, .int yis, .int yra, .ref ma, .ref be]), (nw, aI g 41 gn), (ni, aI g 8 nf), (re, aI g 8 ref)] := ST.sub S [2, 3, 0, 1] (by decide) rfl
      refine after_V (wc := [(M, ob 7 [.ref nw, .ref dr, .ref pa, .int ypa, .ref im, .ref ke, .ref fl, .ref fq, .int yfa, .ref te, .int yty, .int yat, .int yst, .int yso, .int yva, .ref ni, .ref re, .int yab, .int ybl, .int yis, .int yra, .ref ma, .ref be]), (nw, aI g 41 gn), (ni, aI g 8 nf), (re, aI g 8 ref)]) (y := yX7_reaches) C S (va_runV (As := [.int (nI (2 ^ n - 1))]) (rest := []) C.1 (kX7_reaches l g M nw dr pa im ke fl fq te ni re ma be ypa yfa yty yat yst yso yva yab ybl yis yra gn n nu nf ref (2 ^ n - 1) (by first | assumption | omega) (by first | assumption | omega) (by first | assumption | omega) (by omega) (by first | assumption | omega) H.size) (cwV 1 hts gX7_leaf_X7_reaches rfl rfl rfl (by decide +kernel) ⟨Nat.le_of_ble_eq_true rfl, Nat.le_of_ble_eq_true rfl⟩) (preV_at C S 0 rfl rfl [0, 1, 2, 3] rfl (by decide)) rfl rfl hl.1 rfl (lv_room (Nat.le_of_ble_eq_true rfl)) dX7_leaf_25 ⟨Nat.le_of_ble_eq_true rfl, Nat.le_of_ble_eq_true rfl⟩) [0, 1, 2, 3] [] rfl (wr := []) rfl (by decide) (by decide) (fun w0 H locs hq S => ?_)
      obtain ⟨nf1, ref1, hRe1, hNi1, rfl⟩ := hq
      have S : ST g A ss H locs [(M, ob 7 [.ref nw, .ref dr, .ref pa, .int ypa, .ref im, .ref ke, .ref fl, .ref fq, .int yfa, .ref te, .int yty, .int yat, .int yst, .int yso, .int yva, .ref ni, .ref re, .int yab, .int ybl, .int yis, .int yra, .ref ma, .ref be]), (nw, aI g 41 gn), (ni, aI g 8 nf1), (re, aI g 8 ref1)] := S
      refine lv_iload_n hx hb dX7_leaf_28 rfl (lv_at hl 2 rfl) ?_
      refine lv_iconst (v := 5) hx hb dX7_leaf_29 (by decide) ?_
      refine bn_ige (tgt := 44) (a := w) (b := 5) hx hb rfl rfl (by omega) (by omega) dX7_leaf_30 (by decide) (fun c_3 => ?_) (fun c_3 => ?_)
      · -- 30 T
        refine lv_iload_n hx hb dX7_leaf_44 rfl (lv_at hl 2 rfl) ?_
        refine lv_iconst (v := 5) hx hb dX7_leaf_45 (by decide) ?_
        refine bn_ine (tgt := 58) (a := w) (b := 5) hx hb rfl rfl (by omega) (by omega) dX7_leaf_46 (by decide) (fun c_4 => ?_) (fun c_4 => ?_)
        · -- 46 T
          refine lv_aload_n hx hb dX7_leaf_58 rfl (lv_at hl 0 rfl) ?_
          refine top_get C S inX7_leaf_X7 rfl 0 rfl 16 (by decide) (by decide +kernel) rfl rfl dX7_leaf_59 ?_
          refine lv_iload_n hx hb dX7_leaf_62 rfl (lv_at hl 1 rfl) ?_
          refine top_ild C S 3 rfl (j := j) rfl (by omega) (by decide) dX7_leaf_63 ?_
          exact ret_I C S hr dX7_leaf_64 ⟨(Eq.trans (show _ = leafA nu ww j w by rw [hRe1 j hj (all_tb hj), RC_all hn hj, show w = 6 by omega] <;> rfl) (chk2_ok (i := j) (j := w) (by omega) (by omega) (by omega) (by decide)).symm), nf1, ref1, (rfl)⟩
        · -- 46 F
          refine lv_aload_n hx hb dX7_leaf_49 rfl (lv_at hl 0 rfl) ?_
          refine top_get C S inX7_leaf_X7 rfl 0 rfl 15 (by decide) (by decide +kernel) rfl rfl dX7_leaf_50 ?_
          refine lv_iload_n hx hb dX7_leaf_53 rfl (lv_at hl 1 rfl) ?_
          refine top_ild C S 2 rfl (j := j) rfl (by omega) (by decide) dX7_leaf_54 ?_
          refine lv_goto (tgt := 64) hx hb dX7_leaf_55 (by decide) ?_
          exact ret_I C S hr dX7_leaf_64 ⟨(Eq.trans (show _ = leafA nu ww j w by rw [hNi1 j hj (all_tb hj), nip_all hj, show w = 5 by omega] <;> rfl) (chk2_ok (i := j) (j := w) (by omega) (by omega) (by omega) (by decide)).symm), nf1, ref1, (rfl)⟩
      · -- 30 F
        refine lv_aload_n hx hb dX7_leaf_33 rfl (lv_at hl 0 rfl) ?_
        refine lv_iload_n hx hb dX7_leaf_34 rfl (lv_at hl 1 rfl) ?_
        refine lv_iconst (v := 1) hx hb dX7_leaf_35 (by decide) ?_
        refine lv_iload_n hx hb dX7_leaf_36 rfl (lv_at hl 2 rfl) ?_
        refine lv_iadd hx hb dX7_leaf_37 ?_
        refine top_eq (y := nI (1 + w)) (nI_add _ _) ?_
        refine after_I (wc := [(M, ob 7 [.ref nw, .ref dr, .ref pa, .int ypa, .ref im, .ref ke, .ref fl, .ref fq, .int yfa, .ref te, .int yty, .int yat, .int yst, .int yso, .int yva, .ref ni, .ref re, .int yab, .int ybl, .int yis, .int yra, .ref ma, .ref be]), (nw, aI g 41 gn)]) (y := yX7_of) C S (va_runV (As := [.int (nI j), .int (nI (1 + w))]) (rest := []) C.1 (kX7_of l g M nw dr pa im ke fl fq te ni re ma be ypa yfa yty yat yst yso yva yab ybl yis yra gn j (1 + w) (by first | assumption | omega) (by first | assumption | omega) H.size) (cwV 2 hts gX7_leaf_X7_of rfl rfl rfl (by decide +kernel) ⟨Nat.le_of_ble_eq_true rfl, Nat.le_of_ble_eq_true rfl⟩) (preV_at C S 0 rfl rfl [0, 1] rfl (by decide)) rfl rfl hl.1 rfl (lv_room (Nat.le_of_ble_eq_true rfl)) dX7_leaf_38 ⟨Nat.le_of_ble_eq_true rfl, Nat.le_of_ble_eq_true rfl⟩) [0, 1] [2, 3] rfl (wr := [(ni, aI g 8 nf1), (re, aI g 8 ref1)]) rfl (by decide) (by decide) (fun r0 w0 H locs hq S => ?_)
        obtain ⟨rfl, rfl⟩ := hq
        have S : ST g A ss H locs [(M, ob 7 [.ref nw, .ref dr, .ref pa, .int ypa, .ref im, .ref ke, .ref fl, .ref fq, .int yfa, .ref te, .int yty, .int yat, .int yst, .int yso, .int yva, .ref ni, .ref re, .int yab, .int ybl, .int yis, .int yra, .ref ma, .ref be]), (nw, aI g 41 gn), (ni, aI g 8 nf1), (re, aI g 8 ref1)] := ST.sub S [2, 3, 0, 1] (by decide) rfl
        refine lv_goto (tgt := 64) hx hb dX7_leaf_41 (by decide) ?_
        exact ret_I C S hr dX7_leaf_64 ⟨(Eq.trans (show _ = leafA nu ww j w by exact leaf_of hgn hgw hj (by omega)) (chk2_ok (i := j) (j := w) (by omega) (by omega) (by omega) (by decide)).symm), nf1, ref1, (rfl)⟩
    · -- 15 F
      refine lv_iconst (v := (-1)) hx hb dX7_leaf_18 (by decide) ?_
      exact ret_I C S hr dX7_leaf_19 ⟨((chk2_bad2 c_2).symm), nf, ref, (rfl)⟩

theorem inX7_count_X7 : ∀ w ∈ wsX70, w ∈ wsX7_count := by decide +kernel
set_option maxRecDepth 100000 in
set_option maxHeartbeats 4000000 in
theorem kX7_count (l : Launch) (g : GG) (M : Nat) (nw : Nat) (dr : Nat) (pa : Nat) (im : Nat) (ke : Nat) (fl : Nat) (fq : Nat) (te : Nat) (ni : Nat) (re : Nat) (ma : Nat) (be : Nat) (yat : Int32) (yst : Int32) (yso : Int32) (yva : Int32) (yab : Int32) (ybl : Int32) (yis : Int32) (yra : Int32) (gn : Nat → Int32) (n : Nat) (ww : Nat) (nu : Nat → Nat → Nat) (nf : Nat → Int32) (ref : Nat → Int32) (z : Nat) (sz : Nat) (tz : Nat) (x : Int32) (hn1 : 1 ≤ n) (hn : n ≤ 8) (hww : ww < 2 ^ n) (hg0 : gn 0 = nI n) (hgn : ∀ a i, a < 4 → i < n → gn (5 * i + (a + 1)) = nI (nu a i)) (hgw : ∀ i, i < n → gn (5 * i + 5) = nI (ww.testBit i).toNat) (hB : HB nu n) : KI l g yX7_count wsX7_count 3 65 [.ref M, .int x] [(M, ob 7 [.ref nw, .ref dr, .ref pa, .int (nI z), .ref im, .ref ke, .ref fl, .ref fq, .int (nI sz), .ref te, .int (nI tz), .int yat, .int yst, .int yso, .int yva, .ref ni, .ref re, .int yab, .int ybl, .int yis, .int yra, .ref ma, .ref be]), (nw, aI g 41 gn), (ni, aI g 8 nf), (re, aI g 8 ref)] (fun (r : Int32) (w' : va_W) => r = (chk1 (-1) 8 (countA nu n ww sz tz z) x) ∧ ∃ (nf' : Nat → Int32), ∃ (ref' : Nat → Int32), w' = [(M, ob 7 [.ref nw, .ref dr, .ref pa, .int (nI z), .ref im, .ref ke, .ref fl, .ref fq, .int (nI sz), .ref te, .int (nI tz), .int yat, .int yst, .int yso, .int yva, .ref ni, .ref re, .int yab, .int ybl, .int yis, .int yra, .ref ma, .ref be]), (nw, aI g 41 gn), (ni, aI g 8 nf'), (re, aI g 8 ref')]) := by
  refine kI_of (cc := cX7_count) (maxL := 5) (by decide) rfl (Nat.le_of_ble_eq_true rfl) ?_
  intro pp ee ss mm bel mth cd A ls C S hr hl
  obtain ⟨hx, hb, hml, hown, hts⟩ := id C.1
  have hl : lv_has ls 5 [(0, .ref M), (1, .int x)] := hl
  obtain ⟨H, hH⟩ : ∃ H, H = ss.heap := ⟨_, rfl⟩
  obtain ⟨locs, hL0⟩ : ∃ L : List Loc, L = [] := ⟨_, rfl⟩
  rw [← hH, ← hL0] at S ⊢
  have hca : ∀ i, i < n → nu 2 i ≤ 30 := fun i9 h9 => (hB i9 h9).2.2.1
  have hSb : ∀ i, i < n → nu 1 i ≤ 9 := fun i9 h9 => (hB i9 h9).2.1.2
  have hTb : ∀ i, i < n → nu 3 i ≤ 99 := fun i9 h9 => (hB i9 h9).2.2.2.2
  have hRb : ∀ i, i < n → R0 nu i ≤ 240 := RC_le hn hca
  have hst : ∀ i, i < n → 1 ≤ nu 1 i ∧ nu 1 i ≤ 9 := fun i9 h9 => (hB i9 h9).2.1
  have w8 : ww < 256 := wlt hn hww
  have a8 : 2 ^ n - 1 < 256 := all_lt hn
  refine lv_iconst (v := 0) hx hb dX7_count_0 (by decide) ?_
  refine lv_istore_n (lv' := [(2, .int 0), (0, .ref M), (1, .int x)]) hx hb dX7_count_1 rfl hl (by decide) rfl (fun ls hl => ?_)
  refine lv_iconst (v := 0) hx hb dX7_count_2 (by decide) ?_
  refine lv_istore_n (lv' := [(3, .int 0), (2, .int 0), (0, .ref M), (1, .int x)]) hx hb dX7_count_3 rfl hl (by decide) rfl (fun ls hl => ?_)
  refine lv_iconst (v := 0) hx hb dX7_count_4 (by decide) ?_
  refine lv_istore (lv' := [(4, .int 0), (3, .int 0), (2, .int 0), (0, .ref M), (1, .int x)]) hx hb dX7_count_5 hl (by decide) rfl (fun ls hl => ?_)
  have loop7 : ∀ (N0 : Nat) (i : Nat) (a : Nat) (b : Nat), n - i < N0 → (i ≤ n) → (a = sumN (nu 1) ww i) → (b = sumN (nu 0) 255 i) → ∀ (H : Heap) (locs : List Loc) (ls : Array Slot), ST g A ss H locs [(M, ob 7 [.ref nw, .ref dr, .ref pa, .int (nI z), .ref im, .ref ke, .ref fl, .ref fq, .int (nI sz), .ref te, .int (nI tz), .int yat, .int yst, .int yso, .int yva, .ref ni, .ref re, .int yab, .int ybl, .int yis, .int yra, .ref ma, .ref be]), (nw, aI g 41 gn), (ni, aI g 8 nf), (re, aI g 8 ref)] → lv_has ls 5 [(4, .int (nI i)), (3, .int (nI b)), (2, .int (nI a)), (0, .ref M), (1, .int x)] → W pp l ee { frames := 3, cells := 0, slots := 0, locals := 65 } ss mm ([.ref M, .int x] : List Value).toArray bel mth cd H locs 0 0 (QI bel ([.ref M, .int x] : List Value).toArray ss g A (fun (r : Int32) (w' : va_W) => r = (chk1 (-1) 8 (countA nu n ww sz tz z) x) ∧ ∃ (nf' : Nat → Int32), ∃ (ref' : Nat → Int32), w' = [(M, ob 7 [.ref nw, .ref dr, .ref pa, .int (nI z), .ref im, .ref ke, .ref fl, .ref fq, .int (nI sz), .ref te, .int (nI tz), .int yat, .int yst, .int yso, .int yva, .ref ni, .ref re, .int yab, .int ybl, .int yis, .int yra, .ref ma, .ref be]), (nw, aI g 41 gn), (ni, aI g 8 nf'), (re, aI g 8 ref')])) (F0 mm 7 ls []) := by
    intro N0
    induction N0 with
    | zero => intro i a b hN; exact absurd hN (Nat.not_lt_zero _)
    | succ N0 ih7 =>
      intro i a b hN hi ha1 hb1 H locs ls S hl
      refine lv_iload hx hb dX7_count_7 (lv_at hl 0 rfl) ?_
      refine lv_aload_n hx hb dX7_count_9 rfl (lv_at hl 3 rfl) ?_
      refine top_get C S inX7_count_X7 rfl 0 rfl 0 (by decide) (by decide +kernel) rfl rfl dX7_count_10 ?_
      refine lv_iconst (v := 0) hx hb dX7_count_13 (by decide) ?_
      refine top_ild C S 1 rfl (j := 0) rfl (by omega) (by decide) dX7_count_14 ?_
      refine top_eq (y := nI n) hg0 ?_
      refine bn_ige (tgt := 57) (a := i) (b := n) hx hb rfl rfl (by omega) (by omega) dX7_count_15 (by decide) (fun c_1 => ?_) (fun c_1 => ?_)
      · -- 15 T
        have hin : i = n := by omega
        rw [hin] at ha1 hb1
        refine lv_iload_n hx hb dX7_count_57 rfl (lv_at hl 4 rfl) ?_
        by_cases c_2 : x = 0
        · -- case 0
          refine lv_tableIn (tgt := 104) hx hb dX7_count_58 (by rw [c_2]; decide) (by rw [c_2]; decide) (by rw [c_2]; rfl) (by decide) ?_
          subst c_2
          refine lv_aload_n hx hb dX7_count_104 rfl (lv_at hl 3 rfl) ?_
          refine top_get C S inX7_count_X7 rfl 0 rfl 0 (by decide) (by decide +kernel) rfl rfl dX7_count_105 ?_
          refine lv_iconst (v := 0) hx hb dX7_count_108 (by decide) ?_
          refine top_ild C S 1 rfl (j := 0) rfl (by omega) (by decide) dX7_count_109 ?_
          refine top_eq (y := nI n) hg0 ?_
          exact ret_I C S hr dX7_count_110 ⟨(Eq.trans (show _ = countA nu n ww sz tz z 0 from rfl) (chk1_ok (j := 0) (by omega) (by decide)).symm), nf, ref, (rfl)⟩
        by_cases c_3 : x = 1
        · -- case 1
          refine lv_tableIn (tgt := 111) hx hb dX7_count_58 (by rw [c_3]; decide) (by rw [c_3]; decide) (by rw [c_3]; rfl) (by decide) ?_
          subst c_3
          refine lv_aload_n hx hb dX7_count_111 rfl (lv_at hl 3 rfl) ?_
          refine after_I (wc := [(M, ob 7 [.ref nw, .ref dr, .ref pa, .int (nI z), .ref im, .ref ke, .ref fl, .ref fq, .int (nI sz), .ref te, .int (nI tz), .int yat, .int yst, .int yso, .int yva, .ref ni, .ref re, .int yab, .int ybl, .int yis, .int yra, .ref ma, .ref be]), (nw, aI g 41 gn)]) (y := yX7_whole) C S (va_runV (As := []) (rest := []) C.1 (kX7_whole l g M nw dr pa im ke fl fq te ni re ma be (nI z) (nI sz) (nI tz) yat yst yso yva yab ybl yis yra gn n ww (by first | assumption | omega) (by first | assumption | omega) (by first | assumption | omega) (by first | assumption | omega) H.size) (cwV 0 hts gX7_count_X7_whole rfl rfl rfl (by decide +kernel) ⟨Nat.le_of_ble_eq_true rfl, Nat.le_of_ble_eq_true rfl⟩) (preV_at C S 0 rfl rfl [0, 1] rfl (by decide)) rfl rfl hl.1 rfl (lv_room (Nat.le_of_ble_eq_true rfl)) dX7_count_112 ⟨Nat.le_of_ble_eq_true rfl, Nat.le_of_ble_eq_true rfl⟩) [0, 1] [2, 3] rfl (wr := [(ni, aI g 8 nf), (re, aI g 8 ref)]) rfl (by decide) (by decide) (fun r0 w0 H locs hq S => ?_)
          obtain ⟨rfl, rfl⟩ := hq
          have S : ST g A ss H locs [(M, ob 7 [.ref nw, .ref dr, .ref pa, .int (nI z), .ref im, .ref ke, .ref fl, .ref fq, .int (nI sz), .ref te, .int (nI tz), .int yat, .int yst, .int yso, .int yva, .ref ni, .ref re, .int yab, .int ybl, .int yis, .int yra, .ref ma, .ref be]), (nw, aI g 41 gn), (ni, aI g 8 nf), (re, aI g 8 ref)] := ST.sub S [2, 3, 0, 1] (by decide) rfl
          refine after_I (wc := []) (y := yX7_ones) C S (va_runS (As := [.int (nI ww)]) (rest := []) C.1 (kX7_ones l g ww (by first | assumption | omega) H.size) (va_cwS 1 hts gX7_count_X7_ones rfl rfl rfl (by decide +kernel) ⟨Nat.le_of_ble_eq_true rfl, Nat.le_of_ble_eq_true rfl⟩) (preS_at C S [] rfl (by decide)) rfl rfl hl.1 rfl (lv_room (Nat.le_of_ble_eq_true rfl)) dX7_count_115 ⟨Nat.le_of_ble_eq_true rfl, Nat.le_of_ble_eq_true rfl⟩) [] [0, 1, 2, 3] rfl (wr := [(M, ob 7 [.ref nw, .ref dr, .ref pa, .int (nI z), .ref im, .ref ke, .ref fl, .ref fq, .int (nI sz), .ref te, .int (nI tz), .int yat, .int yst, .int yso, .int yva, .ref ni, .ref re, .int yab, .int ybl, .int yis, .int yra, .ref ma, .ref be]), (nw, aI g 41 gn), (ni, aI g 8 nf), (re, aI g 8 ref)]) rfl (by decide) (by decide) (fun r0 w0 H locs hq S => ?_)
          obtain ⟨rfl, rfl⟩ := hq
          have S : ST g A ss H locs [(M, ob 7 [.ref nw, .ref dr, .ref pa, .int (nI z), .ref im, .ref ke, .ref fl, .ref fq, .int (nI sz), .ref te, .int (nI tz), .int yat, .int yst, .int yso, .int yva, .ref ni, .ref re, .int yab, .int ybl, .int yis, .int yra, .ref ma, .ref be]), (nw, aI g 41 gn), (ni, aI g 8 nf), (re, aI g 8 ref)] := S
          exact ret_I C S hr dX7_count_118 ⟨(Eq.trans (show _ = countA nu n ww sz tz z 1 from rfl) (chk1_ok (j := 1) (by omega) (by decide)).symm), nf, ref, (rfl)⟩
        by_cases c_4 : x = 2
        · -- case 2
          refine lv_tableIn (tgt := 119) hx hb dX7_count_58 (by rw [c_4]; decide) (by rw [c_4]; decide) (by rw [c_4]; rfl) (by decide) ?_
          subst c_4
          refine lv_iload_n hx hb dX7_count_119 rfl (lv_at hl 2 rfl) ?_
          exact ret_I C S hr dX7_count_120 ⟨(Eq.trans (show _ = countA nu n ww sz tz z 2 from (by rw [ha1]; rfl)) (chk1_ok (j := 2) (by omega) (by decide)).symm), nf, ref, (rfl)⟩
        by_cases c_5 : x = 3
        · -- case 3
          refine lv_tableIn (tgt := 121) hx hb dX7_count_58 (by rw [c_5]; decide) (by rw [c_5]; decide) (by rw [c_5]; rfl) (by decide) ?_
          subst c_5
          refine lv_iload_n hx hb dX7_count_121 rfl (lv_at hl 1 rfl) ?_
          exact ret_I C S hr dX7_count_122 ⟨(Eq.trans (show _ = countA nu n ww sz tz z 3 from (by rw [hb1]; rfl)) (chk1_ok (j := 3) (by omega) (by decide)).symm), nf, ref, (rfl)⟩
        by_cases c_6 : x = 4
        · -- case 4
          refine lv_tableIn (tgt := 123) hx hb dX7_count_58 (by rw [c_6]; decide) (by rw [c_6]; decide) (by rw [c_6]; rfl) (by decide) ?_
          subst c_6
          refine lv_aload_n hx hb dX7_count_123 rfl (lv_at hl 3 rfl) ?_
          refine lv_aload_n hx hb dX7_count_124 rfl (lv_at hl 3 rfl) ?_
          refine after_I (wc := [(M, ob 7 [.ref nw, .ref dr, .ref pa, .int (nI z), .ref im, .ref ke, .ref fl, .ref fq, .int (nI sz), .ref te, .int (nI tz), .int yat, .int yst, .int yso, .int yva, .ref ni, .ref re, .int yab, .int ybl, .int yis, .int yra, .ref ma, .ref be]), (nw, aI g 41 gn)]) (y := yX7_all) C S (va_runV (As := []) (rest := [.ref M]) C.1 (kX7_all l g M nw dr pa im ke fl fq te ni re ma be (nI z) (nI sz) (nI tz) yat yst yso yva yab ybl yis yra gn n (by first | assumption | omega) (by first | assumption | omega) H.size) (cwV 0 hts gX7_count_X7_all rfl rfl rfl (by decide +kernel) ⟨Nat.le_of_ble_eq_true rfl, Nat.le_of_ble_eq_true rfl⟩) (preV_at C S 0 rfl rfl [0, 1] rfl (by decide)) rfl rfl hl.1 rfl (lv_room (Nat.le_of_ble_eq_true rfl)) dX7_count_125 ⟨Nat.le_of_ble_eq_true rfl, Nat.le_of_ble_eq_true rfl⟩) [0, 1] [2, 3] rfl (wr := [(ni, aI g 8 nf), (re, aI g 8 ref)]) rfl (by decide) (by decide) (fun r0 w0 H locs hq S => ?_)
          obtain ⟨rfl, rfl⟩ := hq
          have S : ST g A ss H locs [(M, ob 7 [.ref nw, .ref dr, .ref pa, .int (nI z), .ref im, .ref ke, .ref fl, .ref fq, .int (nI sz), .ref te, .int (nI tz), .int yat, .int yst, .int yso, .int yva, .ref ni, .ref re, .int yab, .int ybl, .int yis, .int yra, .ref ma, .ref be]), (nw, aI g 41 gn), (ni, aI g 8 nf), (re, aI g 8 ref)] := ST.sub S [2, 3, 0, 1] (by decide) rfl
          refine after_V (wc := [(M, ob 7 [.ref nw, .ref dr, .ref pa, .int (nI z), .ref im, .ref ke, .ref fl, .ref fq, .int (nI sz), .ref te, .int (nI tz), .int yat, .int yst, .int yso, .int yva, .ref ni, .ref re, .int yab, .int ybl, .int yis, .int yra, .ref ma, .ref be]), (nw, aI g 41 gn), (ni, aI g 8 nf), (re, aI g 8 ref)]) (y := yX7_reaches) C S (va_runV (As := [.int (nI (2 ^ n - 1))]) (rest := []) C.1 (kX7_reaches l g M nw dr pa im ke fl fq te ni re ma be (nI z) (nI sz) (nI tz) yat yst yso yva yab ybl yis yra gn n nu nf ref (2 ^ n - 1) (by first | assumption | omega) (by first | assumption | omega) (by first | assumption | omega) (by omega) (by first | assumption | omega) H.size) (cwV 1 hts gX7_count_X7_reaches rfl rfl rfl (by decide +kernel) ⟨Nat.le_of_ble_eq_true rfl, Nat.le_of_ble_eq_true rfl⟩) (preV_at C S 0 rfl rfl [0, 1, 2, 3] rfl (by decide)) rfl rfl hl.1 rfl (lv_room (Nat.le_of_ble_eq_true rfl)) dX7_count_128 ⟨Nat.le_of_ble_eq_true rfl, Nat.le_of_ble_eq_true rfl⟩) [0, 1, 2, 3] [] rfl (wr := []) rfl (by decide) (by decide) (fun w0 H locs hq S => ?_)
          obtain ⟨nf1, ref1, hRe1, hNi1, rfl⟩ := hq
          have S : ST g A ss H locs [(M, ob 7 [.ref nw, .ref dr, .ref pa, .int (nI z), .ref im, .ref ke, .ref fl, .ref fq, .int (nI sz), .ref te, .int (nI tz), .int yat, .int yst, .int yso, .int yva, .ref ni, .ref re, .int yab, .int ybl, .int yis, .int yra, .ref ma, .ref be]), (nw, aI g 41 gn), (ni, aI g 8 nf1), (re, aI g 8 ref1)] := S
          refine lv_aload_n hx hb dX7_count_131 rfl (lv_at hl 3 rfl) ?_
          refine top_get C S inX7_count_X7 rfl 0 rfl 16 (by decide) (by decide +kernel) rfl rfl dX7_count_132 ?_
          refine lv_aload_n hx hb dX7_count_135 rfl (lv_at hl 3 rfl) ?_
          refine top_get C S inX7_count_X7 rfl 0 rfl 0 (by decide) (by decide +kernel) rfl rfl dX7_count_136 ?_
          refine lv_iconst (v := 0) hx hb dX7_count_139 (by decide) ?_
          refine top_ild C S 1 rfl (j := 0) rfl (by omega) (by decide) dX7_count_140 ?_
          refine top_eq (y := nI n) hg0 ?_
          refine lv_iconst (v := 1) hx hb dX7_count_141 (by decide) ?_
          refine lv_isub hx hb dX7_count_142 ?_
          refine top_eq (y := nI (n - 1)) (pk_sub (a := n) (b := 1) (by omega)) ?_
          refine top_ild C S 3 rfl (j := (n - 1)) rfl (by omega) (by decide) dX7_count_143 ?_
          exact ret_I C S hr dX7_count_144 ⟨(Eq.trans (show _ = countA nu n ww sz tz z 4 by rw [hRe1 (n - 1) (by omega) (all_tb (by omega)), RC_all hn (by omega)] <;> rfl) (chk1_ok (j := 4) (by omega) (by decide)).symm), nf1, ref1, (rfl)⟩
        by_cases c_7 : x = 5
        · -- case 5
          refine lv_tableIn (tgt := 145) hx hb dX7_count_58 (by rw [c_7]; decide) (by rw [c_7]; decide) (by rw [c_7]; rfl) (by decide) ?_
          subst c_7
          refine lv_aload_n hx hb dX7_count_145 rfl (lv_at hl 3 rfl) ?_
          refine top_get C S inX7_count_X7 rfl 0 rfl 8 (by decide) (by decide +kernel) rfl rfl dX7_count_146 ?_
          exact ret_I C S hr dX7_count_149 ⟨(Eq.trans (show _ = countA nu n ww sz tz z 5 from rfl) (chk1_ok (j := 5) (by omega) (by decide)).symm), nf, ref, (rfl)⟩
        by_cases c_8 : x = 6
        · -- case 6
          refine lv_tableIn (tgt := 150) hx hb dX7_count_58 (by rw [c_8]; decide) (by rw [c_8]; decide) (by rw [c_8]; rfl) (by decide) ?_
          subst c_8
          refine lv_aload_n hx hb dX7_count_150 rfl (lv_at hl 3 rfl) ?_
          refine top_get C S inX7_count_X7 rfl 0 rfl 10 (by decide) (by decide +kernel) rfl rfl dX7_count_151 ?_
          exact ret_I C S hr dX7_count_154 ⟨(Eq.trans (show _ = countA nu n ww sz tz z 6 from rfl) (chk1_ok (j := 6) (by omega) (by decide)).symm), nf, ref, (rfl)⟩
        by_cases c_9 : x = 7
        · -- case 7
          refine lv_tableIn (tgt := 155) hx hb dX7_count_58 (by rw [c_9]; decide) (by rw [c_9]; decide) (by rw [c_9]; rfl) (by decide) ?_
          subst c_9
          refine lv_aload_n hx hb dX7_count_155 rfl (lv_at hl 3 rfl) ?_
          refine top_get C S inX7_count_X7 rfl 0 rfl 3 (by decide) (by decide +kernel) rfl rfl dX7_count_156 ?_
          exact ret_I C S hr dX7_count_159 ⟨(Eq.trans (show _ = countA nu n ww sz tz z 7 from rfl) (chk1_ok (j := 7) (by omega) (by decide)).symm), nf, ref, (rfl)⟩
        · -- default
          refine lv_tableOut (tgt := 160) hx hb dX7_count_58 (sw_out x (hi := 7) (by decide) (fun k hk => by rcases (show k = 0 ∨ k = 1 ∨ k = 2 ∨ k = 3 ∨ k = 4 ∨ k = 5 ∨ k = 6 ∨ k = 7 by omega) with rfl | rfl | rfl | rfl | rfl | rfl | rfl | rfl <;> first | exact c_2 | exact c_3 | exact c_4 | exact c_5 | exact c_6 | exact c_7 | exact c_8 | exact c_9)) (by decide) ?_
          refine lv_iconst (v := (-1)) hx hb dX7_count_160 (by decide) ?_
          exact ret_I C S hr dX7_count_161 ⟨((chk1_bad (sw_bad (k := 7) (by decide) (fun k9 hk9 => by rcases (show k9 = 0 ∨ k9 = 1 ∨ k9 = 2 ∨ k9 = 3 ∨ k9 = 4 ∨ k9 = 5 ∨ k9 = 6 ∨ k9 = 7 by omega) with rfl | rfl | rfl | rfl | rfl | rfl | rfl | rfl <;> first | exact c_2 | exact c_3 | exact c_4 | exact c_5 | exact c_6 | exact c_7 | exact c_8 | exact c_9))).symm), nf, ref, (rfl)⟩
      · -- 15 F
        refine lv_iload_n hx hb dX7_count_18 rfl (lv_at hl 2 rfl) ?_
        refine lv_aload_n hx hb dX7_count_19 rfl (lv_at hl 3 rfl) ?_
        refine lv_iload hx hb dX7_count_20 (lv_at hl 0 rfl) ?_
        refine after_I (wc := [(M, ob 7 [.ref nw, .ref dr, .ref pa, .int (nI z), .ref im, .ref ke, .ref fl, .ref fq, .int (nI sz), .ref te, .int (nI tz), .int yat, .int yst, .int yso, .int yva, .ref ni, .ref re, .int yab, .int ybl, .int yis, .int yra, .ref ma, .ref be]), (nw, aI g 41 gn)]) (y := yX7_isWhole) C S (va_runV (As := [.int (nI i)]) (rest := [.int (nI a)]) C.1 (kX7_isWhole l g M nw dr pa im ke fl fq te ni re ma be (nI z) (nI sz) (nI tz) yat yst yso yva yab ybl yis yra gn n ww i (by first | assumption | omega) (by first | assumption | omega) (by first | assumption | omega) (by first | assumption | omega) H.size) (cwV 1 hts gX7_count_X7_isWhole rfl rfl rfl (by decide +kernel) ⟨Nat.le_of_ble_eq_true rfl, Nat.le_of_ble_eq_true rfl⟩) (preV_at C S 0 rfl rfl [0, 1] rfl (by decide)) rfl rfl hl.1 rfl (lv_room (Nat.le_of_ble_eq_true rfl)) dX7_count_22 ⟨Nat.le_of_ble_eq_true rfl, Nat.le_of_ble_eq_true rfl⟩) [0, 1] [2, 3] rfl (wr := [(ni, aI g 8 nf), (re, aI g 8 ref)]) rfl (by decide) (by decide) (fun r0 w0 H locs hq S => ?_)
        obtain ⟨rfl, rfl⟩ := hq
        have S : ST g A ss H locs [(M, ob 7 [.ref nw, .ref dr, .ref pa, .int (nI z), .ref im, .ref ke, .ref fl, .ref fq, .int (nI sz), .ref te, .int (nI tz), .int yat, .int yst, .int yso, .int yva, .ref ni, .ref re, .int yab, .int ybl, .int yis, .int yra, .ref ma, .ref be]), (nw, aI g 41 gn), (ni, aI g 8 nf), (re, aI g 8 ref)] := ST.sub S [2, 3, 0, 1] (by decide) rfl
        refine br_eqB (tgt := 38) hx hb dX7_count_25 (by decide) (fun c_10 => ?_) (fun c_10 => ?_)
        · -- 25 T
          refine lv_iconst (v := 0) hx hb dX7_count_38 (by decide) ?_
          refine lv_iadd hx hb dX7_count_39 ?_
          refine top_eq (y := nI (a + 0)) (nI_add _ _) ?_
          refine lv_istore_n (lv' := [(2, .int (nI (a + 0))), (4, .int (nI i)), (3, .int (nI b)), (0, .ref M), (1, .int x)]) hx hb dX7_count_40 rfl hl (by decide) rfl (fun ls hl => ?_)
          refine lv_iload_n hx hb dX7_count_41 rfl (lv_at hl 2 rfl) ?_
          refine lv_aload_n hx hb dX7_count_42 rfl (lv_at hl 3 rfl) ?_
          refine lv_iload hx hb dX7_count_43 (lv_at hl 1 rfl) ?_
          refine lv_iconst (v := 1) hx hb dX7_count_45 (by decide) ?_
          refine after_I (wc := [(M, ob 7 [.ref nw, .ref dr, .ref pa, .int (nI z), .ref im, .ref ke, .ref fl, .ref fq, .int (nI sz), .ref te, .int (nI tz), .int yat, .int yst, .int yso, .int yva, .ref ni, .ref re, .int yab, .int ybl, .int yis, .int yra, .ref ma, .ref be]), (nw, aI g 41 gn)]) (y := yX7_of) C S (va_runV (As := [.int (nI i), .int 1]) (rest := [.int (nI b)]) C.1 (kX7_of l g M nw dr pa im ke fl fq te ni re ma be (nI z) (nI sz) (nI tz) yat yst yso yva yab ybl yis yra gn i 1 (by first | assumption | omega) (by first | assumption | omega) H.size) (cwV 2 hts gX7_count_X7_of rfl rfl rfl (by decide +kernel) ⟨Nat.le_of_ble_eq_true rfl, Nat.le_of_ble_eq_true rfl⟩) (preV_at C S 0 rfl rfl [0, 1] rfl (by decide)) rfl rfl hl.1 rfl (lv_room (Nat.le_of_ble_eq_true rfl)) dX7_count_46 ⟨Nat.le_of_ble_eq_true rfl, Nat.le_of_ble_eq_true rfl⟩) [0, 1] [2, 3] rfl (wr := [(ni, aI g 8 nf), (re, aI g 8 ref)]) rfl (by decide) (by decide) (fun r0 w0 H locs hq S => ?_)
          obtain ⟨rfl, rfl⟩ := hq
          have S : ST g A ss H locs [(M, ob 7 [.ref nw, .ref dr, .ref pa, .int (nI z), .ref im, .ref ke, .ref fl, .ref fq, .int (nI sz), .ref te, .int (nI tz), .int yat, .int yst, .int yso, .int yva, .ref ni, .ref re, .int yab, .int ybl, .int yis, .int yra, .ref ma, .ref be]), (nw, aI g 41 gn), (ni, aI g 8 nf), (re, aI g 8 ref)] := ST.sub S [2, 3, 0, 1] (by decide) rfl
          refine top_eq (y := nI (nu 0 i)) (hgn 0 _ (by omega) (by omega)) ?_
          refine lv_iadd hx hb dX7_count_49 ?_
          refine top_eq (y := nI (b + (nu 0 i))) (nI_add _ _) ?_
          refine lv_istore_n (lv' := [(3, .int (nI (b + (nu 0 i)))), (2, .int (nI (a + 0))), (4, .int (nI i)), (0, .ref M), (1, .int x)]) hx hb dX7_count_50 rfl hl (by decide) rfl (fun ls hl => ?_)
          refine lv_iinc (v := nI (i + 1)) (lv' := [(4, .int (nI (i + 1))), (3, .int (nI (b + (nu 0 i)))), (2, .int (nI (a + 0))), (0, .ref M), (1, .int x)]) hx hb dX7_count_51 hl (k := 2) rfl (nI_add _ _) (by decide) rfl (fun ls hl => ?_)
          refine lv_goto (tgt := 7) hx hb dX7_count_54 (by decide) ?_
          exact ih7 (i + 1) (a + 0) (b + (nu 0 i)) (by omega) (by first | assumption | omega) (by simp only [sumN, ← ha1, if_neg (Bool.eq_false_iff.mp c_10), Nat.add_zero]) (by simp only [sumN, ← hb1, if_pos (tb255 (show i < 8 by omega))]) H locs ls (ST.eq S (rfl)) (lv_sub hl [0, 1, 2, 3, 4] (rfl))
        · -- 25 F
          refine lv_aload_n hx hb dX7_count_28 rfl (lv_at hl 3 rfl) ?_
          refine lv_iload hx hb dX7_count_29 (lv_at hl 0 rfl) ?_
          refine lv_iconst (v := 2) hx hb dX7_count_31 (by decide) ?_
          refine after_I (wc := [(M, ob 7 [.ref nw, .ref dr, .ref pa, .int (nI z), .ref im, .ref ke, .ref fl, .ref fq, .int (nI sz), .ref te, .int (nI tz), .int yat, .int yst, .int yso, .int yva, .ref ni, .ref re, .int yab, .int ybl, .int yis, .int yra, .ref ma, .ref be]), (nw, aI g 41 gn)]) (y := yX7_of) C S (va_runV (As := [.int (nI i), .int 2]) (rest := [.int (nI a)]) C.1 (kX7_of l g M nw dr pa im ke fl fq te ni re ma be (nI z) (nI sz) (nI tz) yat yst yso yva yab ybl yis yra gn i 2 (by first | assumption | omega) (by first | assumption | omega) H.size) (cwV 2 hts gX7_count_X7_of rfl rfl rfl (by decide +kernel) ⟨Nat.le_of_ble_eq_true rfl, Nat.le_of_ble_eq_true rfl⟩) (preV_at C S 0 rfl rfl [0, 1] rfl (by decide)) rfl rfl hl.1 rfl (lv_room (Nat.le_of_ble_eq_true rfl)) dX7_count_32 ⟨Nat.le_of_ble_eq_true rfl, Nat.le_of_ble_eq_true rfl⟩) [0, 1] [2, 3] rfl (wr := [(ni, aI g 8 nf), (re, aI g 8 ref)]) rfl (by decide) (by decide) (fun r0 w0 H locs hq S => ?_)
          obtain ⟨rfl, rfl⟩ := hq
          have S : ST g A ss H locs [(M, ob 7 [.ref nw, .ref dr, .ref pa, .int (nI z), .ref im, .ref ke, .ref fl, .ref fq, .int (nI sz), .ref te, .int (nI tz), .int yat, .int yst, .int yso, .int yva, .ref ni, .ref re, .int yab, .int ybl, .int yis, .int yra, .ref ma, .ref be]), (nw, aI g 41 gn), (ni, aI g 8 nf), (re, aI g 8 ref)] := ST.sub S [2, 3, 0, 1] (by decide) rfl
          refine top_eq (y := nI (nu 1 i)) (hgn 1 _ (by omega) (by omega)) ?_
          refine lv_goto (tgt := 39) hx hb dX7_count_35 (by decide) ?_
          refine lv_iadd hx hb dX7_count_39 ?_
          refine top_eq (y := nI (a + (nu 1 i))) (nI_add _ _) ?_
          refine lv_istore_n (lv' := [(2, .int (nI (a + (nu 1 i)))), (4, .int (nI i)), (3, .int (nI b)), (0, .ref M), (1, .int x)]) hx hb dX7_count_40 rfl hl (by decide) rfl (fun ls hl => ?_)
          refine lv_iload_n hx hb dX7_count_41 rfl (lv_at hl 2 rfl) ?_
          refine lv_aload_n hx hb dX7_count_42 rfl (lv_at hl 3 rfl) ?_
          refine lv_iload hx hb dX7_count_43 (lv_at hl 1 rfl) ?_
          refine lv_iconst (v := 1) hx hb dX7_count_45 (by decide) ?_
          refine after_I (wc := [(M, ob 7 [.ref nw, .ref dr, .ref pa, .int (nI z), .ref im, .ref ke, .ref fl, .ref fq, .int (nI sz), .ref te, .int (nI tz), .int yat, .int yst, .int yso, .int yva, .ref ni, .ref re, .int yab, .int ybl, .int yis, .int yra, .ref ma, .ref be]), (nw, aI g 41 gn)]) (y := yX7_of) C S (va_runV (As := [.int (nI i), .int 1]) (rest := [.int (nI b)]) C.1 (kX7_of l g M nw dr pa im ke fl fq te ni re ma be (nI z) (nI sz) (nI tz) yat yst yso yva yab ybl yis yra gn i 1 (by first | assumption | omega) (by first | assumption | omega) H.size) (cwV 2 hts gX7_count_X7_of rfl rfl rfl (by decide +kernel) ⟨Nat.le_of_ble_eq_true rfl, Nat.le_of_ble_eq_true rfl⟩) (preV_at C S 0 rfl rfl [0, 1] rfl (by decide)) rfl rfl hl.1 rfl (lv_room (Nat.le_of_ble_eq_true rfl)) dX7_count_46 ⟨Nat.le_of_ble_eq_true rfl, Nat.le_of_ble_eq_true rfl⟩) [0, 1] [2, 3] rfl (wr := [(ni, aI g 8 nf), (re, aI g 8 ref)]) rfl (by decide) (by decide) (fun r0 w0 H locs hq S => ?_)
          obtain ⟨rfl, rfl⟩ := hq
          have S : ST g A ss H locs [(M, ob 7 [.ref nw, .ref dr, .ref pa, .int (nI z), .ref im, .ref ke, .ref fl, .ref fq, .int (nI sz), .ref te, .int (nI tz), .int yat, .int yst, .int yso, .int yva, .ref ni, .ref re, .int yab, .int ybl, .int yis, .int yra, .ref ma, .ref be]), (nw, aI g 41 gn), (ni, aI g 8 nf), (re, aI g 8 ref)] := ST.sub S [2, 3, 0, 1] (by decide) rfl
          refine top_eq (y := nI (nu 0 i)) (hgn 0 _ (by omega) (by omega)) ?_
          refine lv_iadd hx hb dX7_count_49 ?_
          refine top_eq (y := nI (b + (nu 0 i))) (nI_add _ _) ?_
          refine lv_istore_n (lv' := [(3, .int (nI (b + (nu 0 i)))), (2, .int (nI (a + (nu 1 i)))), (4, .int (nI i)), (0, .ref M), (1, .int x)]) hx hb dX7_count_50 rfl hl (by decide) rfl (fun ls hl => ?_)
          refine lv_iinc (v := nI (i + 1)) (lv' := [(4, .int (nI (i + 1))), (3, .int (nI (b + (nu 0 i)))), (2, .int (nI (a + (nu 1 i)))), (0, .ref M), (1, .int x)]) hx hb dX7_count_51 hl (k := 2) rfl (nI_add _ _) (by decide) rfl (fun ls hl => ?_)
          refine lv_goto (tgt := 7) hx hb dX7_count_54 (by decide) ?_
          exact ih7 (i + 1) (a + (nu 1 i)) (b + (nu 0 i)) (by omega) (by first | assumption | omega) (by simp only [sumN, ← ha1, if_pos c_10, Nat.add_zero]) (by simp only [sumN, ← hb1, if_pos (tb255 (show i < 8 by omega))]) H locs ls (ST.eq S (rfl)) (lv_sub hl [0, 1, 2, 3, 4] (rfl))
  exact loop7 _ 0 0 0 (Nat.lt_succ_self _) (by first | assumption | omega) (rfl) (rfl) H locs ls (ST.eq S (rfl)) (lv_sub hl [0, 1, 2, 3, 4] (rfl))
