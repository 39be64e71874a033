theorem inX7_undoe_X7 : ∀ w ∈ wsX70, w ∈ wsX7_undo := by decide +kernel
set_option maxRecDepth 100000 in
set_option maxHeartbeats 4000000 in
theorem kX7_undoe (l : Launch) (g : GG) (M : Nat) (nw : Nat) (dr : Nat) (pa : Nat) (im : Nat) (ke : Nat) (fl : Nat) (fq : Nat) (te : Nat) (ni : Nat) (re : Nat) (ma : Nat) (be : Nat) (yfa : Int32) (yty : Int32) (yat : Int32) (yst : Int32) (yso : Int32) (yva : Int32) (yab : Int32) (ybl : Int32) (yis : Int32) (yra : Int32)  : KI l g yX7_undo wsX7_undo 0 0 [.ref M] [(M, ob 7 [.ref nw, .ref dr, .ref pa, .int (nI 0), .ref im, .ref ke, .ref fl, .ref fq, .int yfa, .ref te, .int yty, .int yat, .int yst, .int yso, .int yva, .ref ni, .ref re, .int yab, .int ybl, .int yis, .int yra, .ref ma, .ref be])] (fun (r : Int32) (w' : va_W) => r = (-2) ∧ w' = [(M, ob 7 [.ref nw, .ref dr, .ref pa, .int (nI 0), .ref im, .ref ke, .ref fl, .ref fq, .int yfa, .ref te, .int yty, .int yat, .int yst, .int yso, .int yva, .ref ni, .ref re, .int yab, .int ybl, .int yis, .int yra, .ref ma, .ref be])]) := by
  refine kI_of (cc := cX7_undo) (maxL := 2) (by decide) rfl (Nat.le_of_ble_eq_true rfl) ?_
  intro pp ee ss mm bel mth cd A ls C S hr hl
  obtain ⟨hx, hb, hml, hown, hts⟩ := id C.1
  have hl : lv_has ls 2 [(0, .ref M)] := hl
  obtain ⟨H, hH⟩ : ∃ H, H = ss.heap := ⟨_, rfl⟩
  obtain ⟨locs, hL0⟩ : ∃ L : List Loc, L = [] := ⟨_, rfl⟩
  rw [← hH, ← hL0] at S ⊢
  refine lv_aload_n hx hb dX7_undo_0 rfl (lv_at hl 0 rfl) ?_
  refine top_get C S inX7_undoe_X7 rfl 0 rfl 3 (by decide) (by decide +kernel) rfl rfl dX7_undo_1 ?_
  refine bn_zne (tgt := 10) (a := 0) hx hb rfl (by omega) dX7_undo_4 (by decide) (fun c_1 => ?_) (fun c_1 => ?_)
  · -- 4 T
    exact absurd c_1 (by decide)
  · -- 4 F
    refine lv_bipush (v := (-2)) hx hb dX7_undo_7 (by decide) ?_
    exact ret_I C S hr dX7_undo_9 ⟨(by first | rfl | simp only [if_pos c_1]), (by first | rfl | simp only [if_pos c_1])⟩

theorem inX7_undop_X7 : ∀ w ∈ wsX70, w ∈ wsX7_undo := by decide +kernel
set_option maxRecDepth 100000 in
set_option maxHeartbeats 4000000 in
theorem kX7_undop (l : Launch) (g : GG) (M : Nat) (nw : Nat) (dr : Nat) (pa : Nat) (im : Nat) (ke : Nat) (fl : Nat) (fq : Nat) (te : Nat) (ni : Nat) (re : Nat) (ma : Nat) (be : Nat) (yfa : Int32) (yty : Int32) (yat : Int32) (yst : Int32) (yso : Int32) (yva : Int32) (yab : Int32) (ybl : Int32) (yis : Int32) (yra : Int32) (z : Nat) (gn : Nat → Int32) (pf : Nat → Int32) (hz : 0 < z) (hz6 : z ≤ 6) : KI l g yX7_undo wsX7_undo 0 0 [.ref M] [(M, ob 7 [.ref nw, .ref dr, .ref pa, .int (nI z), .ref im, .ref ke, .ref fl, .ref fq, .int yfa, .ref te, .int yty, .int yat, .int yst, .int yso, .int yva, .ref ni, .ref re, .int yab, .int ybl, .int yis, .int yra, .ref ma, .ref be]), (nw, aI g 41 gn), (pa, aI g 246 pf)] (fun (r : Int32) (w' : va_W) => r = (nI (z - 1)) ∧ ∃ (gn' : Nat → Int32), (∀ t, t < 41 → gn' t = pf (41 * (z - 1) + t)) ∧ w' = [(M, ob 7 [.ref nw, .ref dr, .ref pa, .int (nI (z - 1)), .ref im, .ref ke, .ref fl, .ref fq, .int yfa, .ref te, .int yty, .int yat, .int yst, .int yso, .int yva, .ref ni, .ref re, .int yab, .int ybl, .int yis, .int yra, .ref ma, .ref be]), (nw, aI g 41 gn'), (pa, aI g 246 pf)]) := by
  refine kI_of (cc := cX7_undo) (maxL := 2) (by decide) rfl (Nat.le_of_ble_eq_true rfl) ?_
  intro pp ee ss mm bel mth cd A ls C S hr hl
  obtain ⟨hx, hb, hml, hown, hts⟩ := id C.1
  have hl : lv_has ls 2 [(0, .ref M)] := hl
  obtain ⟨H, hH⟩ : ∃ H, H = ss.heap := ⟨_, rfl⟩
  obtain ⟨locs, hL0⟩ : ∃ L : List Loc, L = [] := ⟨_, rfl⟩
  rw [← hH, ← hL0] at S ⊢
  refine lv_aload_n hx hb dX7_undo_0 rfl (lv_at hl 0 rfl) ?_
  refine top_get C S inX7_undop_X7 rfl 0 rfl 3 (by decide) (by decide +kernel) rfl rfl dX7_undo_1 ?_
  refine bn_zne (tgt := 10) (a := z) hx hb rfl (by omega) dX7_undo_4 (by decide) (fun c_1 => ?_) (fun c_1 => ?_)
  · -- 4 T
    refine lv_aload_n hx hb dX7_undo_10 rfl (lv_at hl 0 rfl) ?_
    refine lv_dup hx hb dX7_undo_11 rfl ?_
    refine top_get C S inX7_undop_X7 rfl 0 rfl 3 (by decide) (by decide +kernel) rfl rfl dX7_undo_12 ?_
    refine lv_iconst (v := 1) hx hb dX7_undo_15 (by decide) ?_
    refine lv_isub hx hb dX7_undo_16 ?_
    refine top_eq (y := nI (z - 1)) (pk_sub (a := z) (b := 1) (by omega)) ?_
    refine top_put (ty := .int) C S inX7_undop_X7 tyX7 tyX7_ok nmX7 rfl 0 rfl 3 (by decide) (by decide +kernel) rfl rfl (tyX7_ok 3 (by decide)) rfl rfl (Nat.le_of_ble_eq_true rfl) dX7_undo_17 (fun H locs S => ?_)
    have S : ST g A ss H locs [(M, ob 7 [.ref nw, .ref dr, .ref pa, .int (nI (z - 1)), .ref im, .ref ke, .ref fl, .ref fq, .int yfa, .ref te, .int yty, .int yat, .int yst, .int yso, .int yva, .ref ni, .ref re, .int yab, .int ybl, .int yis, .int yra, .ref ma, .ref be]), (nw, aI g 41 gn), (pa, aI g 246 pf)] := S
    refine lv_iconst (v := 0) hx hb dX7_undo_20 (by decide) ?_
    refine lv_istore_n (lv' := [(1, .int 0), (0, .ref M)]) hx hb dX7_undo_21 rfl hl (by decide) rfl (fun ls hl => ?_)
    have loop22 : ∀ (N0 : Nat) (i : Nat) (g1 : Nat → Int32), 41 - i < N0 → (i ≤ 41) → (∀ t, t < i → g1 t = pf (41 * (z - 1) + t)) → ∀ (H : Heap) (locs : List Loc) (ls : Array Slot), ST g A ss H locs [(M, ob 7 [.ref nw, .ref dr, .ref pa, .int (nI (z - 1)), .ref im, .ref ke, .ref fl, .ref fq, .int yfa, .ref te, .int yty, .int yat, .int yst, .int yso, .int yva, .ref ni, .ref re, .int yab, .int ybl, .int yis, .int yra, .ref ma, .ref be]), (nw, aI g 41 g1), (pa, aI g 246 pf)] → lv_has ls 2 [(1, .int (nI i)), (0, .ref M)] → W pp l ee { frames := 0, cells := 0, slots := 0, locals := 0 } ss mm ([.ref M] : List Value).toArray bel mth cd H locs 0 0 (QI bel ([.ref M] : List Value).toArray ss g A (fun (r : Int32) (w' : va_W) => r = (nI (z - 1)) ∧ ∃ (gn' : Nat → Int32), (∀ t, t < 41 → gn' t = pf (41 * (z - 1) + t)) ∧ w' = [(M, ob 7 [.ref nw, .ref dr, .ref pa, .int (nI (z - 1)), .ref im, .ref ke, .ref fl, .ref fq, .int yfa, .ref te, .int yty, .int yat, .int yst, .int yso, .int yva, .ref ni, .ref re, .int yab, .int ybl, .int yis, .int yra, .ref ma, .ref be]), (nw, aI g 41 gn'), (pa, aI g 246 pf)])) (F0 mm 22 ls []) := by
      intro N0
      induction N0 with
      | zero => intro i g1 hN; exact absurd hN (Nat.not_lt_zero _)
      | succ N0 ih22 =>
        intro i g1 hN hi hBt H locs ls S hl
        refine lv_iload_n hx hb dX7_undo_22 rfl (lv_at hl 0 rfl) ?_
        refine lv_bipush (v := 41) hx hb dX7_undo_23 (by decide) ?_
        refine bn_ige (tgt := 54) (a := i) (b := 41) hx hb rfl rfl (by omega) (by omega) dX7_undo_25 (by decide) (fun c_2 => ?_) (fun c_2 => ?_)
        · -- 25 T
          refine lv_aload_n hx hb dX7_undo_54 rfl (lv_at hl 1 rfl) ?_
          refine top_get C S inX7_undop_X7 rfl 0 rfl 3 (by decide) (by decide +kernel) rfl rfl dX7_undo_55 ?_
          exact ret_I C S hr dX7_undo_58 ⟨(rfl), g1, (fun t9 h9 => hBt t9 (by omega)), (rfl)⟩
        · -- 25 F
          refine lv_aload_n hx hb dX7_undo_28 rfl (lv_at hl 1 rfl) ?_
          refine top_get C S inX7_undop_X7 rfl 0 rfl 0 (by decide) (by decide +kernel) rfl rfl dX7_undo_29 ?_
          refine lv_iload_n hx hb dX7_undo_32 rfl (lv_at hl 0 rfl) ?_
          refine lv_aload_n hx hb dX7_undo_33 rfl (lv_at hl 1 rfl) ?_
          refine top_get C S inX7_undop_X7 rfl 0 rfl 2 (by decide) (by decide +kernel) rfl rfl dX7_undo_34 ?_
          refine lv_bipush (v := 41) hx hb dX7_undo_37 (by decide) ?_
          refine lv_aload_n hx hb dX7_undo_39 rfl (lv_at hl 1 rfl) ?_
          refine top_get C S inX7_undop_X7 rfl 0 rfl 3 (by decide) (by decide +kernel) rfl rfl dX7_undo_40 ?_
          refine lv_imul hx hb dX7_undo_43 ?_
          refine top_eq (y := nI (41 * (z - 1))) (pk_mul _ _) ?_
          refine lv_iload_n hx hb dX7_undo_44 rfl (lv_at hl 0 rfl) ?_
          refine lv_iadd hx hb dX7_undo_45 ?_
          refine top_eq (y := nI ((41 * (z - 1)) + i)) (nI_add _ _) ?_
          refine top_ild C S 2 rfl (j := ((41 * (z - 1)) + i)) rfl (by omega) (by decide) dX7_undo_46 ?_
          refine top_ist C S 1 rfl (j := i) rfl (by omega) (by decide) dX7_undo_47 (fun H locs S => ?_)
          have S : ST g A ss H locs [(M, ob 7 [.ref nw, .ref dr, .ref pa, .int (nI (z - 1)), .ref im, .ref ke, .ref fl, .ref fq, .int yfa, .ref te, .int yty, .int yat, .int yst, .int yso, .int yva, .ref ni, .ref re, .int yab, .int ybl, .int yis, .int yra, .ref ma, .ref be]), (nw, aI g 41 (upd g1 i (pf ((41 * (z - 1)) + i)))), (pa, aI g 246 pf)] := S
          refine lv_iinc (v := nI (i + 1)) (lv' := [(1, .int (nI (i + 1))), (0, .ref M)]) hx hb dX7_undo_48 hl (k := 0) rfl (nI_add _ _) (by decide) rfl (fun ls hl => ?_)
          refine lv_goto (tgt := 22) hx hb dX7_undo_51 (by decide) ?_
          exact ih22 (i + 1) (upd g1 i (pf ((41 * (z - 1)) + i))) (by omega) (by first | assumption | omega) (fun t9 h9 => by by_cases e9 : t9 = i; (subst e9; rw [pk_us]); (rw [pk_un e9]; exact hBt t9 (by omega))) H locs ls (ST.eq S (rfl)) (lv_sub hl [0, 1] (rfl))
    exact loop22 _ 0 gn (Nat.lt_succ_self _) (by first | assumption | omega) (fun t9 h9 => absurd h9 (Nat.not_lt_zero _)) H locs ls (ST.eq S (rfl)) (lv_sub hl [0, 1] (rfl))
  · -- 4 F
    exact absurd c_1 (by omega)

set_option maxRecDepth 100000 in
set_option maxHeartbeats 4000000 in
theorem kX7_loadsb (l : Launch) (g : GG) (M : Nat) (nw : Nat) (dr : Nat) (pa : Nat) (im : Nat) (ke : Nat) (fl : Nat) (fq : Nat) (te : Nat) (ni : Nat) (re : Nat) (ma : Nat) (be : Nat) (ypa : Int32) (yfa : Int32) (yty : Int32) (yat : Int32) (yst : Int32) (yso : Int32) (yva : Int32) (yab : Int32) (ybl : Int32) (yis : Int32) (yra : Int32) (x : Int32) (hbad : okB x 1000 = false) : KI l g yX7_loads wsX7_loads 1 22 [.ref M, .int x] [(M, ob 7 [.ref nw, .ref dr, .ref pa, .int ypa, .ref im, .ref ke, .ref fl, .ref fq, .int yfa, .ref te, .int yty, .int yat, .int yst, .int yso, .int yva, .ref ni, .ref re, .int yab, .int ybl, .int yis, .int yra, .ref ma, .ref be])] (fun (r : Int32) (w' : va_W) => r = (-1) ∧ w' = [(M, ob 7 [.ref nw, .ref dr, .ref pa, .int ypa, .ref im, .ref ke, .ref fl, .ref fq, .int yfa, .ref te, .int yty, .int yat, .int yst, .int yso, .int yva, .ref ni, .ref re, .int yab, .int ybl, .int yis, .int yra, .ref ma, .ref be])]) := by
  refine kI_of (cc := cX7_loads) (maxL := 5) (by decide) rfl (Nat.le_of_ble_eq_true rfl) ?_
  intro pp ee ss mm bel mth cd A ls C S hr hl
  obtain ⟨hx, hb, hml, hown, hts⟩ := id C.1
  have hl : lv_has ls 5 [(0, .ref M), (1, .int x)] := hl
  obtain ⟨H, hH⟩ : ∃ H, H = ss.heap := ⟨_, rfl⟩
  obtain ⟨locs, hL0⟩ : ∃ L : List Loc, L = [] := ⟨_, rfl⟩
  rw [← hH, ← hL0] at S ⊢
  refine lv_iload_n hx hb dX7_loads_0 rfl (lv_at hl 1 rfl) ?_
  refine lv_iconst (v := 0) hx hb dX7_loads_1 (by decide) ?_
  refine lv_sipush (v := 999) hx hb dX7_loads_2 (by decide) ?_
  refine after_I (wc := []) (y := yX7_in) C S (va_runS (As := [.int x, .int 0, .int 999]) (rest := []) C.1 (kX7_inz l g x 999 (by first | assumption | omega) H.size) (va_cwS 3 hts gX7_loads_X7_in rfl rfl rfl (by decide +kernel) ⟨Nat.le_of_ble_eq_true rfl, Nat.le_of_ble_eq_true rfl⟩) (preS_at C S [] rfl (by decide)) rfl rfl hl.1 rfl (lv_room (Nat.le_of_ble_eq_true rfl)) dX7_loads_5 ⟨Nat.le_of_ble_eq_true rfl, Nat.le_of_ble_eq_true rfl⟩) [] [0] rfl (wr := [(M, ob 7 [.ref nw, .ref dr, .ref pa, .int ypa, .ref im, .ref ke, .ref fl, .ref fq, .int yfa, .ref te, .int yty, .int yat, .int yst, .int yso, .int yva, .ref ni, .ref re, .int yab, .int ybl, .int yis, .int yra, .ref ma, .ref be])]) rfl (by decide) (by decide) (fun r0 w0 H locs hq S => ?_)
  obtain ⟨rfl, rfl⟩ := hq
  have S : ST g A ss H locs [(M, ob 7 [.ref nw, .ref dr, .ref pa, .int ypa, .ref im, .ref ke, .ref fl, .ref fq, .int yfa, .ref te, .int yty, .int yat, .int yst, .int yso, .int yva, .ref ni, .ref re, .int yab, .int ybl, .int yis, .int yra, .ref ma, .ref be])] := S
  refine br_neB (tgt := 13) hx hb dX7_loads_8 (by decide) (fun c_1 => ?_) (fun c_1 => ?_)
  · -- 8 T
    rw [show okB x (999 + 1) = false from hbad] at c_1; cases c_1
  · -- 8 F
    refine lv_iconst (v := (-1)) hx hb dX7_loads_11 (by decide) ?_
    exact ret_I C S hr dX7_loads_12 ⟨(by first | rfl | simp only [if_neg (Bool.eq_false_iff.mp c_1)]), (by first | rfl | simp only [if_neg (Bool.eq_false_iff.mp c_1)])⟩

theorem inX7_loadsg_X7 : ∀ w ∈ wsX70, w ∈ wsX7_loads := by decide +kernel
set_option maxRecDepth 100000 in
set_option maxHeartbeats 4000000 in
theorem kX7_loadsg (l : Launch) (g : GG) (M : Nat) (nw : Nat) (dr : Nat) (pa : Nat) (im : Nat) (ke : Nat) (fl : Nat) (fq : Nat) (te : Nat) (ni : Nat) (re : Nat) (ma : Nat) (be : Nat) (yfa : Int32) (yty : Int32) (yat : Int32) (yst : Int32) (yso : Int32) (yva : Int32) (yab : Int32) (ybl : Int32) (yis : Int32) (yra : Int32) (gn : Nat → Int32) (n : Nat) (ww : Nat) (nu : Nat → Nat → Nat) (nf : Nat → Int32) (ref : Nat → Int32) (pf : Nat → Int32) (z : Nat) (p : Nat) (hn1 : 1 ≤ n) (hn : n ≤ 8) (hww : ww < 2 ^ n) (hg0 : gn 0 = nI n) (hgn : ∀ a i, a < 4 → i < n → gn (5 * i + (a + 1)) = nI (nu a i)) (hgw : ∀ i, i < n → gn (5 * i + 5) = nI (ww.testBit i).toNat) (hB : HB nu n) (hz6 : z ≤ 6) (hp : p < 1000) : KI l g yX7_loads wsX7_loads 5 115 [.ref M, .int (nI p)] [(M, ob 7 [.ref nw, .ref dr, .ref pa, .int (nI z), .ref im, .ref ke, .ref fl, .ref fq, .int yfa, .ref te, .int yty, .int yat, .int yst, .int yso, .int yva, .ref ni, .ref re, .int yab, .int ybl, .int yis, .int yra, .ref ma, .ref be]), (nw, aI g 41 gn), (ni, aI g 8 nf), (re, aI g 8 ref), (pa, aI g 246 pf)] (fun (r : Int32) (w' : va_W) => r = (nI (pop ww) - nI (pop (wa (fb (nu 1) (R0 nu) (nu 3) n p) 8 ww))) ∧ ∃ (ab' : Int32), ∃ (bl' : Int32), ∃ (is' : Int32), ∃ (ra' : Int32), ∃ (nf' : Nat → Int32), ∃ (ref' : Nat → Int32), ∃ (gn' : Nat → Int32), ∃ (pf' : Nat → Int32), (gn' 0 = nI n) ∧ (∀ a i, a < 4 → i < n → gn' (5 * i + (a + 1)) = nI (nu a i)) ∧ (∀ i, i < n → gn' (5 * i + 5) = nI ((wa (fb (nu 1) (R0 nu) (nu 3) n p) 8 ww).testBit i).toNat) ∧ (notesP z gn pf pf') ∧ w' = [(M, ob 7 [.ref nw, .ref dr, .ref pa, .int (nI (min (z + 1) 6)), .ref im, .ref ke, .ref fl, .ref fq, .int yfa, .ref te, .int yty, .int yat, .int yst, .int yso, .int yva, .ref ni, .ref re, .int ab', .int bl', .int is', .int ra', .ref ma, .ref be]), (nw, aI g 41 gn'), (ni, aI g 8 nf'), (re, aI g 8 ref'), (pa, aI g 246 pf')]) := by
  refine kI_of (cc := cX7_loads) (maxL := 5) (by decide) rfl (Nat.le_of_ble_eq_true rfl) ?_
  intro pp ee ss mm bel mth cd A ls C S hr hl
  obtain ⟨hx, hb, hml, hown, hts⟩ := id C.1
  have hl : lv_has ls 5 [(0, .ref M), (1, .int (nI p))] := hl
  obtain ⟨H, hH⟩ : ∃ H, H = ss.heap := ⟨_, rfl⟩
  obtain ⟨locs, hL0⟩ : ∃ L : List Loc, L = [] := ⟨_, rfl⟩
  rw [← hH, ← hL0] at S ⊢
  have hca : ∀ i, i < n → nu 2 i ≤ 30 := fun i9 h9 => (hB i9 h9).2.2.1
  have hSb : ∀ i, i < n → nu 1 i ≤ 9 := fun i9 h9 => (hB i9 h9).2.1.2
  have hTb : ∀ i, i < n → nu 3 i ≤ 99 := fun i9 h9 => (hB i9 h9).2.2.2.2
  have hRb : ∀ i, i < n → R0 nu i ≤ 240 := RC_le hn hca
  have hst : ∀ i, i < n → 1 ≤ nu 1 i ∧ nu 1 i ≤ 9 := fun i9 h9 => (hB i9 h9).2.1
  have w8 : ww < 256 := wlt hn hww
  have a8 : 2 ^ n - 1 < 256 := all_lt hn
  have hop : okB (nI p) (999 + 1) = true := ok_nI (by omega) (by decide)
  have hwl : wa (fb (nu 1) (R0 nu) (nu 3) n p) 8 ww < 256 := wa_lt 8 ww w8
  refine lv_iload_n hx hb dX7_loads_0 rfl (lv_at hl 1 rfl) ?_
  refine lv_iconst (v := 0) hx hb dX7_loads_1 (by decide) ?_
  refine lv_sipush (v := 999) hx hb dX7_loads_2 (by decide) ?_
  refine after_I (wc := []) (y := yX7_in) C S (va_runS (As := [.int (nI p), .int 0, .int 999]) (rest := []) C.1 (kX7_inz l g (nI p) 999 (by first | assumption | omega) H.size) (va_cwS 3 hts gX7_loads_X7_in rfl rfl rfl (by decide +kernel) ⟨Nat.le_of_ble_eq_true rfl, Nat.le_of_ble_eq_true rfl⟩) (preS_at C S [] rfl (by decide)) rfl rfl hl.1 rfl (lv_room (Nat.le_of_ble_eq_true rfl)) dX7_loads_5 ⟨Nat.le_of_ble_eq_true rfl, Nat.le_of_ble_eq_true rfl⟩) [] [0, 1, 2, 3, 4] rfl (wr := [(M, ob 7 [.ref nw, .ref dr, .ref pa, .int (nI z), .ref im, .ref ke, .ref fl, .ref fq, .int yfa, .ref te, .int yty, .int yat, .int yst, .int yso, .int yva, .ref ni, .ref re, .int yab, .int ybl, .int yis, .int yra, .ref ma, .ref be]), (nw, aI g 41 gn), (ni, aI g 8 nf), (re, aI g 8 ref), (pa, aI g 246 pf)]) rfl (by decide) (by decide) (fun r0 w0 H locs hq S => ?_)
  obtain ⟨rfl, rfl⟩ := hq
  have S : ST g A ss H locs [(M, ob 7 [.ref nw, .ref dr, .ref pa, .int (nI z), .ref im, .ref ke, .ref fl, .ref fq, .int yfa, .ref te, .int yty, .int yat, .int yst, .int yso, .int yva, .ref ni, .ref re, .int yab, .int ybl, .int yis, .int yra, .ref ma, .ref be]), (nw, aI g 41 gn), (ni, aI g 8 nf), (re, aI g 8 ref), (pa, aI g 246 pf)] := S
  refine br_neB (tgt := 13) hx hb dX7_loads_8 (by decide) (fun c_1 => ?_) (fun c_1 => ?_)
  · -- 8 T
    refine lv_aload_n hx hb dX7_loads_13 rfl (lv_at hl 0 rfl) ?_
    refine after_V (wc := [(M, ob 7 [.ref nw, .ref dr, .ref pa, .int (nI z), .ref im, .ref ke, .ref fl, .ref fq, .int yfa, .ref te, .int yty, .int yat, .int yst, .int yso, .int yva, .ref ni, .ref re, .int yab, .int ybl, .int yis, .int yra, .ref ma, .ref be]), (nw, aI g 41 gn), (pa, aI g 246 pf)]) (y := yX7_notes) C S (va_runV (As := []) (rest := []) C.1 (kX7_notes l g M nw dr pa im ke fl fq te ni re ma be yfa yty yat yst yso yva yab ybl yis yra z gn pf (by first | assumption | omega) H.size) (cwV 0 hts gX7_loads_X7_notes rfl rfl rfl (by decide +kernel) ⟨Nat.le_of_ble_eq_true rfl, Nat.le_of_ble_eq_true rfl⟩) (preV_at C S 0 rfl rfl [0, 1, 4] rfl (by decide)) rfl rfl hl.1 rfl (lv_room (Nat.le_of_ble_eq_true rfl)) dX7_loads_14 ⟨Nat.le_of_ble_eq_true rfl, Nat.le_of_ble_eq_true rfl⟩) [0, 1, 4] [2, 3] rfl (wr := [(ni, aI g 8 nf), (re, aI g 8 ref)]) rfl (by decide) (by decide) (fun w0 H locs hq S => ?_)
    obtain ⟨pf1, hNT1, rfl⟩ := hq
    have S : ST g A ss H locs [(M, ob 7 [.ref nw, .ref dr, .ref pa, .int (nI (min (z + 1) 6)), .ref im, .ref ke, .ref fl, .ref fq, .int yfa, .ref te, .int yty, .int yat, .int yst, .int yso, .int yva, .ref ni, .ref re, .int yab, .int ybl, .int yis, .int yra, .ref ma, .ref be]), (nw, aI g 41 gn), (ni, aI g 8 nf), (re, aI g 8 ref), (pa, aI g 246 pf1)] := ST.sub S [2, 3, 0, 1, 4] (by decide) rfl
    refine lv_aload_n hx hb dX7_loads_17 rfl (lv_at hl 0 rfl) ?_
    refine after_I (wc := [(M, ob 7 [.ref nw, .ref dr, .ref pa, .int (nI (min (z + 1) 6)), .ref im, .ref ke, .ref fl, .ref fq, .int yfa, .ref te, .int yty, .int yat, .int yst, .int yso, .int yva, .ref ni, .ref re, .int yab, .int ybl, .int yis, .int yra, .ref ma, .ref be]), (nw, aI g 41 gn)]) (y := yX7_whole) C S (va_runV (As := []) (rest := []) C.1 (kX7_whole l g M nw dr pa im ke fl fq te ni re ma be (nI (min (z + 1) 6)) yfa yty yat yst yso yva yab ybl yis yra gn n ww (by first | assumption | omega) (by first | assumption | omega) (by first | assumption | omega) (by first | assumption | omega) H.size) (cwV 0 hts gX7_loads_X7_whole rfl rfl rfl (by decide +kernel) ⟨Nat.le_of_ble_eq_true rfl, Nat.le_of_ble_eq_true rfl⟩) (preV_at C S 0 rfl rfl [0, 1] rfl (by decide)) rfl rfl hl.1 rfl (lv_room (Nat.le_of_ble_eq_true rfl)) dX7_loads_18 ⟨Nat.le_of_ble_eq_true rfl, Nat.le_of_ble_eq_true rfl⟩) [0, 1] [2, 3, 4] rfl (wr := [(ni, aI g 8 nf), (re, aI g 8 ref), (pa, aI g 246 pf1)]) rfl (by decide) (by decide) (fun r0 w0 H locs hq S => ?_)
    obtain ⟨rfl, rfl⟩ := hq
    have S : ST g A ss H locs [(M, ob 7 [.ref nw, .ref dr, .ref pa, .int (nI (min (z + 1) 6)), .ref im, .ref ke, .ref fl, .ref fq, .int yfa, .ref te, .int yty, .int yat, .int yst, .int yso, .int yva, .ref ni, .ref re, .int yab, .int ybl, .int yis, .int yra, .ref ma, .ref be]), (nw, aI g 41 gn), (ni, aI g 8 nf), (re, aI g 8 ref), (pa, aI g 246 pf1)] := ST.sub S [3, 4, 0, 1, 2] (by decide) rfl
    refine after_I (wc := []) (y := yX7_ones) C S (va_runS (As := [.int (nI ww)]) (rest := []) C.1 (kX7_ones l g ww w8 H.size) (va_cwS 1 hts gX7_loads_X7_ones rfl rfl rfl (by decide +kernel) ⟨Nat.le_of_ble_eq_true rfl, Nat.le_of_ble_eq_true rfl⟩) (preS_at C S [] rfl (by decide)) rfl rfl hl.1 rfl (lv_room (Nat.le_of_ble_eq_true rfl)) dX7_loads_21 ⟨Nat.le_of_ble_eq_true rfl, Nat.le_of_ble_eq_true rfl⟩) [] [0, 1, 2, 3, 4] rfl (wr := [(M, ob 7 [.ref nw, .ref dr, .ref pa, .int (nI (min (z + 1) 6)), .ref im, .ref ke, .ref fl, .ref fq, .int yfa, .ref te, .int yty, .int yat, .int yst, .int yso, .int yva, .ref ni, .ref re, .int yab, .int ybl, .int yis, .int yra, .ref ma, .ref be]), (nw, aI g 41 gn), (ni, aI g 8 nf), (re, aI g 8 ref), (pa, aI g 246 pf1)]) rfl (by decide) (by decide) (fun r0 w0 H locs hq S => ?_)
    obtain ⟨rfl, rfl⟩ := hq
    have S : ST g A ss H locs [(M, ob 7 [.ref nw, .ref dr, .ref pa, .int (nI (min (z + 1) 6)), .ref im, .ref ke, .ref fl, .ref fq, .int yfa, .ref te, .int yty, .int yat, .int yst, .int yso, .int yva, .ref ni, .ref re, .int yab, .int ybl, .int yis, .int yra, .ref ma, .ref be]), (nw, aI g 41 gn), (ni, aI g 8 nf), (re, aI g 8 ref), (pa, aI g 246 pf1)] := S
    refine lv_istore_n (lv' := [(2, .int (nI (pop ww))), (0, .ref M), (1, .int (nI p))]) hx hb dX7_loads_24 rfl hl (by decide) rfl (fun ls hl => ?_)
    refine lv_aload_n hx hb dX7_loads_25 rfl (lv_at hl 1 rfl) ?_
    refine lv_iload_n hx hb dX7_loads_26 rfl (lv_at hl 2 rfl) ?_
    refine after_I (wc := [(M, ob 7 [.ref nw, .ref dr, .ref pa, .int (nI (min (z + 1) 6)), .ref im, .ref ke, .ref fl, .ref fq, .int yfa, .ref te, .int yty, .int yat, .int yst, .int yso, .int yva, .ref ni, .ref re, .int yab, .int ybl, .int yis, .int yra, .ref ma, .ref be]), (nw, aI g 41 gn), (ni, aI g 8 nf), (re, aI g 8 ref)]) (y := yX7_wholeBehind) C S (va_runV (As := [.int (nI p)]) (rest := []) C.1 (kX7_wholeBehind l g M nw dr pa im ke fl fq te ni re ma be (nI (min (z + 1) 6)) yfa yty yat yst yso yva yab ybl yis yra gn n ww nu nf ref p (by first | assumption | omega) (by first | assumption | omega) (by first | assumption | omega) (by first | assumption | omega) (by first | assumption | omega) (by first | assumption | omega) (by first | assumption | omega) (by omega) H.size) (cwV 1 hts gX7_loads_X7_wholeBehind rfl rfl rfl (by decide +kernel) ⟨Nat.le_of_ble_eq_true rfl, Nat.le_of_ble_eq_true rfl⟩) (preV_at C S 0 rfl rfl [0, 1, 2, 3] rfl (by decide)) rfl rfl hl.1 rfl (lv_room (Nat.le_of_ble_eq_true rfl)) dX7_loads_27 ⟨Nat.le_of_ble_eq_true rfl, Nat.le_of_ble_eq_true rfl⟩) [0, 1, 2, 3] [4] rfl (wr := [(pa, aI g 246 pf1)]) rfl (by decide) (by decide) (fun r0 w0 H locs hq S => ?_)
    obtain ⟨rfl, ab'_2, bl'_3, is'_4, ra'_5, nf'_6, ref'_7, rfl⟩ := hq
    have S : ST g A ss H locs [(M, ob 7 [.ref nw, .ref dr, .ref pa, .int (nI (min (z + 1) 6)), .ref im, .ref ke, .ref fl, .ref fq, .int yfa, .ref te, .int yty, .int yat, .int yst, .int yso, .int yva, .ref ni, .ref re, .int ab'_2, .int bl'_3, .int is'_4, .int ra'_5, .ref ma, .ref be]), (nw, aI g 41 gn), (ni, aI g 8 nf'_6), (re, aI g 8 ref'_7), (pa, aI g 246 pf1)] := ST.sub S [1, 2, 3, 4, 0] (by decide) rfl
    refine lv_istore_n (lv' := [(3, .int (nI (wa (fb (nu 1) (R0 nu) (nu 3) n p) 8 ww))), (2, .int (nI (pop ww))), (0, .ref M), (1, .int (nI p))]) hx hb dX7_loads_30 rfl hl (by decide) rfl (fun ls hl => ?_)
    refine lv_iconst (v := 0) hx hb dX7_loads_31 (by decide) ?_
    refine lv_istore (lv' := [(4, .int 0), (3, .int (nI (wa (fb (nu 1) (R0 nu) (nu 3) n p) 8 ww))), (2, .int (nI (pop ww))), (0, .ref M), (1, .int (nI p))]) hx hb dX7_loads_32 hl (by decide) rfl (fun ls hl => ?_)
    have loop34 : ∀ (N0 : Nat) (i : Nat) (g1 : Nat → Int32), n - i < N0 → (i ≤ n) → (g1 0 = nI n) → (∀ t, t % 5 ≠ 0 → g1 t = gn t) → (∀ k, k < i → g1 (5 * k + 5) = nI ((wa (fb (nu 1) (R0 nu) (nu 3) n p) 8 ww).testBit k).toNat) → ∀ (H : Heap) (locs : List Loc) (ls : Array Slot), ST g A ss H locs [(M, ob 7 [.ref nw, .ref dr, .ref pa, .int (nI (min (z + 1) 6)), .ref im, .ref ke, .ref fl, .ref fq, .int yfa, .ref te, .int yty, .int yat, .int yst, .int yso, .int yva, .ref ni, .ref re, .int ab'_2, .int bl'_3, .int is'_4, .int ra'_5, .ref ma, .ref be]), (nw, aI g 41 g1), (ni, aI g 8 nf'_6), (re, aI g 8 ref'_7), (pa, aI g 246 pf1)] → lv_has ls 5 [(4, .int (nI i)), (3, .int (nI (wa (fb (nu 1) (R0 nu) (nu 3) n p) 8 ww))), (2, .int (nI (pop ww))), (0, .ref M), (1, .int (nI p))] → W pp l ee { frames := 5, cells := 0, slots := 0, locals := 115 } ss mm ([.ref M, .int (nI p)] : List Value).toArray bel mth cd H locs 0 0 (QI bel ([.ref M, .int (nI p)] : List Value).toArray ss g A (fun (r : Int32) (w' : va_W) => r = (nI (pop ww) - nI (pop (wa (fb (nu 1) (R0 nu) (nu 3) n p) 8 ww))) ∧ ∃ (ab' : Int32), ∃ (bl' : Int32), ∃ (is' : Int32), ∃ (ra' : Int32), ∃ (nf' : Nat → Int32), ∃ (ref' : Nat → Int32), ∃ (gn' : Nat → Int32), ∃ (pf' : Nat → Int32), (gn' 0 = nI n) ∧ (∀ a i, a < 4 → i < n → gn' (5 * i + (a + 1)) = nI (nu a i)) ∧ (∀ i, i < n → gn' (5 * i + 5) = nI ((wa (fb (nu 1) (R0 nu) (nu 3) n p) 8 ww).testBit i).toNat) ∧ (notesP z gn pf pf') ∧ w' = [(M, ob 7 [.ref nw, .ref dr, .ref pa, .int (nI (min (z + 1) 6)), .ref im, .ref ke, .ref fl, .ref fq, .int yfa, .ref te, .int yty, .int yat, .int yst, .int yso, .int yva, .ref ni, .ref re, .int ab', .int bl', .int is', .int ra', .ref ma, .ref be]), (nw, aI g 41 gn'), (ni, aI g 8 nf'), (re, aI g 8 ref'), (pa, aI g 246 pf')])) (F0 mm 34 ls []) := by
      intro N0
      induction N0 with
      | zero => intro i g1 hN; exact absurd hN (Nat.not_lt_zero _)
      | succ N0 ih34 =>
        intro i g1 hN hi hG0 hGA hGB H locs ls S hl
        refine lv_iload hx hb dX7_loads_34 (lv_at hl 0 rfl) ?_
        refine lv_aload_n hx hb dX7_loads_36 rfl (lv_at hl 3 rfl) ?_
        refine top_get C S inX7_loadsg_X7 rfl 0 rfl 0 (by decide) (by decide +kernel) rfl rfl dX7_loads_37 ?_
        refine lv_iconst (v := 0) hx hb dX7_loads_40 (by decide) ?_
        refine top_ild C S 1 rfl (j := 0) rfl (by omega) (by decide) dX7_loads_41 ?_
        refine top_eq (y := nI n) hG0 ?_
        refine bn_ige (tgt := 76) (a := i) (b := n) hx hb rfl rfl (by omega) (by omega) dX7_loads_42 (by decide) (fun c_8 => ?_) (fun c_8 => ?_)
        · -- 42 T
          refine lv_iload_n hx hb dX7_loads_76 rfl (lv_at hl 2 rfl) ?_
          refine lv_iload_n hx hb dX7_loads_77 rfl (lv_at hl 1 rfl) ?_
          refine after_I (wc := []) (y := yX7_ones) C S (va_runS (As := [.int (nI (wa (fb (nu 1) (R0 nu) (nu 3) n p) 8 ww))]) (rest := [.int (nI (pop ww))]) C.1 (kX7_ones l g (wa (fb (nu 1) (R0 nu) (nu 3) n p) 8 ww) hwl H.size) (va_cwS 1 hts gX7_loads_X7_ones rfl rfl rfl (by decide +kernel) ⟨Nat.le_of_ble_eq_true rfl, Nat.le_of_ble_eq_true rfl⟩) (preS_at C S [] rfl (by decide)) rfl rfl hl.1 rfl (lv_room (Nat.le_of_ble_eq_true rfl)) dX7_loads_78 ⟨Nat.le_of_ble_eq_true rfl, Nat.le_of_ble_eq_true rfl⟩) [] [0, 1, 2, 3, 4] rfl (wr := [(M, ob 7 [.ref nw, .ref dr, .ref pa, .int (nI (min (z + 1) 6)), .ref im, .ref ke, .ref fl, .ref fq, .int yfa, .ref te, .int yty, .int yat, .int yst, .int yso, .int yva, .ref ni, .ref re, .int ab'_2, .int bl'_3, .int is'_4, .int ra'_5, .ref ma, .ref be]), (nw, aI g 41 g1), (ni, aI g 8 nf'_6), (re, aI g 8 ref'_7), (pa, aI g 246 pf1)]) rfl (by decide) (by decide) (fun r0 w0 H locs hq S => ?_)
          obtain ⟨rfl, rfl⟩ := hq
          have S : ST g A ss H locs [(M, ob 7 [.ref nw, .ref dr, .ref pa, .int (nI (min (z + 1) 6)), .ref im, .ref ke, .ref fl, .ref fq, .int yfa, .ref te, .int yty, .int yat, .int yst, .int yso, .int yva, .ref ni, .ref re, .int ab'_2, .int bl'_3, .int is'_4, .int ra'_5, .ref ma, .ref be]), (nw, aI g 41 g1), (ni, aI g 8 nf'_6), (re, aI g 8 ref'_7), (pa, aI g 246 pf1)] := S
          refine lv_isub hx hb dX7_loads_81 ?_
          exact ret_I C S hr dX7_loads_82 ⟨(rfl), ab'_2, bl'_3, is'_4, ra'_5, nf'_6, ref'_7, g1, pf1, (hG0), (fun a9 i9 h9 k9 => by rw [hGA _ (by omega)]; exact hgn a9 i9 h9 k9), (fun i9 h9 => hGB i9 (by omega)), (hNT1), (rfl)⟩
        · -- 42 F
          refine lv_aload_n hx hb dX7_loads_45 rfl (lv_at hl 3 rfl) ?_
          refine top_get C S inX7_loadsg_X7 rfl 0 rfl 0 (by decide) (by decide +kernel) rfl rfl dX7_loads_46 ?_
          refine lv_iconst (v := 5) hx hb dX7_loads_49 (by decide) ?_
          refine lv_iload hx hb dX7_loads_50 (lv_at hl 0 rfl) ?_
          refine lv_imul hx hb dX7_loads_52 ?_
          refine top_eq (y := nI (5 * i)) (pk_mul _ _) ?_
          refine lv_iconst (v := 5) hx hb dX7_loads_53 (by decide) ?_
          refine lv_iadd hx hb dX7_loads_54 ?_
          refine top_eq (y := nI ((5 * i) + 5)) (nI_add _ _) ?_
          refine lv_iload_n hx hb dX7_loads_55 rfl (lv_at hl 1 rfl) ?_
          refine lv_iload hx hb dX7_loads_56 (lv_at hl 0 rfl) ?_
          refine after_I (wc := []) (y := yX7_has) C S (va_runS (As := [.int (nI (wa (fb (nu 1) (R0 nu) (nu 3) n p) 8 ww)), .int (nI i)]) (rest := [.int (nI ((5 * i) + 5)), .ref nw]) C.1 (kX7_has l g (wa (fb (nu 1) (R0 nu) (nu 3) n p) 8 ww) i (by first | assumption | omega) (by first | assumption | omega) H.size) (va_cwS 2 hts gX7_loads_X7_has rfl rfl rfl (by decide +kernel) ⟨Nat.le_of_ble_eq_true rfl, Nat.le_of_ble_eq_true rfl⟩) (preS_at C S [] rfl (by decide)) rfl rfl hl.1 rfl (lv_room (Nat.le_of_ble_eq_true rfl)) dX7_loads_58 ⟨Nat.le_of_ble_eq_true rfl, Nat.le_of_ble_eq_true rfl⟩) [] [0, 1, 2, 3, 4] rfl (wr := [(M, ob 7 [.ref nw, .ref dr, .ref pa, .int (nI (min (z + 1) 6)), .ref im, .ref ke, .ref fl, .ref fq, .int yfa, .ref te, .int yty, .int yat, .int yst, .int yso, .int yva, .ref ni, .ref re, .int ab'_2, .int bl'_3, .int is'_4, .int ra'_5, .ref ma, .ref be]), (nw, aI g 41 g1), (ni, aI g 8 nf'_6), (re, aI g 8 ref'_7), (pa, aI g 246 pf1)]) rfl (by decide) (by decide) (fun r0 w0 H locs hq S => ?_)
          obtain ⟨rfl, rfl⟩ := hq
          have S : ST g A ss H locs [(M, ob 7 [.ref nw, .ref dr, .ref pa, .int (nI (min (z + 1) 6)), .ref im, .ref ke, .ref fl, .ref fq, .int yfa, .ref te, .int yty, .int yat, .int yst, .int yso, .int yva, .ref ni, .ref re, .int ab'_2, .int bl'_3, .int is'_4, .int ra'_5, .ref ma, .ref be]), (nw, aI g 41 g1), (ni, aI g 8 nf'_6), (re, aI g 8 ref'_7), (pa, aI g 246 pf1)] := S
          refine br_eqB (tgt := 68) hx hb dX7_loads_61 (by decide) (fun c_9 => ?_) (fun c_9 => ?_)
          · -- 61 T
            refine lv_iconst (v := 0) hx hb dX7_loads_68 (by decide) ?_
            refine top_ist C S 1 rfl (j := ((5 * i) + 5)) rfl (by omega) (by decide) dX7_loads_69 (fun H locs S => ?_)
            have S : ST g A ss H locs [(M, ob 7 [.ref nw, .ref dr, .ref pa, .int (nI (min (z + 1) 6)), .ref im, .ref ke, .ref fl, .ref fq, .int yfa, .ref te, .int yty, .int yat, .int yst, .int yso, .int yva, .ref ni, .ref re, .int ab'_2, .int bl'_3, .int is'_4, .int ra'_5, .ref ma, .ref be]), (nw, aI g 41 (upd g1 ((5 * i) + 5) 0)), (ni, aI g 8 nf'_6), (re, aI g 8 ref'_7), (pa, aI g 246 pf1)] := S
            refine lv_iinc (v := nI (i + 1)) (lv' := [(4, .int (nI (i + 1))), (3, .int (nI (wa (fb (nu 1) (R0 nu) (nu 3) n p) 8 ww))), (2, .int (nI (pop ww))), (0, .ref M), (1, .int (nI p))]) hx hb dX7_loads_70 hl (k := 0) rfl (nI_add _ _) (by decide) rfl (fun ls hl => ?_)
            refine lv_goto (tgt := 34) hx hb dX7_loads_73 (by decide) ?_
            exact ih34 (i + 1) (upd g1 ((5 * i) + 5) 0) (by omega) (by first | assumption | omega) (by rw [pk_un (by omega)]; exact hG0) (upd_keep (P := fun t => t % 5 ≠ 0) hGA (by omega)) (fun k9 h9 => by by_cases e9 : k9 = i; (subst e9; rw [pk_us, c_9] <;> rfl); (rw [pk_un (by omega)]; exact hGB k9 (by omega))) H locs ls (ST.eq S (rfl)) (lv_sub hl [0, 1, 2, 3, 4] (rfl))
          · -- 61 F
            refine lv_iconst (v := 1) hx hb dX7_loads_64 (by decide) ?_
            refine lv_goto (tgt := 69) hx hb dX7_loads_65 (by decide) ?_
            refine top_ist C S 1 rfl (j := ((5 * i) + 5)) rfl (by omega) (by decide) dX7_loads_69 (fun H locs S => ?_)
            have S : ST g A ss H locs [(M, ob 7 [.ref nw, .ref dr, .ref pa, .int (nI (min (z + 1) 6)), .ref im, .ref ke, .ref fl, .ref fq, .int yfa, .ref te, .int yty, .int yat, .int yst, .int yso, .int yva, .ref ni, .ref re, .int ab'_2, .int bl'_3, .int is'_4, .int ra'_5, .ref ma, .ref be]), (nw, aI g 41 (upd g1 ((5 * i) + 5) 1)), (ni, aI g 8 nf'_6), (re, aI g 8 ref'_7), (pa, aI g 246 pf1)] := S
            refine lv_iinc (v := nI (i + 1)) (lv' := [(4, .int (nI (i + 1))), (3, .int (nI (wa (fb (nu 1) (R0 nu) (nu 3) n p) 8 ww))), (2, .int (nI (pop ww))), (0, .ref M), (1, .int (nI p))]) hx hb dX7_loads_70 hl (k := 0) rfl (nI_add _ _) (by decide) rfl (fun ls hl => ?_)
            refine lv_goto (tgt := 34) hx hb dX7_loads_73 (by decide) ?_
            exact ih34 (i + 1) (upd g1 ((5 * i) + 5) 1) (by omega) (by first | assumption | omega) (by rw [pk_un (by omega)]; exact hG0) (upd_keep (P := fun t => t % 5 ≠ 0) hGA (by omega)) (fun k9 h9 => by by_cases e9 : k9 = i; (subst e9; rw [pk_us, c_9] <;> rfl); (rw [pk_un (by omega)]; exact hGB k9 (by omega))) H locs ls (ST.eq S (rfl)) (lv_sub hl [0, 1, 2, 3, 4] (rfl))
    exact loop34 _ 0 gn (Nat.lt_succ_self _) (by first | assumption | omega) (hg0) (fun t9 _ => rfl) (fun t9 h9 => absurd h9 (Nat.not_lt_zero _)) H locs ls (ST.eq S (rfl)) (lv_sub hl [0, 1, 2, 3, 4] (rfl))
  · -- 8 F
    rw [hop] at c_1; cases c_1

set_option maxRecDepth 100000 in
set_option maxHeartbeats 4000000 in
theorem kX7_breaksb (l : Launch) (g : GG) (M : Nat) (nw : Nat) (dr : Nat) (pa : Nat) (im : Nat) (ke : Nat) (fl : Nat) (fq : Nat) (te : Nat) (ni : Nat) (re : Nat) (ma : Nat) (be : Nat) (ypa : Int32) (yfa : Int32) (yty : Int32) (yat : Int32) (yst : Int32) (yso : Int32) (yva : Int32) (yab : Int32) (ybl : Int32) (yis : Int32) (yra : Int32) (gn : Nat → Int32) (n : Nat) (x : Int32) (hn : n ≤ 8) (hg0 : gn 0 = nI n) (hn1 : 1 ≤ n) (hbad : okB x n = false) : KI l g yX7_breaks wsX7_breaks 2 43 [.ref M, .int x] [(M, ob 7 [.ref nw, .ref dr, .ref pa, .int ypa, .ref im, .ref ke, .ref fl, .ref fq, .int yfa, .ref te, .int yty, .int yat, .int yst, .int yso, .int yva, .ref ni, .ref re, .int yab, .int ybl, .int yis, .int yra, .ref ma, .ref be]), (nw, aI g 41 gn)] (fun (r : Int32) (w' : va_W) => r = (-1) ∧ w' = [(M, ob 7 [.ref nw, .ref dr, .ref pa, .int ypa, .ref im, .ref ke, .ref fl, .ref fq, .int yfa, .ref te, .int yty, .int yat, .int yst, .int yso, .int yva, .ref ni, .ref re, .int yab, .int ybl, .int yis, .int yra, .ref ma, .ref be]), (nw, aI g 41 gn)]) := by
  refine kI_of (cc := cX7_breaks) (maxL := 2) (by decide) rfl (Nat.le_of_ble_eq_true rfl) ?_
  intro pp ee ss mm bel mth cd A ls C S hr hl
  obtain ⟨hx, hb, hml, hown, hts⟩ := id C.1
  have hl : lv_has ls 2 [(0, .ref M), (1, .int x)] := hl
  obtain ⟨H, hH⟩ : ∃ H, H = ss.heap := ⟨_, rfl⟩
  obtain ⟨locs, hL0⟩ : ∃ L : List Loc, L = [] := ⟨_, rfl⟩
  rw [← hH, ← hL0] at S ⊢
  refine lv_aload_n hx hb dX7_breaks_0 rfl (lv_at hl 0 rfl) ?_
  refine lv_iload_n hx hb dX7_breaks_1 rfl (lv_at hl 1 rfl) ?_
  refine after_I (wc := [(M, ob 7 [.ref nw, .ref dr, .ref pa, .int ypa, .ref im, .ref ke, .ref fl, .ref fq, .int yfa, .ref te, .int yty, .int yat, .int yst, .int yso, .int yva, .ref ni, .ref re, .int yab, .int ybl, .int yis, .int yra, .ref ma, .ref be]), (nw, aI g 41 gn)]) (y := yX7_isLeaf) C S (va_runV (As := [.int x]) (rest := []) C.1 (kX7_isLeaf l g M nw dr pa im ke fl fq te ni re ma be ypa yfa yty yat yst yso yva yab ybl yis yra gn n x (by first | assumption | omega) (by first | assumption | omega) (by first | assumption | omega) H.size) (cwV 1 hts gX7_breaks_X7_isLeaf rfl rfl rfl (by decide +kernel) ⟨Nat.le_of_ble_eq_true rfl, Nat.le_of_ble_eq_true rfl⟩) (preV_at C S 0 rfl rfl [0, 1] rfl (by decide)) rfl rfl hl.1 rfl (lv_room (Nat.le_of_ble_eq_true rfl)) dX7_breaks_2 ⟨Nat.le_of_ble_eq_true rfl, Nat.le_of_ble_eq_true rfl⟩) [0, 1] [] rfl (wr := []) rfl (by decide) (by decide) (fun r0 w0 H locs hq S => ?_)
  obtain ⟨rfl, rfl⟩ := hq
  have S : ST g A ss H locs [(M, ob 7 [.ref nw, .ref dr, .ref pa, .int ypa, .ref im, .ref ke, .ref fl, .ref fq, .int yfa, .ref te, .int yty, .int yat, .int yst, .int yso, .int yva, .ref ni, .ref re, .int yab, .int ybl, .int yis, .int yra, .ref ma, .ref be]), (nw, aI g 41 gn)] := S
  refine br_neB (tgt := 10) hx hb dX7_breaks_5 (by decide) (fun c_1 => ?_) (fun c_1 => ?_)
  · -- 5 T
    rw [hbad] at c_1; cases c_1
  · -- 5 F
    refine lv_iconst (v := (-1)) hx hb dX7_breaks_8 (by decide) ?_
    exact ret_I C S hr dX7_breaks_9 ⟨(by first | rfl | simp only [if_neg (Bool.eq_false_iff.mp c_1)]), (by first | rfl | simp only [if_neg (Bool.eq_false_iff.mp c_1)])⟩

set_option maxRecDepth 100000 in
set_option maxHeartbeats 4000000 in
theorem kX7_breakss (l : Launch) (g : GG) (M : Nat) (nw : Nat) (dr : Nat) (pa : Nat) (im : Nat) (ke : Nat) (fl : Nat) (fq : Nat) (te : Nat) (ni : Nat) (re : Nat) (ma : Nat) (be : Nat) (ypa : Int32) (yfa : Int32) (yty : Int32) (yat : Int32) (yst : Int32) (yso : Int32) (yva : Int32) (yab : Int32) (ybl : Int32) (yis : Int32) (yra : Int32) (gn : Nat → Int32) (n : Nat) (ww : Nat) (nu : Nat → Nat → Nat) (j : Nat) (hn1 : 1 ≤ n) (hn : n ≤ 8) (hww : ww < 2 ^ n) (hg0 : gn 0 = nI n) (hgn : ∀ a i, a < 4 → i < n → gn (5 * i + (a + 1)) = nI (nu a i)) (hgw : ∀ i, i < n → gn (5 * i + 5) = nI (ww.testBit i).toNat) (hB : HB nu n) (hj : j < n) (hbit : ww.testBit j = false) : KI l g yX7_breaks wsX7_breaks 2 43 [.ref M, .int (nI j)] [(M, ob 7 [.ref nw, .ref dr, .ref pa, .int ypa, .ref im, .ref ke, .ref fl, .ref fq, .int yfa, .ref te, .int yty, .int yat, .int yst, .int yso, .int yva, .ref ni, .ref re, .int yab, .int ybl, .int yis, .int yra, .ref ma, .ref be]), (nw, aI g 41 gn)] (fun (r : Int32) (w' : va_W) => r = (-2) ∧ w' = [(M, ob 7 [.ref nw, .ref dr, .ref pa, .int ypa, .ref im, .ref ke, .ref fl, .ref fq, .int yfa, .ref te, .int yty, .int yat, .int yst, .int yso, .int yva, .ref ni, .ref re, .int yab, .int ybl, .int yis, .int yra, .ref ma, .ref be]), (nw, aI g 41 gn)]) := by
  refine kI_of (cc := cX7_breaks) (maxL := 2) (by decide) rfl (Nat.le_of_ble_eq_true rfl) ?_
  intro pp ee ss mm bel mth cd A ls C S hr hl
  obtain ⟨hx, hb, hml, hown, hts⟩ := id C.1
  have hl : lv_has ls 2 [(0, .ref M), (1, .int (nI j))] := hl
  obtain ⟨H, hH⟩ : ∃ H, H = ss.heap := ⟨_, rfl⟩
  obtain ⟨locs, hL0⟩ : ∃ L : List Loc, L = [] := ⟨_, rfl⟩
  rw [← hH, ← hL0] at S ⊢
  have hok : okB (nI j) n = true := ok_nI hj (by omega)
  refine lv_aload_n hx hb dX7_breaks_0 rfl (lv_at hl 0 rfl) ?_
  refine lv_iload_n hx hb dX7_breaks_1 rfl (lv_at hl 1 rfl) ?_
  refine after_I (wc := [(M, ob 7 [.ref nw, .ref dr, .ref pa, .int ypa, .ref im, .ref ke, .ref fl, .ref fq, .int yfa, .ref te, .int yty, .int yat, .int yst, .int yso, .int yva, .ref ni, .ref re, .int yab, .int ybl, .int yis, .int yra, .ref ma, .ref be]), (nw, aI g 41 gn)]) (y := yX7_isLeaf) C S (va_runV (As := [.int (nI j)]) (rest := []) C.1 (kX7_isLeaf l g M nw dr pa im ke fl fq te ni re ma be ypa yfa yty yat yst yso yva yab ybl yis yra gn n (nI j) (by first | assumption | omega) (by first | assumption | omega) (by first | assumption | omega) H.size) (cwV 1 hts gX7_breaks_X7_isLeaf rfl rfl rfl (by decide +kernel) ⟨Nat.le_of_ble_eq_true rfl, Nat.le_of_ble_eq_true rfl⟩) (preV_at C S 0 rfl rfl [0, 1] rfl (by decide)) rfl rfl hl.1 rfl (lv_room (Nat.le_of_ble_eq_true rfl)) dX7_breaks_2 ⟨Nat.le_of_ble_eq_true rfl, Nat.le_of_ble_eq_true rfl⟩) [0, 1] [] rfl (wr := []) rfl (by decide) (by decide) (fun r0 w0 H locs hq S => ?_)
  obtain ⟨rfl, rfl⟩ := hq
  have S : ST g A ss H locs [(M, ob 7 [.ref nw, .ref dr, .ref pa, .int ypa, .ref im, .ref ke, .ref fl, .ref fq, .int yfa, .ref te, .int yty, .int yat, .int yst, .int yso, .int yva, .ref ni, .ref re, .int yab, .int ybl, .int yis, .int yra, .ref ma, .ref be]), (nw, aI g 41 gn)] := S
  refine br_neB (tgt := 10) hx hb dX7_breaks_5 (by decide) (fun c_1 => ?_) (fun c_1 => ?_)
  · -- 5 T
    refine lv_aload_n hx hb dX7_breaks_10 rfl (lv_at hl 0 rfl) ?_
    refine lv_iload_n hx hb dX7_breaks_11 rfl (lv_at hl 1 rfl) ?_
    refine after_I (wc := [(M, ob 7 [.ref nw, .ref dr, .ref pa, .int ypa, .ref im, .ref ke, .ref fl, .ref fq, .int yfa, .ref te, .int yty, .int yat, .int yst, .int yso, .int yva, .ref ni, .ref re, .int yab, .int ybl, .int yis, .int yra, .ref ma, .ref be]), (nw, aI g 41 gn)]) (y := yX7_isWhole) C S (va_runV (As := [.int (nI j)]) (rest := []) C.1 (kX7_isWhole l g M nw dr pa im ke fl fq te ni re ma be ypa yfa yty yat yst yso yva yab ybl yis yra gn n ww j (by first | assumption | omega) (by first | assumption | omega) (by first | assumption | omega) (by first | assumption | omega) H.size) (cwV 1 hts gX7_breaks_X7_isWhole rfl rfl rfl (by decide +kernel) ⟨Nat.le_of_ble_eq_true rfl, Nat.le_of_ble_eq_true rfl⟩) (preV_at C S 0 rfl rfl [0, 1] rfl (by decide)) rfl rfl hl.1 rfl (lv_room (Nat.le_of_ble_eq_true rfl)) dX7_breaks_12 ⟨Nat.le_of_ble_eq_true rfl, Nat.le_of_ble_eq_true rfl⟩) [0, 1] [] rfl (wr := []) rfl (by decide) (by decide) (fun r0 w0 H locs hq S => ?_)
    obtain ⟨rfl, rfl⟩ := hq
    have S : ST g A ss H locs [(M, ob 7 [.ref nw, .ref dr, .ref pa, .int ypa, .ref im, .ref ke, .ref fl, .ref fq, .int yfa, .ref te, .int yty, .int yat, .int yst, .int yso, .int yva, .ref ni, .ref re, .int yab, .int ybl, .int yis, .int yra, .ref ma, .ref be]), (nw, aI g 41 gn)] := S
    refine br_neB (tgt := 21) hx hb dX7_breaks_15 (by decide) (fun c_2 => ?_) (fun c_2 => ?_)
    · -- 15 T
      rw [hbit] at c_2; cases c_2
    · -- 15 F
      refine lv_bipush (v := (-2)) hx hb dX7_breaks_18 (by decide) ?_
      exact ret_I C S hr dX7_breaks_20 ⟨(by first | rfl | simp only [if_pos c_1, if_neg (Bool.eq_false_iff.mp c_2)]), (by first | rfl | simp only [if_pos c_1, if_neg (Bool.eq_false_iff.mp c_2)])⟩
  · -- 5 F
    rw [hok] at c_1; cases c_1

theorem inX7_breaksg_X7 : ∀ w ∈ wsX70, w ∈ wsX7_breaks := by decide +kernel
set_option maxRecDepth 100000 in
set_option maxHeartbeats 4000000 in
theorem kX7_breaksg (l : Launch) (g : GG) (M : Nat) (nw : Nat) (dr : Nat) (pa : Nat) (im : Nat) (ke : Nat) (fl : Nat) (fq : Nat) (te : Nat) (ni : Nat) (re : Nat) (ma : Nat) (be : Nat) (yfa : Int32) (yty : Int32) (yat : Int32) (yst : Int32) (yso : Int32) (yva : Int32) (yab : Int32) (ybl : Int32) (yis : Int32) (yra : Int32) (gn : Nat → Int32) (n : Nat) (ww : Nat) (nu : Nat → Nat → Nat) (pf : Nat → Int32) (z : Nat) (j : Nat) (hn1 : 1 ≤ n) (hn : n ≤ 8) (hww : ww < 2 ^ n) (hg0 : gn 0 = nI n) (hgn : ∀ a i, a < 4 → i < n → gn (5 * i + (a + 1)) = nI (nu a i)) (hgw : ∀ i, i < n → gn (5 * i + 5) = nI (ww.testBit i).toNat) (hB : HB nu n) (hz6 : z ≤ 6) (hj : j < n) (hbit : ww.testBit j = true) : KI l g yX7_breaks wsX7_breaks 3 65 [.ref M, .int (nI j)] [(M, ob 7 [.ref nw, .ref dr, .ref pa, .int (nI z), .ref im, .ref ke, .ref fl, .ref fq, .int yfa, .ref te, .int yty, .int yat, .int yst, .int yso, .int yva, .ref ni, .ref re, .int yab, .int ybl, .int yis, .int yra, .ref ma, .ref be]), (nw, aI g 41 gn), (pa, aI g 246 pf)] (fun (r : Int32) (w' : va_W) => r = (nI (pop (clr ww j))) ∧ ∃ (pf' : Nat → Int32), (notesP z gn pf pf') ∧ w' = [(M, ob 7 [.ref nw, .ref dr, .ref pa, .int (nI (min (z + 1) 6)), .ref im, .ref ke, .ref fl, .ref fq, .int yfa, .ref te, .int yty, .int yat, .int yst, .int yso, .int yva, .ref ni, .ref re, .int yab, .int ybl, .int yis, .int yra, .ref ma, .ref be]), (nw, aI g 41 (upd gn (5 * j + 5) 0)), (pa, aI g 246 pf')]) := by
  refine kI_of (cc := cX7_breaks) (maxL := 2) (by decide) rfl (Nat.le_of_ble_eq_true rfl) ?_
  intro pp ee ss mm bel mth cd A ls C S hr hl
  obtain ⟨hx, hb, hml, hown, hts⟩ := id C.1
  have hl : lv_has ls 2 [(0, .ref M), (1, .int (nI j))] := hl
  obtain ⟨H, hH⟩ : ∃ H, H = ss.heap := ⟨_, rfl⟩
  obtain ⟨locs, hL0⟩ : ∃ L : List Loc, L = [] := ⟨_, rfl⟩
  rw [← hH, ← hL0] at S ⊢
  have hok : okB (nI j) n = true := ok_nI hj (by omega)
  have hnw : clr ww j < 2 ^ n := Nat.lt_of_le_of_lt (clr_le _ _) hww
  have hn8 : clr ww j < 256 := wlt hn hnw
  refine lv_aload_n hx hb dX7_breaks_0 rfl (lv_at hl 0 rfl) ?_
  refine lv_iload_n hx hb dX7_breaks_1 rfl (lv_at hl 1 rfl) ?_
  refine after_I (wc := [(M, ob 7 [.ref nw, .ref dr, .ref pa, .int (nI z), .ref im, .ref ke, .ref fl, .ref fq, .int yfa, .ref te, .int yty, .int yat, .int yst, .int yso, .int yva, .ref ni, .ref re, .int yab, .int ybl, .int yis, .int yra, .ref ma, .ref be]), (nw, aI g 41 gn)]) (y := yX7_isLeaf) C S (va_runV (As := [.int (nI j)]) (rest := []) C.1 (kX7_isLeaf l g M nw dr pa im ke fl fq te ni re ma be (nI z) yfa yty yat yst yso yva yab ybl yis yra gn n (nI j) (by first | assumption | omega) (by first | assumption | omega) (by first | assumption | omega) H.size) (cwV 1 hts gX7_breaks_X7_isLeaf rfl rfl rfl (by decide +kernel) ⟨Nat.le_of_ble_eq_true rfl, Nat.le_of_ble_eq_true rfl⟩) (preV_at C S 0 rfl rfl [0, 1] rfl (by decide)) rfl rfl hl.1 rfl (lv_room (Nat.le_of_ble_eq_true rfl)) dX7_breaks_2 ⟨Nat.le_of_ble_eq_true rfl, Nat.le_of_ble_eq_true rfl⟩) [0, 1] [2] rfl (wr := [(pa, aI g 246 pf)]) rfl (by decide) (by decide) (fun r0 w0 H locs hq S => ?_)
  obtain ⟨rfl, rfl⟩ := hq
  have S : ST g A ss H locs [(M, ob 7 [.ref nw, .ref dr, .ref pa, .int (nI z), .ref im, .ref ke, .ref fl, .ref fq, .int yfa, .ref te, .int yty, .int yat, .int yst, .int yso, .int yva, .ref ni, .ref re, .int yab, .int ybl, .int yis, .int yra, .ref ma, .ref be]), (nw, aI g 41 gn), (pa, aI g 246 pf)] := ST.sub S [1, 2, 0] (by decide) rfl
  refine br_neB (tgt := 10) hx hb dX7_breaks_5 (by decide) (fun c_1 => ?_) (fun c_1 => ?_)
  · -- 5 T
    refine lv_aload_n hx hb dX7_breaks_10 rfl (lv_at hl 0 rfl) ?_
    refine lv_iload_n hx hb dX7_breaks_11 rfl (lv_at hl 1 rfl) ?_
    refine after_I (wc := [(M, ob 7 [.ref nw, .ref dr, .ref pa, .int (nI z), .ref im, .ref ke, .ref fl, .ref fq, .int yfa, .ref te, .int yty, .int yat, .int yst, .int yso, .int yva, .ref ni, .ref re, .int yab, .int ybl, .int yis, .int yra, .ref ma, .ref be]), (nw, aI g 41 gn)]) (y := yX7_isWhole) C S (va_runV (As := [.int (nI j)]) (rest := []) C.1 (kX7_isWhole l g M nw dr pa im ke fl fq te ni re ma be (nI z) yfa yty yat yst yso yva yab ybl yis yra gn n ww j (by first | assumption | omega) (by first | assumption | omega) (by first | assumption | omega) (by first | assumption | omega) H.size) (cwV 1 hts gX7_breaks_X7_isWhole rfl rfl rfl (by decide +kernel) ⟨Nat.le_of_ble_eq_true rfl, Nat.le_of_ble_eq_true rfl⟩) (preV_at C S 0 rfl rfl [0, 1] rfl (by decide)) rfl rfl hl.1 rfl (lv_room (Nat.le_of_ble_eq_true rfl)) dX7_breaks_12 ⟨Nat.le_of_ble_eq_true rfl, Nat.le_of_ble_eq_true rfl⟩) [0, 1] [2] rfl (wr := [(pa, aI g 246 pf)]) rfl (by decide) (by decide) (fun r0 w0 H locs hq S => ?_)
    obtain ⟨rfl, rfl⟩ := hq
    have S : ST g A ss H locs [(M, ob 7 [.ref nw, .ref dr, .ref pa, .int (nI z), .ref im, .ref ke, .ref fl, .ref fq, .int yfa, .ref te, .int yty, .int yat, .int yst, .int yso, .int yva, .ref ni, .ref re, .int yab, .int ybl, .int yis, .int yra, .ref ma, .ref be]), (nw, aI g 41 gn), (pa, aI g 246 pf)] := ST.sub S [1, 2, 0] (by decide) rfl
    refine br_neB (tgt := 21) hx hb dX7_breaks_15 (by decide) (fun c_2 => ?_) (fun c_2 => ?_)
    · -- 15 T
      refine lv_aload_n hx hb dX7_breaks_21 rfl (lv_at hl 0 rfl) ?_
      refine after_V (wc := [(M, ob 7 [.ref nw, .ref dr, .ref pa, .int (nI z), .ref im, .ref ke, .ref fl, .ref fq, .int yfa, .ref te, .int yty, .int yat, .int yst, .int yso, .int yva, .ref ni, .ref re, .int yab, .int ybl, .int yis, .int yra, .ref ma, .ref be]), (nw, aI g 41 gn), (pa, aI g 246 pf)]) (y := yX7_notes) C S (va_runV (As := []) (rest := []) C.1 (kX7_notes l g M nw dr pa im ke fl fq te ni re ma be yfa yty yat yst yso yva yab ybl yis yra z gn pf (by first | assumption | omega) H.size) (cwV 0 hts gX7_breaks_X7_notes rfl rfl rfl (by decide +kernel) ⟨Nat.le_of_ble_eq_true rfl, Nat.le_of_ble_eq_true rfl⟩) (preV_at C S 0 rfl rfl [0, 1, 2] rfl (by decide)) rfl rfl hl.1 rfl (lv_room (Nat.le_of_ble_eq_true rfl)) dX7_breaks_22 ⟨Nat.le_of_ble_eq_true rfl, Nat.le_of_ble_eq_true rfl⟩) [0, 1, 2] [] rfl (wr := []) rfl (by decide) (by decide) (fun w0 H locs hq S => ?_)
      obtain ⟨pf'_3, hNT_4, rfl⟩ := hq
      have S : ST g A ss H locs [(M, ob 7 [.ref nw, .ref dr, .ref pa, .int (nI (min (z + 1) 6)), .ref im, .ref ke, .ref fl, .ref fq, .int yfa, .ref te, .int yty, .int yat, .int yst, .int yso, .int yva, .ref ni, .ref re, .int yab, .int ybl, .int yis, .int yra, .ref ma, .ref be]), (nw, aI g 41 gn), (pa, aI g 246 pf'_3)] := S
      refine lv_aload_n hx hb dX7_breaks_25 rfl (lv_at hl 0 rfl) ?_
      refine top_get C S inX7_breaksg_X7 rfl 0 rfl 0 (by decide) (by decide +kernel) rfl rfl dX7_breaks_26 ?_
      refine lv_iconst (v := 5) hx hb dX7_breaks_29 (by decide) ?_
      refine lv_iload_n hx hb dX7_breaks_30 rfl (lv_at hl 1 rfl) ?_
      refine lv_imul hx hb dX7_breaks_31 ?_
      refine top_eq (y := nI (5 * j)) (pk_mul _ _) ?_
      refine lv_iconst (v := 5) hx hb dX7_breaks_32 (by decide) ?_
      refine lv_iadd hx hb dX7_breaks_33 ?_
      refine top_eq (y := nI ((5 * j) + 5)) (nI_add _ _) ?_
      refine lv_iconst (v := 0) hx hb dX7_breaks_34 (by decide) ?_
      refine top_ist C S 1 rfl (j := ((5 * j) + 5)) rfl (by omega) (by decide) dX7_breaks_35 (fun H locs S => ?_)
      have S : ST g A ss H locs [(M, ob 7 [.ref nw, .ref dr, .ref pa, .int (nI (min (z + 1) 6)), .ref im, .ref ke, .ref fl, .ref fq, .int yfa, .ref te, .int yty, .int yat, .int yst, .int yso, .int yva, .ref ni, .ref re, .int yab, .int ybl, .int yis, .int yra, .ref ma, .ref be]), (nw, aI g 41 (upd gn ((5 * j) + 5) 0)), (pa, aI g 246 pf'_3)] := S
      refine lv_aload_n hx hb dX7_breaks_36 rfl (lv_at hl 0 rfl) ?_
      refine after_I (wc := [(M, ob 7 [.ref nw, .ref dr, .ref pa, .int (nI (min (z + 1) 6)), .ref im, .ref ke, .ref fl, .ref fq, .int yfa, .ref te, .int yty, .int yat, .int yst, .int yso, .int yva, .ref ni, .ref re, .int yab, .int ybl, .int yis, .int yra, .ref ma, .ref be]), (nw, aI g 41 (upd gn ((5 * j) + 5) 0))]) (y := yX7_whole) C S (va_runV (As := []) (rest := []) C.1 (kX7_whole l g M nw dr pa im ke fl fq te ni re ma be (nI (min (z + 1) 6)) yfa yty yat yst yso yva yab ybl yis yra (upd gn ((5 * j) + 5) 0) n (clr ww j) (by first | assumption | omega) (by rw [pk_un (by omega)]; exact hg0) (gw_clr hn hww hj hgw) hnw H.size) (cwV 0 hts gX7_breaks_X7_whole rfl rfl rfl (by decide +kernel) ⟨Nat.le_of_ble_eq_true rfl, Nat.le_of_ble_eq_true rfl⟩) (preV_at C S 0 rfl rfl [0, 1] rfl (by decide)) rfl rfl hl.1 rfl (lv_room (Nat.le_of_ble_eq_true rfl)) dX7_breaks_37 ⟨Nat.le_of_ble_eq_true rfl, Nat.le_of_ble_eq_true rfl⟩) [0, 1] [2] rfl (wr := [(pa, aI g 246 pf'_3)]) rfl (by decide) (by decide) (fun r0 w0 H locs hq S => ?_)
      obtain ⟨rfl, rfl⟩ := hq
      have S : ST g A ss H locs [(M, ob 7 [.ref nw, .ref dr, .ref pa, .int (nI (min (z + 1) 6)), .ref im, .ref ke, .ref fl, .ref fq, .int yfa, .ref te, .int yty, .int yat, .int yst, .int yso, .int yva, .ref ni, .ref re, .int yab, .int ybl, .int yis, .int yra, .ref ma, .ref be]), (nw, aI g 41 (upd gn ((5 * j) + 5) 0)), (pa, aI g 246 pf'_3)] := ST.sub S [1, 2, 0] (by decide) rfl
      refine after_I (wc := []) (y := yX7_ones) C S (va_runS (As := [.int (nI (clr ww j))]) (rest := []) C.1 (kX7_ones l g (clr ww j) hn8 H.size) (va_cwS 1 hts gX7_breaks_X7_ones rfl rfl rfl (by decide +kernel) ⟨Nat.le_of_ble_eq_true rfl, Nat.le_of_ble_eq_true rfl⟩) (preS_at C S [] rfl (by decide)) rfl rfl hl.1 rfl (lv_room (Nat.le_of_ble_eq_true rfl)) dX7_breaks_40 ⟨Nat.le_of_ble_eq_true rfl, Nat.le_of_ble_eq_true rfl⟩) [] [0, 1, 2] rfl (wr := [(M, ob 7 [.ref nw, .ref dr, .ref pa, .int (nI (min (z + 1) 6)), .ref im, .ref ke, .ref fl, .ref fq, .int yfa, .ref te, .int yty, .int yat, .int yst, .int yso, .int yva, .ref ni, .ref re, .int yab, .int ybl, .int yis, .int yra, .ref ma, .ref be]), (nw, aI g 41 (upd gn ((5 * j) + 5) 0)), (pa, aI g 246 pf'_3)]) rfl (by decide) (by decide) (fun r0 w0 H locs hq S => ?_)
      obtain ⟨rfl, rfl⟩ := hq
      have S : ST g A ss H locs [(M, ob 7 [.ref nw, .ref dr, .ref pa, .int (nI (min (z + 1) 6)), .ref im, .ref ke, .ref fl, .ref fq, .int yfa, .ref te, .int yty, .int yat, .int yst, .int yso, .int yva, .ref ni, .ref re, .int yab, .int ybl, .int yis, .int yra, .ref ma, .ref be]), (nw, aI g 41 (upd gn ((5 * j) + 5) 0)), (pa, aI g 246 pf'_3)] := S
      exact ret_I C S hr dX7_breaks_43 ⟨(by first | rfl | simp only [if_pos c_1, if_pos c_2]), pf'_3, (by first | assumption | omega), (by first | rfl | simp only [if_pos c_1, if_pos c_2])⟩
    · -- 15 F
      rw [hbit] at c_2; cases c_2
  · -- 5 F
    rw [hok] at c_1; cases c_1

set_option maxRecDepth 100000 in
set_option maxHeartbeats 4000000 in
theorem kX7_mendsb (l : Launch) (g : GG) (M : Nat) (nw : Nat) (dr : Nat) (pa : Nat) (im : Nat) (ke : Nat) (fl : Nat) (fq : Nat) (te : Nat) (ni : Nat) (re : Nat) (ma : Nat) (be : Nat) (ypa : Int32) (yfa : Int32) (yty : Int32) (yat : Int32) (yst : Int32) (yso : Int32) (yva : Int32) (yab : Int32) (ybl : Int32) (yis : Int32) (yra : Int32) (gn : Nat → Int32) (n : Nat) (x : Int32) (hn : n ≤ 8) (hg0 : gn 0 = nI n) (hn1 : 1 ≤ n) (hbad : okB x n = false) : KI l g yX7_mends wsX7_mends 2 43 [.ref M, .int x] [(M, ob 7 [.ref nw, .ref dr, .ref pa, .int ypa, .ref im, .ref ke, .ref fl, .ref fq, .int yfa, .ref te, .int yty, .int yat, .int yst, .int yso, .int yva, .ref ni, .ref re, .int yab, .int ybl, .int yis, .int yra, .ref ma, .ref be]), (nw, aI g 41 gn)] (fun (r : Int32) (w' : va_W) => r = (-1) ∧ w' = [(M, ob 7 [.ref nw, .ref dr, .ref pa, .int ypa, .ref im, .ref ke, .ref fl, .ref fq, .int yfa, .ref te, .int yty, .int yat, .int yst, .int yso, .int yva, .ref ni, .ref re, .int yab, .int ybl, .int yis, .int yra, .ref ma, .ref be]), (nw, aI g 41 gn)]) := by
  refine kI_of (cc := cX7_mends) (maxL := 2) (by decide) rfl (Nat.le_of_ble_eq_true rfl) ?_
  intro pp ee ss mm bel mth cd A ls C S hr hl
  obtain ⟨hx, hb, hml, hown, hts⟩ := id C.1
  have hl : lv_has ls 2 [(0, .ref M), (1, .int x)] := hl
  obtain ⟨H, hH⟩ : ∃ H, H = ss.heap := ⟨_, rfl⟩
  obtain ⟨locs, hL0⟩ : ∃ L : List Loc, L = [] := ⟨_, rfl⟩
  rw [← hH, ← hL0] at S ⊢
  refine lv_aload_n hx hb dX7_mends_0 rfl (lv_at hl 0 rfl) ?_
  refine lv_iload_n hx hb dX7_mends_1 rfl (lv_at hl 1 rfl) ?_
  refine after_I (wc := [(M, ob 7 [.ref nw, .ref dr, .ref pa, .int ypa, .ref im, .ref ke, .ref fl, .ref fq, .int yfa, .ref te, .int yty, .int yat, .int yst, .int yso, .int yva, .ref ni, .ref re, .int yab, .int ybl, .int yis, .int yra, .ref ma, .ref be]), (nw, aI g 41 gn)]) (y := yX7_isLeaf) C S (va_runV (As := [.int x]) (rest := []) C.1 (kX7_isLeaf l g M nw dr pa im ke fl fq te ni re ma be ypa yfa yty yat yst yso yva yab ybl yis yra gn n x (by first | assumption | omega) (by first | assumption | omega) (by first | assumption | omega) H.size) (cwV 1 hts gX7_mends_X7_isLeaf rfl rfl rfl (by decide +kernel) ⟨Nat.le_of_ble_eq_true rfl, Nat.le_of_ble_eq_true rfl⟩) (preV_at C S 0 rfl rfl [0, 1] rfl (by decide)) rfl rfl hl.1 rfl (lv_room (Nat.le_of_ble_eq_true rfl)) dX7_mends_2 ⟨Nat.le_of_ble_eq_true rfl, Nat.le_of_ble_eq_true rfl⟩) [0, 1] [] rfl (wr := []) rfl (by decide) (by decide) (fun r0 w0 H locs hq S => ?_)
  obtain ⟨rfl, rfl⟩ := hq
  have S : ST g A ss H locs [(M, ob 7 [.ref nw, .ref dr, .ref pa, .int ypa, .ref im, .ref ke, .ref fl, .ref fq, .int yfa, .ref te, .int yty, .int yat, .int yst, .int yso, .int yva, .ref ni, .ref re, .int yab, .int ybl, .int yis, .int yra, .ref ma, .ref be]), (nw, aI g 41 gn)] := S
  refine br_neB (tgt := 10) hx hb dX7_mends_5 (by decide) (fun c_1 => ?_) (fun c_1 => ?_)
  · -- 5 T
    rw [hbad] at c_1; cases c_1
  · -- 5 F
    refine lv_iconst (v := (-1)) hx hb dX7_mends_8 (by decide) ?_
    exact ret_I C S hr dX7_mends_9 ⟨(by first | rfl | simp only [if_neg (Bool.eq_false_iff.mp c_1)]), (by first | rfl | simp only [if_neg (Bool.eq_false_iff.mp c_1)])⟩

set_option maxRecDepth 100000 in
set_option maxHeartbeats 4000000 in
theorem kX7_mendss (l : Launch) (g : GG) (M : Nat) (nw : Nat) (dr : Nat) (pa : Nat) (im : Nat) (ke : Nat) (fl : Nat) (fq : Nat) (te : Nat) (ni : Nat) (re : Nat) (ma : Nat) (be : Nat) (ypa : Int32) (yfa : Int32) (yty : Int32) (yat : Int32) (yst : Int32) (yso : Int32) (yva : Int32) (yab : Int32) (ybl : Int32) (yis : Int32) (yra : Int32) (gn : Nat → Int32) (n : Nat) (ww : Nat) (nu : Nat → Nat → Nat) (j : Nat) (hn1 : 1 ≤ n) (hn : n ≤ 8) (hww : ww < 2 ^ n) (hg0 : gn 0 = nI n) (hgn : ∀ a i, a < 4 → i < n → gn (5 * i + (a + 1)) = nI (nu a i)) (hgw : ∀ i, i < n → gn (5 * i + 5) = nI (ww.testBit i).toNat) (hB : HB nu n) (hj : j < n) (hbit : ww.testBit j = true) : KI l g yX7_mends wsX7_mends 2 43 [.ref M, .int (nI j)] [(M, ob 7 [.ref nw, .ref dr, .ref pa, .int ypa, .ref im, .ref ke, .ref fl, .ref fq, .int yfa, .ref te, .int yty, .int yat, .int yst, .int yso, .int yva, .ref ni, .ref re, .int yab, .int ybl, .int yis, .int yra, .ref ma, .ref be]), (nw, aI g 41 gn)] (fun (r : Int32) (w' : va_W) => r = (-2) ∧ w' = [(M, ob 7 [.ref nw, .ref dr, .ref pa, .int ypa, .ref im, .ref ke, .ref fl, .ref fq, .int yfa, .ref te, .int yty, .int yat, .int yst, .int yso, .int yva, .ref ni, .ref re, .int yab, .int ybl, .int yis, .int yra, .ref ma, .ref be]), (nw, aI g 41 gn)]) := by
  refine kI_of (cc := cX7_mends) (maxL := 2) (by decide) rfl (Nat.le_of_ble_eq_true rfl) ?_
  intro pp ee ss mm bel mth cd A ls C S hr hl
  obtain ⟨hx, hb, hml, hown, hts⟩ := id C.1
  have hl : lv_has ls 2 [(0, .ref M), (1, .int (nI j))] := hl
  obtain ⟨H, hH⟩ : ∃ H, H = ss.heap := ⟨_, rfl⟩
  obtain ⟨locs, hL0⟩ : ∃ L : List Loc, L = [] := ⟨_, rfl⟩
  rw [← hH, ← hL0] at S ⊢
  have hok : okB (nI j) n = true := ok_nI hj (by omega)
  refine lv_aload_n hx hb dX7_mends_0 rfl (lv_at hl 0 rfl) ?_
  refine lv_iload_n hx hb dX7_mends_1 rfl (lv_at hl 1 rfl) ?_
  refine after_I (wc := [(M, ob 7 [.ref nw, .ref dr, .ref pa, .int ypa, .ref im, .ref ke, .ref fl, .ref fq, .int yfa, .ref te, .int yty, .int yat, .int yst, .int yso, .int yva, .ref ni, .ref re, .int yab, .int ybl, .int yis, .int yra, .ref ma, .ref be]), (nw, aI g 41 gn)]) (y := yX7_isLeaf) C S (va_runV (As := [.int (nI j)]) (rest := []) C.1 (kX7_isLeaf l g M nw dr pa im ke fl fq te ni re ma be ypa yfa yty yat yst yso yva yab ybl yis yra gn n (nI j) (by first | assumption | omega) (by first | assumption | omega) (by first | assumption | omega) H.size) (cwV 1 hts gX7_mends_X7_isLeaf rfl rfl rfl (by decide +kernel) ⟨Nat.le_of_ble_eq_true rfl, Nat.le_of_ble_eq_true rfl⟩) (preV_at C S 0 rfl rfl [0, 1] rfl (by decide)) rfl rfl hl.1 rfl (lv_room (Nat.le_of_ble_eq_true rfl)) dX7_mends_2 ⟨Nat.le_of_ble_eq_true rfl, Nat.le_of_ble_eq_true rfl⟩) [0, 1] [] rfl (wr := []) rfl (by decide) (by decide) (fun r0 w0 H locs hq S => ?_)
  obtain ⟨rfl, rfl⟩ := hq
  have S : ST g A ss H locs [(M, ob 7 [.ref nw, .ref dr, .ref pa, .int ypa, .ref im, .ref ke, .ref fl, .ref fq, .int yfa, .ref te, .int yty, .int yat, .int yst, .int yso, .int yva, .ref ni, .ref re, .int yab, .int ybl, .int yis, .int yra, .ref ma, .ref be]), (nw, aI g 41 gn)] := S
  refine br_neB (tgt := 10) hx hb dX7_mends_5 (by decide) (fun c_1 => ?_) (fun c_1 => ?_)
  · -- 5 T
    refine lv_aload_n hx hb dX7_mends_10 rfl (lv_at hl 0 rfl) ?_
    refine lv_iload_n hx hb dX7_mends_11 rfl (lv_at hl 1 rfl) ?_
    refine after_I (wc := [(M, ob 7 [.ref nw, .ref dr, .ref pa, .int ypa, .ref im, .ref ke, .ref fl, .ref fq, .int yfa, .ref te, .int yty, .int yat, .int yst, .int yso, .int yva, .ref ni, .ref re, .int yab, .int ybl, .int yis, .int yra, .ref ma, .ref be]), (nw, aI g 41 gn)]) (y := yX7_isWhole) C S (va_runV (As := [.int (nI j)]) (rest := []) C.1 (kX7_isWhole l g M nw dr pa im ke fl fq te ni re ma be ypa yfa yty yat yst yso yva yab ybl yis yra gn n ww j (by first | assumption | omega) (by first | assumption | omega) (by first | assumption | omega) (by first | assumption | omega) H.size) (cwV 1 hts gX7_mends_X7_isWhole rfl rfl rfl (by decide +kernel) ⟨Nat.le_of_ble_eq_true rfl, Nat.le_of_ble_eq_true rfl⟩) (preV_at C S 0 rfl rfl [0, 1] rfl (by decide)) rfl rfl hl.1 rfl (lv_room (Nat.le_of_ble_eq_true rfl)) dX7_mends_12 ⟨Nat.le_of_ble_eq_true rfl, Nat.le_of_ble_eq_true rfl⟩) [0, 1] [] rfl (wr := []) rfl (by decide) (by decide) (fun r0 w0 H locs hq S => ?_)
    obtain ⟨rfl, rfl⟩ := hq
    have S : ST g A ss H locs [(M, ob 7 [.ref nw, .ref dr, .ref pa, .int ypa, .ref im, .ref ke, .ref fl, .ref fq, .int yfa, .ref te, .int yty, .int yat, .int yst, .int yso, .int yva, .ref ni, .ref re, .int yab, .int ybl, .int yis, .int yra, .ref ma, .ref be]), (nw, aI g 41 gn)] := S
    refine br_eqB (tgt := 21) hx hb dX7_mends_15 (by decide) (fun c_2 => ?_) (fun c_2 => ?_)
    · -- 15 T
      rw [hbit] at c_2; cases c_2
    · -- 15 F
      refine lv_bipush (v := (-2)) hx hb dX7_mends_18 (by decide) ?_
      exact ret_I C S hr dX7_mends_20 ⟨(by first | rfl | simp only [if_pos c_1, if_pos c_2]), (by first | rfl | simp only [if_pos c_1, if_pos c_2])⟩
  · -- 5 F
    rw [hok] at c_1; cases c_1

theorem inX7_mendsg_X7 : ∀ w ∈ wsX70, w ∈ wsX7_mends := by decide +kernel
set_option maxRecDepth 100000 in
set_option maxHeartbeats 4000000 in
theorem kX7_mendsg (l : Launch) (g : GG) (M : Nat) (nw : Nat) (dr : Nat) (pa : Nat) (im : Nat) (ke : Nat) (fl : Nat) (fq : Nat) (te : Nat) (ni : Nat) (re : Nat) (ma : Nat) (be : Nat) (yfa : Int32) (yty : Int32) (yat : Int32) (yst : Int32) (yso : Int32) (yva : Int32) (yab : Int32) (ybl : Int32) (yis : Int32) (yra : Int32) (gn : Nat → Int32) (n : Nat) (ww : Nat) (nu : Nat → Nat → Nat) (pf : Nat → Int32) (z : Nat) (j : Nat) (hn1 : 1 ≤ n) (hn : n ≤ 8) (hww : ww < 2 ^ n) (hg0 : gn 0 = nI n) (hgn : ∀ a i, a < 4 → i < n → gn (5 * i + (a + 1)) = nI (nu a i)) (hgw : ∀ i, i < n → gn (5 * i + 5) = nI (ww.testBit i).toNat) (hB : HB nu n) (hz6 : z ≤ 6) (hj : j < n) (hbit : ww.testBit j = false) : KI l g yX7_mends wsX7_mends 3 65 [.ref M, .int (nI j)] [(M, ob 7 [.ref nw, .ref dr, .ref pa, .int (nI z), .ref im, .ref ke, .ref fl, .ref fq, .int yfa, .ref te, .int yty, .int yat, .int yst, .int yso, .int yva, .ref ni, .ref re, .int yab, .int ybl, .int yis, .int yra, .ref ma, .ref be]), (nw, aI g 41 gn), (pa, aI g 246 pf)] (fun (r : Int32) (w' : va_W) => r = (nI (pop (ww ||| 2 ^ j))) ∧ ∃ (pf' : Nat → Int32), (notesP z gn pf pf') ∧ w' = [(M, ob 7 [.ref nw, .ref dr, .ref pa, .int (nI (min (z + 1) 6)), .ref im, .ref ke, .ref fl, .ref fq, .int yfa, .ref te, .int yty, .int yat, .int yst, .int yso, .int yva, .ref ni, .ref re, .int yab, .int ybl, .int yis, .int yra, .ref ma, .ref be]), (nw, aI g 41 (upd gn (5 * j + 5) 1)), (pa, aI g 246 pf')]) := by
  refine kI_of (cc := cX7_mends) (maxL := 2) (by decide) rfl (Nat.le_of_ble_eq_true rfl) ?_
  intro pp ee ss mm bel mth cd A ls C S hr hl
  obtain ⟨hx, hb, hml, hown, hts⟩ := id C.1
  have hl : lv_has ls 2 [(0, .ref M), (1, .int (nI j))] := hl
  obtain ⟨H, hH⟩ : ∃ H, H = ss.heap := ⟨_, rfl⟩
  obtain ⟨locs, hL0⟩ : ∃ L : List Loc, L = [] := ⟨_, rfl⟩
  rw [← hH, ← hL0] at S ⊢
  have hok : okB (nI j) n = true := ok_nI hj (by omega)
  have hnw : ww ||| 2 ^ j < 2 ^ n := set_ltn hww hj
  have hn8 : ww ||| 2 ^ j < 256 := wlt hn hnw
  refine lv_aload_n hx hb dX7_mends_0 rfl (lv_at hl 0 rfl) ?_
  refine lv_iload_n hx hb dX7_mends_1 rfl (lv_at hl 1 rfl) ?_
  refine after_I (wc := [(M, ob 7 [.ref nw, .ref dr, .ref pa, .int (nI z), .ref im, .ref ke, .ref fl, .ref fq, .int yfa, .ref te, .int yty, .int yat, .int yst, .int yso, .int yva, .ref ni, .ref re, .int yab, .int ybl, .int yis, .int yra, .ref ma, .ref be]), (nw, aI g 41 gn)]) (y := yX7_isLeaf) C S (va_runV (As := [.int (nI j)]) (rest := []) C.1 (kX7_isLeaf l g M nw dr pa im ke fl fq te ni re ma be (nI z) yfa yty yat yst yso yva yab ybl yis yra gn n (nI j) (by first | assumption | omega) (by first | assumption | omega) (by first | assumption | omega) H.size) (cwV 1 hts gX7_mends_X7_isLeaf rfl rfl rfl (by decide +kernel) ⟨Nat.le_of_ble_eq_true rfl, Nat.le_of_ble_eq_true rfl⟩) (preV_at C S 0 rfl rfl [0, 1] rfl (by decide)) rfl rfl hl.1 rfl (lv_room (Nat.le_of_ble_eq_true rfl)) dX7_mends_2 ⟨Nat.le_of_ble_eq_true rfl, Nat.le_of_ble_eq_true rfl⟩) [0, 1] [2] rfl (wr := [(pa, aI g 246 pf)]) rfl (by decide) (by decide) (fun r0 w0 H locs hq S => ?_)
  obtain ⟨rfl, rfl⟩ := hq
  have S : ST g A ss H locs [(M, ob 7 [.ref nw, .ref dr, .ref pa, .int (nI z), .ref im, .ref ke, .ref fl, .ref fq, .int yfa, .ref te, .int yty, .int yat, .int yst, .int yso, .int yva, .ref ni, .ref re, .int yab, .int ybl, .int yis, .int yra, .ref ma, .ref be]), (nw, aI g 41 gn), (pa, aI g 246 pf)] := ST.sub S [1, 2, 0] (by decide) rfl
  refine br_neB (tgt := 10) hx hb dX7_mends_5 (by decide) (fun c_1 => ?_) (fun c_1 => ?_)
  · -- 5 T
    refine lv_aload_n hx hb dX7_mends_10 rfl (lv_at hl 0 rfl) ?_
    refine lv_iload_n hx hb dX7_mends_11 rfl (lv_at hl 1 rfl) ?_
    refine after_I (wc := [(M, ob 7 [.ref nw, .ref dr, .ref pa, .int (nI z), .ref im, .ref ke, .ref fl, .ref fq, .int yfa, .ref te, .int yty, .int yat, .int yst, .int yso, .int yva, .ref ni, .ref re, .int yab, .int ybl, .int yis, .int yra, .ref ma, .ref be]), (nw, aI g 41 gn)]) (y := yX7_isWhole) C S (va_runV (As := [.int (nI j)]) (rest := []) C.1 (kX7_isWhole l g M nw dr pa im ke fl fq te ni re ma be (nI z) yfa yty yat yst yso yva yab ybl yis yra gn n ww j (by first | assumption | omega) (by first | assumption | omega) (by first | assumption | omega) (by first | assumption | omega) H.size) (cwV 1 hts gX7_mends_X7_isWhole rfl rfl rfl (by decide +kernel) ⟨Nat.le_of_ble_eq_true rfl, Nat.le_of_ble_eq_true rfl⟩) (preV_at C S 0 rfl rfl [0, 1] rfl (by decide)) rfl rfl hl.1 rfl (lv_room (Nat.le_of_ble_eq_true rfl)) dX7_mends_12 ⟨Nat.le_of_ble_eq_true rfl, Nat.le_of_ble_eq_true rfl⟩) [0, 1] [2] rfl (wr := [(pa, aI g 246 pf)]) rfl (by decide) (by decide) (fun r0 w0 H locs hq S => ?_)
    obtain ⟨rfl, rfl⟩ := hq
    have S : ST g A ss H locs [(M, ob 7 [.ref nw, .ref dr, .ref pa, .int (nI z), .ref im, .ref ke, .ref fl, .ref fq, .int yfa, .ref te, .int yty, .int yat, .int yst, .int yso, .int yva, .ref ni, .ref re, .int yab, .int ybl, .int yis, .int yra, .ref ma, .ref be]), (nw, aI g 41 gn), (pa, aI g 246 pf)] := ST.sub S [1, 2, 0] (by decide) rfl
    refine br_eqB (tgt := 21) hx hb dX7_mends_15 (by decide) (fun c_2 => ?_) (fun c_2 => ?_)
    · -- 15 T
      refine lv_aload_n hx hb dX7_mends_21 rfl (lv_at hl 0 rfl) ?_
      refine after_V (wc := [(M, ob 7 [.ref nw, .ref dr, .ref pa, .int (nI z), .ref im, .ref ke, .ref fl, .ref fq, .int yfa, .ref te, .int yty, .int yat, .int yst, .int yso, .int yva, .ref ni, .ref re, .int yab, .int ybl, .int yis, .int yra, .ref ma, .ref be]), (nw, aI g 41 gn), (pa, aI g 246 pf)]) (y := yX7_notes) C S (va_runV (As := []) (rest := []) C.1 (kX7_notes l g M nw dr pa im ke fl fq te ni re ma be yfa yty yat yst yso yva yab ybl yis yra z gn pf (by first | assumption | omega) H.size) (cwV 0 hts gX7_mends_X7_notes rfl rfl rfl (by decide +kernel) ⟨Nat.le_of_ble_eq_true rfl, Nat.le_of_ble_eq_true rfl⟩) (preV_at C S 0 rfl rfl [0, 1, 2] rfl (by decide)) rfl rfl hl.1 rfl (lv_room (Nat.le_of_ble_eq_true rfl)) dX7_mends_22 ⟨Nat.le_of_ble_eq_true rfl, Nat.le_of_ble_eq_true rfl⟩) [0, 1, 2] [] rfl (wr := []) rfl (by decide) (by decide) (fun w0 H locs hq S => ?_)
      obtain ⟨pf'_3, hNT_4, rfl⟩ := hq
      have S : ST g A ss H locs [(M, ob 7 [.ref nw, .ref dr, .ref pa, .int (nI (min (z + 1) 6)), .ref im, .ref ke, .ref fl, .ref fq, .int yfa, .ref te, .int yty, .int yat, .int yst, .int yso, .int yva, .ref ni, .ref re, .int yab, .int ybl, .int yis, .int yra, .ref ma, .ref be]), (nw, aI g 41 gn), (pa, aI g 246 pf'_3)] := S
      refine lv_aload_n hx hb dX7_mends_25 rfl (lv_at hl 0 rfl) ?_
      refine top_get C S inX7_mendsg_X7 rfl 0 rfl 0 (by decide) (by decide +kernel) rfl rfl dX7_mends_26 ?_
      refine lv_iconst (v := 5) hx hb dX7_mends_29 (by decide) ?_
      refine lv_iload_n hx hb dX7_mends_30 rfl (lv_at hl 1 rfl) ?_
      refine lv_imul hx hb dX7_mends_31 ?_
      refine top_eq (y := nI (5 * j)) (pk_mul _ _) ?_
      refine lv_iconst (v := 5) hx hb dX7_mends_32 (by decide) ?_
      refine lv_iadd hx hb dX7_mends_33 ?_
      refine top_eq (y := nI ((5 * j) + 5)) (nI_add _ _) ?_
      refine lv_iconst (v := 1) hx hb dX7_mends_34 (by decide) ?_
      refine top_ist C S 1 rfl (j := ((5 * j) + 5)) rfl (by omega) (by decide) dX7_mends_35 (fun H locs S => ?_)
      have S : ST g A ss H locs [(M, ob 7 [.ref nw, .ref dr, .ref pa, .int (nI (min (z + 1) 6)), .ref im, .ref ke, .ref fl, .ref fq, .int yfa, .ref te, .int yty, .int yat, .int yst, .int yso, .int yva, .ref ni, .ref re, .int yab, .int ybl, .int yis, .int yra, .ref ma, .ref be]), (nw, aI g 41 (upd gn ((5 * j) + 5) 1)), (pa, aI g 246 pf'_3)] := S
      refine lv_aload_n hx hb dX7_mends_36 rfl (lv_at hl 0 rfl) ?_
      refine after_I (wc := [(M, ob 7 [.ref nw, .ref dr, .ref pa, .int (nI (min (z + 1) 6)), .ref im, .ref ke, .ref fl, .ref fq, .int yfa, .ref te, .int yty, .int yat, .int yst, .int yso, .int yva, .ref ni, .ref re, .int yab, .int ybl, .int yis, .int yra, .ref ma, .ref be]), (nw, aI g 41 (upd gn ((5 * j) + 5) 1))]) (y := yX7_whole) C S (va_runV (As := []) (rest := []) C.1 (kX7_whole l g M nw dr pa im ke fl fq te ni re ma be (nI (min (z + 1) 6)) yfa yty yat yst yso yva yab ybl yis yra (upd gn ((5 * j) + 5) 1) n (ww ||| 2 ^ j) (by first | assumption | omega) (by rw [pk_un (by omega)]; exact hg0) (gw_set hn hww hj hgw) hnw H.size) (cwV 0 hts gX7_mends_X7_whole rfl rfl rfl (by decide +kernel) ⟨Nat.le_of_ble_eq_true rfl, Nat.le_of_ble_eq_true rfl⟩) (preV_at C S 0 rfl rfl [0, 1] rfl (by decide)) rfl rfl hl.1 rfl (lv_room (Nat.le_of_ble_eq_true rfl)) dX7_mends_37 ⟨Nat.le_of_ble_eq_true rfl, Nat.le_of_ble_eq_true rfl⟩) [0, 1] [2] rfl (wr := [(pa, aI g 246 pf'_3)]) rfl (by decide) (by decide) (fun r0 w0 H locs hq S => ?_)
      obtain ⟨rfl, rfl⟩ := hq
      have S : ST g A ss H locs [(M, ob 7 [.ref nw, .ref dr, .ref pa, .int (nI (min (z + 1) 6)), .ref im, .ref ke, .ref fl, .ref fq, .int yfa, .ref te, .int yty, .int yat, .int yst, .int yso, .int yva, .ref ni, .ref re, .int yab, .int ybl, .int yis, .int yra, .ref ma, .ref be]), (nw, aI g 41 (upd gn ((5 * j) + 5) 1)), (pa, aI g 246 pf'_3)] := ST.sub S [1, 2, 0] (by decide) rfl
      refine after_I (wc := []) (y := yX7_ones) C S (va_runS (As := [.int (nI (ww ||| 2 ^ j))]) (rest := []) C.1 (kX7_ones l g (ww ||| 2 ^ j) hn8 H.size) (va_cwS 1 hts gX7_mends_X7_ones rfl rfl rfl (by decide +kernel) ⟨Nat.le_of_ble_eq_true rfl, Nat.le_of_ble_eq_true rfl⟩) (preS_at C S [] rfl (by decide)) rfl rfl hl.1 rfl (lv_room (Nat.le_of_ble_eq_true rfl)) dX7_mends_40 ⟨Nat.le_of_ble_eq_true rfl, Nat.le_of_ble_eq_true rfl⟩) [] [0, 1, 2] rfl (wr := [(M, ob 7 [.ref nw, .ref dr, .ref pa, .int (nI (min (z + 1) 6)), .ref im, .ref ke, .ref fl, .ref fq, .int yfa, .ref te, .int yty, .int yat, .int yst, .int yso, .int yva, .ref ni, .ref re, .int yab, .int ybl, .int yis, .int yra, .ref ma, .ref be]), (nw, aI g 41 (upd gn ((5 * j) + 5) 1)), (pa, aI g 246 pf'_3)]) rfl (by decide) (by decide) (fun r0 w0 H locs hq S => ?_)
      obtain ⟨rfl, rfl⟩ := hq
      have S : ST g A ss H locs [(M, ob 7 [.ref nw, .ref dr, .ref pa, .int (nI (min (z + 1) 6)), .ref im, .ref ke, .ref fl, .ref fq, .int yfa, .ref te, .int yty, .int yat, .int yst, .int yso, .int yva, .ref ni, .ref re, .int yab, .int ybl, .int yis, .int yra, .ref ma, .ref be]), (nw, aI g 41 (upd gn ((5 * j) + 5) 1)), (pa, aI g 246 pf'_3)] := S
      exact ret_I C S hr dX7_mends_43 ⟨(by first | rfl | simp only [if_pos c_1, if_neg (Bool.eq_false_iff.mp c_2)]), pf'_3, (by first | assumption | omega), (by first | rfl | simp only [if_pos c_1, if_neg (Bool.eq_false_iff.mp c_2)])⟩
    · -- 15 F
      rw [hbit] at c_2; cases c_2
  · -- 5 F
    rw [hok] at c_1; cases c_1

set_option maxRecDepth 100000 in
set_option maxHeartbeats 4000000 in
theorem kX7_cambersb (l : Launch) (g : GG) (M : Nat) (nw : Nat) (dr : Nat) (pa : Nat) (im : Nat) (ke : Nat) (fl : Nat) (fq : Nat) (te : Nat) (ni : Nat) (re : Nat) (ma : Nat) (be : Nat) (ypa : Int32) (yfa : Int32) (yty : Int32) (yat : Int32) (yst : Int32) (yso : Int32) (yva : Int32) (yab : Int32) (ybl : Int32) (yis : Int32) (yra : Int32) (gn : Nat → Int32) (n : Nat) (x : Int32) (y : Int32) (hn : n ≤ 8) (hg0 : gn 0 = nI n) (hn1 : 1 ≤ n) (hbad : okB x n = false) : KI l g yX7_cambers wsX7_cambers 2 43 [.ref M, .int x, .int y] [(M, ob 7 [.ref nw, .ref dr, .ref pa, .int ypa, .ref im, .ref ke, .ref fl, .ref fq, .int yfa, .ref te, .int yty, .int yat, .int yst, .int yso, .int yva, .ref ni, .ref re, .int yab, .int ybl, .int yis, .int yra, .ref ma, .ref be]), (nw, aI g 41 gn)] (fun (r : Int32) (w' : va_W) => r = (-1) ∧ w' = [(M, ob 7 [.ref nw, .ref dr, .ref pa, .int ypa, .ref im, .ref ke, .ref fl, .ref fq, .int yfa, .ref te, .int yty, .int yat, .int yst, .int yso, .int yva, .ref ni, .ref re, .int yab, .int ybl, .int yis, .int yra, .ref ma, .ref be]), (nw, aI g 41 gn)]) := by
  refine kI_of (cc := cX7_cambers) (maxL := 4) (by decide) rfl (Nat.le_of_ble_eq_true rfl) ?_
  intro pp ee ss mm bel mth cd A ls C S hr hl
  obtain ⟨hx, hb, hml, hown, hts⟩ := id C.1
  have hl : lv_has ls 4 [(0, .ref M), (1, .int x), (2, .int y)] := hl
  obtain ⟨H, hH⟩ : ∃ H, H = ss.heap := ⟨_, rfl⟩
  obtain ⟨locs, hL0⟩ : ∃ L : List Loc, L = [] := ⟨_, rfl⟩
  rw [← hH, ← hL0] at S ⊢
  refine lv_aload_n hx hb dX7_cambers_0 rfl (lv_at hl 0 rfl) ?_
  refine lv_iload_n hx hb dX7_cambers_1 rfl (lv_at hl 1 rfl) ?_
  refine after_I (wc := [(M, ob 7 [.ref nw, .ref dr, .ref pa, .int ypa, .ref im, .ref ke, .ref fl, .ref fq, .int yfa, .ref te, .int yty, .int yat, .int yst, .int yso, .int yva, .ref ni, .ref re, .int yab, .int ybl, .int yis, .int yra, .ref ma, .ref be]), (nw, aI g 41 gn)]) (y := yX7_isLeaf) C S (va_runV (As := [.int x]) (rest := []) C.1 (kX7_isLeaf l g M nw dr pa im ke fl fq te ni re ma be ypa yfa yty yat yst yso yva yab ybl yis yra gn n x (by first | assumption | omega) (by first | assumption | omega) (by first | assumption | omega) H.size) (cwV 1 hts gX7_cambers_X7_isLeaf rfl rfl rfl (by decide +kernel) ⟨Nat.le_of_ble_eq_true rfl, Nat.le_of_ble_eq_true rfl⟩) (preV_at C S 0 rfl rfl [0, 1] rfl (by decide)) rfl rfl hl.1 rfl (lv_room (Nat.le_of_ble_eq_true rfl)) dX7_cambers_2 ⟨Nat.le_of_ble_eq_true rfl, Nat.le_of_ble_eq_true rfl⟩) [0, 1] [] rfl (wr := []) rfl (by decide) (by decide) (fun r0 w0 H locs hq S => ?_)
  obtain ⟨rfl, rfl⟩ := hq
  have S : ST g A ss H locs [(M, ob 7 [.ref nw, .ref dr, .ref pa, .int ypa, .ref im, .ref ke, .ref fl, .ref fq, .int yfa, .ref te, .int yty, .int yat, .int yst, .int yso, .int yva, .ref ni, .ref re, .int yab, .int ybl, .int yis, .int yra, .ref ma, .ref be]), (nw, aI g 41 gn)] := S
  refine br_eqB (tgt := 18) hx hb dX7_cambers_5 (by decide) (fun c_1 => ?_) (fun c_1 => ?_)
  · -- 5 T
    refine lv_iconst (v := (-1)) hx hb dX7_cambers_18 (by decide) ?_
    exact ret_I C S hr dX7_cambers_19 ⟨(by first | rfl | simp only [if_neg (Bool.eq_false_iff.mp c_1)]), (by first | rfl | simp only [if_neg (Bool.eq_false_iff.mp c_1)])⟩
  · -- 5 F
    rw [hbad] at c_1; cases c_1

set_option maxRecDepth 100000 in
set_option maxHeartbeats 4000000 in
theorem kX7_cambersd (l : Launch) (g : GG) (M : Nat) (nw : Nat) (dr : Nat) (pa : Nat) (im : Nat) (ke : Nat) (fl : Nat) (fq : Nat) (te : Nat) (ni : Nat) (re : Nat) (ma : Nat) (be : Nat) (ypa : Int32) (yfa : Int32) (yty : Int32) (yat : Int32) (yst : Int32) (yso : Int32) (yva : Int32) (yab : Int32) (ybl : Int32) (yis : Int32) (yra : Int32) (gn : Nat → Int32) (n : Nat) (j : Nat) (y : Int32) (hn : n ≤ 8) (hg0 : gn 0 = nI n) (hn1 : 1 ≤ n) (hj : j < n) (hbad : okB y 31 = false) : KI l g yX7_cambers wsX7_cambers 2 43 [.ref M, .int (nI j), .int y] [(M, ob 7 [.ref nw, .ref dr, .ref pa, .int ypa, .ref im, .ref ke, .ref fl, .ref fq, .int yfa, .ref te, .int yty, .int yat, .int yst, .int yso, .int yva, .ref ni, .ref re, .int yab, .int ybl, .int yis, .int yra, .ref ma, .ref be]), (nw, aI g 41 gn)] (fun (r : Int32) (w' : va_W) => r = (-1) ∧ w' = [(M, ob 7 [.ref nw, .ref dr, .ref pa, .int ypa, .ref im, .ref ke, .ref fl, .ref fq, .int yfa, .ref te, .int yty, .int yat, .int yst, .int yso, .int yva, .ref ni, .ref re, .int yab, .int ybl, .int yis, .int yra, .ref ma, .ref be]), (nw, aI g 41 gn)]) := by
  refine kI_of (cc := cX7_cambers) (maxL := 4) (by decide) rfl (Nat.le_of_ble_eq_true rfl) ?_
  intro pp ee ss mm bel mth cd A ls C S hr hl
  obtain ⟨hx, hb, hml, hown, hts⟩ := id C.1
  have hl : lv_has ls 4 [(0, .ref M), (1, .int (nI j)), (2, .int y)] := hl
  obtain ⟨H, hH⟩ : ∃ H, H = ss.heap := ⟨_, rfl⟩
  obtain ⟨locs, hL0⟩ : ∃ L : List Loc, L = [] := ⟨_, rfl⟩
  rw [← hH, ← hL0] at S ⊢
  have hok : okB (nI j) n = true := ok_nI hj (by omega)
  refine lv_aload_n hx hb dX7_cambers_0 rfl (lv_at hl 0 rfl) ?_
  refine lv_iload_n hx hb dX7_cambers_1 rfl (lv_at hl 1 rfl) ?_
  refine after_I (wc := [(M, ob 7 [.ref nw, .ref dr, .ref pa, .int ypa, .ref im, .ref ke, .ref fl, .ref fq, .int yfa, .ref te, .int yty, .int yat, .int yst, .int yso, .int yva, .ref ni, .ref re, .int yab, .int ybl, .int yis, .int yra, .ref ma, .ref be]), (nw, aI g 41 gn)]) (y := yX7_isLeaf) C S (va_runV (As := [.int (nI j)]) (rest := []) C.1 (kX7_isLeaf l g M nw dr pa im ke fl fq te ni re ma be ypa yfa yty yat yst yso yva yab ybl yis yra gn n (nI j) (by first | assumption | omega) (by first | assumption | omega) (by first | assumption | omega) H.size) (cwV 1 hts gX7_cambers_X7_isLeaf rfl rfl rfl (by decide +kernel) ⟨Nat.le_of_ble_eq_true rfl, Nat.le_of_ble_eq_true rfl⟩) (preV_at C S 0 rfl rfl [0, 1] rfl (by decide)) rfl rfl hl.1 rfl (lv_room (Nat.le_of_ble_eq_true rfl)) dX7_cambers_2 ⟨Nat.le_of_ble_eq_true rfl, Nat.le_of_ble_eq_true rfl⟩) [0, 1] [] rfl (wr := []) rfl (by decide) (by decide) (fun r0 w0 H locs hq S => ?_)
  obtain ⟨rfl, rfl⟩ := hq
  have S : ST g A ss H locs [(M, ob 7 [.ref nw, .ref dr, .ref pa, .int ypa, .ref im, .ref ke, .ref fl, .ref fq, .int yfa, .ref te, .int yty, .int yat, .int yst, .int yso, .int yva, .ref ni, .ref re, .int yab, .int ybl, .int yis, .int yra, .ref ma, .ref be]), (nw, aI g 41 gn)] := S
  refine br_eqB (tgt := 18) hx hb dX7_cambers_5 (by decide) (fun c_1 => ?_) (fun c_1 => ?_)
  · -- 5 T
    rw [hok] at c_1; cases c_1
  · -- 5 F
    refine lv_iload_n hx hb dX7_cambers_8 rfl (lv_at hl 2 rfl) ?_
    refine lv_iconst (v := 0) hx hb dX7_cambers_9 (by decide) ?_
    refine lv_bipush (v := 30) hx hb dX7_cambers_10 (by decide) ?_
    refine after_I (wc := []) (y := yX7_in) C S (va_runS (As := [.int y, .int 0, .int 30]) (rest := []) C.1 (kX7_inz l g y 30 (by first | assumption | omega) H.size) (va_cwS 3 hts gX7_cambers_X7_in rfl rfl rfl (by decide +kernel) ⟨Nat.le_of_ble_eq_true rfl, Nat.le_of_ble_eq_true rfl⟩) (preS_at C S [] rfl (by decide)) rfl rfl hl.1 rfl (lv_room (Nat.le_of_ble_eq_true rfl)) dX7_cambers_12 ⟨Nat.le_of_ble_eq_true rfl, Nat.le_of_ble_eq_true rfl⟩) [] [0, 1] rfl (wr := [(M, ob 7 [.ref nw, .ref dr, .ref pa, .int ypa, .ref im, .ref ke, .ref fl, .ref fq, .int yfa, .ref te, .int yty, .int yat, .int yst, .int yso, .int yva, .ref ni, .ref re, .int yab, .int ybl, .int yis, .int yra, .ref ma, .ref be]), (nw, aI g 41 gn)]) rfl (by decide) (by decide) (fun r0 w0 H locs hq S => ?_)
    obtain ⟨rfl, rfl⟩ := hq
    have S : ST g A ss H locs [(M, ob 7 [.ref nw, .ref dr, .ref pa, .int ypa, .ref im, .ref ke, .ref fl, .ref fq, .int yfa, .ref te, .int yty, .int yat, .int yst, .int yso, .int yva, .ref ni, .ref re, .int yab, .int ybl, .int yis, .int yra, .ref ma, .ref be]), (nw, aI g 41 gn)] := S
    refine br_neB (tgt := 20) hx hb dX7_cambers_15 (by decide) (fun c_2 => ?_) (fun c_2 => ?_)
    · -- 15 T
      rw [show okB y (30 + 1) = false from hbad] at c_2; cases c_2
    · -- 15 F
      refine lv_iconst (v := (-1)) hx hb dX7_cambers_18 (by decide) ?_
      exact ret_I C S hr dX7_cambers_19 ⟨(by first | rfl | simp only [if_pos c_1, if_neg (Bool.eq_false_iff.mp c_2)]), (by first | rfl | simp only [if_pos c_1, if_neg (Bool.eq_false_iff.mp c_2)])⟩

set_option maxRecDepth 100000 in
set_option maxHeartbeats 4000000 in
theorem kX7_camberss (l : Launch) (g : GG) (M : Nat) (nw : Nat) (dr : Nat) (pa : Nat) (im : Nat) (ke : Nat) (fl : Nat) (fq : Nat) (te : Nat) (ni : Nat) (re : Nat) (ma : Nat) (be : Nat) (ypa : Int32) (yfa : Int32) (yty : Int32) (yat : Int32) (yst : Int32) (yso : Int32) (yva : Int32) (yab : Int32) (ybl : Int32) (yis : Int32) (yra : Int32) (gn : Nat → Int32) (n : Nat) (ww : Nat) (nu : Nat → Nat → Nat) (j : Nat) (d : Nat) (hn1 : 1 ≤ n) (hn : n ≤ 8) (hww : ww < 2 ^ n) (hg0 : gn 0 = nI n) (hgn : ∀ a i, a < 4 → i < n → gn (5 * i + (a + 1)) = nI (nu a i)) (hgw : ∀ i, i < n → gn (5 * i + 5) = nI (ww.testBit i).toNat) (hB : HB nu n) (hj : j < n) (hd : d < 31) (heq : nu 2 j = d) : KI l g yX7_cambers wsX7_cambers 2 43 [.ref M, .int (nI j), .int (nI d)] [(M, ob 7 [.ref nw, .ref dr, .ref pa, .int ypa, .ref im, .ref ke, .ref fl, .ref fq, .int yfa, .ref te, .int yty, .int yat, .int yst, .int yso, .int yva, .ref ni, .ref re, .int yab, .int ybl, .int yis, .int yra, .ref ma, .ref be]), (nw, aI g 41 gn)] (fun (r : Int32) (w' : va_W) => r = (-2) ∧ w' = [(M, ob 7 [.ref nw, .ref dr, .ref pa, .int ypa, .ref im, .ref ke, .ref fl, .ref fq, .int yfa, .ref te, .int yty, .int yat, .int yst, .int yso, .int yva, .ref ni, .ref re, .int yab, .int ybl, .int yis, .int yra, .ref ma, .ref be]), (nw, aI g 41 gn)]) := by
  refine kI_of (cc := cX7_cambers) (maxL := 4) (by decide) rfl (Nat.le_of_ble_eq_true rfl) ?_
  intro pp ee ss mm bel mth cd A ls C S hr hl
  obtain ⟨hx, hb, hml, hown, hts⟩ := id C.1
  have hl : lv_has ls 4 [(0, .ref M), (1, .int (nI j)), (2, .int (nI d))] := hl
  obtain ⟨H, hH⟩ : ∃ H, H = ss.heap := ⟨_, rfl⟩
  obtain ⟨locs, hL0⟩ : ∃ L : List Loc, L = [] := ⟨_, rfl⟩
  rw [← hH, ← hL0] at S ⊢
  have hok : okB (nI j) n = true := ok_nI hj (by omega)
  have hod : okB (nI d) (30 + 1) = true := ok_nI (by omega) (by decide)
  have hcj := (hB j hj).2.2.1
  refine lv_aload_n hx hb dX7_cambers_0 rfl (lv_at hl 0 rfl) ?_
  refine lv_iload_n hx hb dX7_cambers_1 rfl (lv_at hl 1 rfl) ?_
  refine after_I (wc := [(M, ob 7 [.ref nw, .ref dr, .ref pa, .int ypa, .ref im, .ref ke, .ref fl, .ref fq, .int yfa, .ref te, .int yty, .int yat, .int yst, .int yso, .int yva, .ref ni, .ref re, .int yab, .int ybl, .int yis, .int yra, .ref ma, .ref be]), (nw, aI g 41 gn)]) (y := yX7_isLeaf) C S (va_runV (As := [.int (nI j)]) (rest := []) C.1 (kX7_isLeaf l g M nw dr pa im ke fl fq te ni re ma be ypa yfa yty yat yst yso yva yab ybl yis yra gn n (nI j) (by first | assumption | omega) (by first | assumption | omega) (by first | assumption | omega) H.size) (cwV 1 hts gX7_cambers_X7_isLeaf rfl rfl rfl (by decide +kernel) ⟨Nat.le_of_ble_eq_true rfl, Nat.le_of_ble_eq_true rfl⟩) (preV_at C S 0 rfl rfl [0, 1] rfl (by decide)) rfl rfl hl.1 rfl (lv_room (Nat.le_of_ble_eq_true rfl)) dX7_cambers_2 ⟨Nat.le_of_ble_eq_true rfl, Nat.le_of_ble_eq_true rfl⟩) [0, 1] [] rfl (wr := []) rfl (by decide) (by decide) (fun r0 w0 H locs hq S => ?_)
  obtain ⟨rfl, rfl⟩ := hq
  have S : ST g A ss H locs [(M, ob 7 [.ref nw, .ref dr, .ref pa, .int ypa, .ref im, .ref ke, .ref fl, .ref fq, .int yfa, .ref te, .int yty, .int yat, .int yst, .int yso, .int yva, .ref ni, .ref re, .int yab, .int ybl, .int yis, .int yra, .ref ma, .ref be]), (nw, aI g 41 gn)] := S
  refine br_eqB (tgt := 18) hx hb dX7_cambers_5 (by decide) (fun c_1 => ?_) (fun c_1 => ?_)
  · -- 5 T
    rw [hok] at c_1; cases c_1
  · -- 5 F
    refine lv_iload_n hx hb dX7_cambers_8 rfl (lv_at hl 2 rfl) ?_
    refine lv_iconst (v := 0) hx hb dX7_cambers_9 (by decide) ?_
    refine lv_bipush (v := 30) hx hb dX7_cambers_10 (by decide) ?_
    refine after_I (wc := []) (y := yX7_in) C S (va_runS (As := [.int (nI d), .int 0, .int 30]) (rest := []) C.1 (kX7_inz l g (nI d) 30 (by first | assumption | omega) H.size) (va_cwS 3 hts gX7_cambers_X7_in rfl rfl rfl (by decide +kernel) ⟨Nat.le_of_ble_eq_true rfl, Nat.le_of_ble_eq_true rfl⟩) (preS_at C S [] rfl (by decide)) rfl rfl hl.1 rfl (lv_room (Nat.le_of_ble_eq_true rfl)) dX7_cambers_12 ⟨Nat.le_of_ble_eq_true rfl, Nat.le_of_ble_eq_true rfl⟩) [] [0, 1] rfl (wr := [(M, ob 7 [.ref nw, .ref dr, .ref pa, .int ypa, .ref im, .ref ke, .ref fl, .ref fq, .int yfa, .ref te, .int yty, .int yat, .int yst, .int yso, .int yva, .ref ni, .ref re, .int yab, .int ybl, .int yis, .int yra, .ref ma, .ref be]), (nw, aI g 41 gn)]) rfl (by decide) (by decide) (fun r0 w0 H locs hq S => ?_)
    obtain ⟨rfl, rfl⟩ := hq
    have S : ST g A ss H locs [(M, ob 7 [.ref nw, .ref dr, .ref pa, .int ypa, .ref im, .ref ke, .ref fl, .ref fq, .int yfa, .ref te, .int yty, .int yat, .int yst, .int yso, .int yva, .ref ni, .ref re, .int yab, .int ybl, .int yis, .int yra, .ref ma, .ref be]), (nw, aI g 41 gn)] := S
    refine br_neB (tgt := 20) hx hb dX7_cambers_15 (by decide) (fun c_2 => ?_) (fun c_2 => ?_)
    · -- 15 T
      refine lv_aload_n hx hb dX7_cambers_20 rfl (lv_at hl 0 rfl) ?_
      refine lv_iload_n hx hb dX7_cambers_21 rfl (lv_at hl 1 rfl) ?_
      refine lv_iconst (v := 3) hx hb dX7_cambers_22 (by decide) ?_
      refine after_I (wc := [(M, ob 7 [.ref nw, .ref dr, .ref pa, .int ypa, .ref im, .ref ke, .ref fl, .ref fq, .int yfa, .ref te, .int yty, .int yat, .int yst, .int yso, .int yva, .ref ni, .ref re, .int yab, .int ybl, .int yis, .int yra, .ref ma, .ref be]), (nw, aI g 41 gn)]) (y := yX7_of) C S (va_runV (As := [.int (nI j), .int 3]) (rest := []) C.1 (kX7_of l g M nw dr pa im ke fl fq te ni re ma be ypa yfa yty yat yst yso yva yab ybl yis yra gn j 3 (by first | assumption | omega) (by first | assumption | omega) H.size) (cwV 2 hts gX7_cambers_X7_of rfl rfl rfl (by decide +kernel) ⟨Nat.le_of_ble_eq_true rfl, Nat.le_of_ble_eq_true rfl⟩) (preV_at C S 0 rfl rfl [0, 1] rfl (by decide)) rfl rfl hl.1 rfl (lv_room (Nat.le_of_ble_eq_true rfl)) dX7_cambers_23 ⟨Nat.le_of_ble_eq_true rfl, Nat.le_of_ble_eq_true rfl⟩) [0, 1] [] rfl (wr := []) rfl (by decide) (by decide) (fun r0 w0 H locs hq S => ?_)
      obtain ⟨rfl, rfl⟩ := hq
      have S : ST g A ss H locs [(M, ob 7 [.ref nw, .ref dr, .ref pa, .int ypa, .ref im, .ref ke, .ref fl, .ref fq, .int yfa, .ref te, .int yty, .int yat, .int yst, .int yso, .int yva, .ref ni, .ref re, .int yab, .int ybl, .int yis, .int yra, .ref ma, .ref be]), (nw, aI g 41 gn)] := S
      refine top_eq (y := nI (nu 2 j)) (hgn 2 _ (by omega) (by omega)) ?_
      refine lv_istore_n (lv' := [(3, .int (nI (nu 2 j))), (0, .ref M), (1, .int (nI j)), (2, .int (nI d))]) hx hb dX7_cambers_26 rfl hl (by decide) rfl (fun ls hl => ?_)
      refine lv_iload_n hx hb dX7_cambers_27 rfl (lv_at hl 0 rfl) ?_
      refine lv_iload_n hx hb dX7_cambers_28 rfl (lv_at hl 3 rfl) ?_
      refine bn_ine (tgt := 35) (a := nu 2 j) (b := d) hx hb rfl rfl (by omega) (by omega) dX7_cambers_29 (by decide) (fun c_3 => ?_) (fun c_3 => ?_)
      · -- 29 T
        exact absurd heq c_3
      · -- 29 F
        refine lv_bipush (v := (-2)) hx hb dX7_cambers_32 (by decide) ?_
        exact ret_I C S hr dX7_cambers_34 ⟨(by first | rfl | simp only [if_pos c_1, if_pos c_2, if_pos c_3]), (by first | rfl | simp only [if_pos c_1, if_pos c_2, if_pos c_3])⟩
    · -- 15 F
      rw [hod] at c_2; cases c_2

theorem inX7_cambersg_X7 : ∀ w ∈ wsX70, w ∈ wsX7_cambers := by decide +kernel
set_option maxRecDepth 100000 in
set_option maxHeartbeats 4000000 in
theorem kX7_cambersg (l : Launch) (g : GG) (M : Nat) (nw : Nat) (dr : Nat) (pa : Nat) (im : Nat) (ke : Nat) (fl : Nat) (fq : Nat) (te : Nat) (ni : Nat) (re : Nat) (ma : Nat) (be : Nat) (yfa : Int32) (yty : Int32) (yat : Int32) (yst : Int32) (yso : Int32) (yva : Int32) (yab : Int32) (ybl : Int32) (yis : Int32) (yra : Int32) (gn : Nat → Int32) (n : Nat) (ww : Nat) (nu : Nat → Nat → Nat) (pf : Nat → Int32) (z : Nat) (j : Nat) (d : Nat) (hn1 : 1 ≤ n) (hn : n ≤ 8) (hww : ww < 2 ^ n) (hg0 : gn 0 = nI n) (hgn : ∀ a i, a < 4 → i < n → gn (5 * i + (a + 1)) = nI (nu a i)) (hgw : ∀ i, i < n → gn (5 * i + 5) = nI (ww.testBit i).toNat) (hB : HB nu n) (hz6 : z ≤ 6) (hj : j < n) (hd : d < 31) (hne : ¬ nu 2 j = d) : KI l g yX7_cambers wsX7_cambers 2 43 [.ref M, .int (nI j), .int (nI d)] [(M, ob 7 [.ref nw, .ref dr, .ref pa, .int (nI z), .ref im, .ref ke, .ref fl, .ref fq, .int yfa, .ref te, .int yty, .int yat, .int yst, .int yso, .int yva, .ref ni, .ref re, .int yab, .int ybl, .int yis, .int yra, .ref ma, .ref be]), (nw, aI g 41 gn), (pa, aI g 246 pf)] (fun (r : Int32) (w' : va_W) => r = (nI (nu 2 j)) ∧ ∃ (pf' : Nat → Int32), (notesP z gn pf pf') ∧ w' = [(M, ob 7 [.ref nw, .ref dr, .ref pa, .int (nI (min (z + 1) 6)), .ref im, .ref ke, .ref fl, .ref fq, .int yfa, .ref te, .int yty, .int yat, .int yst, .int yso, .int yva, .ref ni, .ref re, .int yab, .int ybl, .int yis, .int yra, .ref ma, .ref be]), (nw, aI g 41 (upd gn (5 * j + 3) (nI d))), (pa, aI g 246 pf')]) := by
  refine kI_of (cc := cX7_cambers) (maxL := 4) (by decide) rfl (Nat.le_of_ble_eq_true rfl) ?_
  intro pp ee ss mm bel mth cd A ls C S hr hl
  obtain ⟨hx, hb, hml, hown, hts⟩ := id C.1
  have hl : lv_has ls 4 [(0, .ref M), (1, .int (nI j)), (2, .int (nI d))] := hl
  obtain ⟨H, hH⟩ : ∃ H, H = ss.heap := ⟨_, rfl⟩
  obtain ⟨locs, hL0⟩ : ∃ L : List Loc, L = [] := ⟨_, rfl⟩
  rw [← hH, ← hL0] at S ⊢
  have hok : okB (nI j) n = true := ok_nI hj (by omega)
  have hod : okB (nI d) (30 + 1) = true := ok_nI (by omega) (by decide)
  have hcj := (hB j hj).2.2.1
  refine lv_aload_n hx hb dX7_cambers_0 rfl (lv_at hl 0 rfl) ?_
  refine lv_iload_n hx hb dX7_cambers_1 rfl (lv_at hl 1 rfl) ?_
  refine after_I (wc := [(M, ob 7 [.ref nw, .ref dr, .ref pa, .int (nI z), .ref im, .ref ke, .ref fl, .ref fq, .int yfa, .ref te, .int yty, .int yat, .int yst, .int yso, .int yva, .ref ni, .ref re, .int yab, .int ybl, .int yis, .int yra, .ref ma, .ref be]), (nw, aI g 41 gn)]) (y := yX7_isLeaf) C S (va_runV (As := [.int (nI j)]) (rest := []) C.1 (kX7_isLeaf l g M nw dr pa im ke fl fq te ni re ma be (nI z) yfa yty yat yst yso yva yab ybl yis yra gn n (nI j) (by first | assumption | omega) (by first | assumption | omega) (by first | assumption | omega) H.size) (cwV 1 hts gX7_cambers_X7_isLeaf rfl rfl rfl (by decide +kernel) ⟨Nat.le_of_ble_eq_true rfl, Nat.le_of_ble_eq_true rfl⟩) (preV_at C S 0 rfl rfl [0, 1] rfl (by decide)) rfl rfl hl.1 rfl (lv_room (Nat.le_of_ble_eq_true rfl)) dX7_cambers_2 ⟨Nat.le_of_ble_eq_true rfl, Nat.le_of_ble_eq_true rfl⟩) [0, 1] [2] rfl (wr := [(pa, aI g 246 pf)]) rfl (by decide) (by decide) (fun r0 w0 H locs hq S => ?_)
  obtain ⟨rfl, rfl⟩ := hq
  have S : ST g A ss H locs [(M, ob 7 [.ref nw, .ref dr, .ref pa, .int (nI z), .ref im, .ref ke, .ref fl, .ref fq, .int yfa, .ref te, .int yty, .int yat, .int yst, .int yso, .int yva, .ref ni, .ref re, .int yab, .int ybl, .int yis, .int yra, .ref ma, .ref be]), (nw, aI g 41 gn), (pa, aI g 246 pf)] := ST.sub S [1, 2, 0] (by decide) rfl
  refine br_eqB (tgt := 18) hx hb dX7_cambers_5 (by decide) (fun c_1 => ?_) (fun c_1 => ?_)
  · -- 5 T
    rw [hok] at c_1; cases c_1
  · -- 5 F
    refine lv_iload_n hx hb dX7_cambers_8 rfl (lv_at hl 2 rfl) ?_
    refine lv_iconst (v := 0) hx hb dX7_cambers_9 (by decide) ?_
    refine lv_bipush (v := 30) hx hb dX7_cambers_10 (by decide) ?_
    refine after_I (wc := []) (y := yX7_in) C S (va_runS (As := [.int (nI d), .int 0, .int 30]) (rest := []) C.1 (kX7_inz l g (nI d) 30 (by first | assumption | omega) H.size) (va_cwS 3 hts gX7_cambers_X7_in rfl rfl rfl (by decide +kernel) ⟨Nat.le_of_ble_eq_true rfl, Nat.le_of_ble_eq_true rfl⟩) (preS_at C S [] rfl (by decide)) rfl rfl hl.1 rfl (lv_room (Nat.le_of_ble_eq_true rfl)) dX7_cambers_12 ⟨Nat.le_of_ble_eq_true rfl, Nat.le_of_ble_eq_true rfl⟩) [] [0, 1, 2] rfl (wr := [(M, ob 7 [.ref nw, .ref dr, .ref pa, .int (nI z), .ref im, .ref ke, .ref fl, .ref fq, .int yfa, .ref te, .int yty, .int yat, .int yst, .int yso, .int yva, .ref ni, .ref re, .int yab, .int ybl, .int yis, .int yra, .ref ma, .ref be]), (nw, aI g 41 gn), (pa, aI g 246 pf)]) rfl (by decide) (by decide) (fun r0 w0 H locs hq S => ?_)
    obtain ⟨rfl, rfl⟩ := hq
    have S : ST g A ss H locs [(M, ob 7 [.ref nw, .ref dr, .ref pa, .int (nI z), .ref im, .ref ke, .ref fl, .ref fq, .int yfa, .ref te, .int yty, .int yat, .int yst, .int yso, .int yva, .ref ni, .ref re, .int yab, .int ybl, .int yis, .int yra, .ref ma, .ref be]), (nw, aI g 41 gn), (pa, aI g 246 pf)] := S
    refine br_neB (tgt := 20) hx hb dX7_cambers_15 (by decide) (fun c_2 => ?_) (fun c_2 => ?_)
    · -- 15 T
      refine lv_aload_n hx hb dX7_cambers_20 rfl (lv_at hl 0 rfl) ?_
      refine lv_iload_n hx hb dX7_cambers_21 rfl (lv_at hl 1 rfl) ?_
      refine lv_iconst (v := 3) hx hb dX7_cambers_22 (by decide) ?_
      refine after_I (wc := [(M, ob 7 [.ref nw, .ref dr, .ref pa, .int (nI z), .ref im, .ref ke, .ref fl, .ref fq, .int yfa, .ref te, .int yty, .int yat, .int yst, .int yso, .int yva, .ref ni, .ref re, .int yab, .int ybl, .int yis, .int yra, .ref ma, .ref be]), (nw, aI g 41 gn)]) (y := yX7_of) C S (va_runV (As := [.int (nI j), .int 3]) (rest := []) C.1 (kX7_of l g M nw dr pa im ke fl fq te ni re ma be (nI z) yfa yty yat yst yso yva yab ybl yis yra gn j 3 (by first | assumption | omega) (by first | assumption | omega) H.size) (cwV 2 hts gX7_cambers_X7_of rfl rfl rfl (by decide +kernel) ⟨Nat.le_of_ble_eq_true rfl, Nat.le_of_ble_eq_true rfl⟩) (preV_at C S 0 rfl rfl [0, 1] rfl (by decide)) rfl rfl hl.1 rfl (lv_room (Nat.le_of_ble_eq_true rfl)) dX7_cambers_23 ⟨Nat.le_of_ble_eq_true rfl, Nat.le_of_ble_eq_true rfl⟩) [0, 1] [2] rfl (wr := [(pa, aI g 246 pf)]) rfl (by decide) (by decide) (fun r0 w0 H locs hq S => ?_)
      obtain ⟨rfl, rfl⟩ := hq
      have S : ST g A ss H locs [(M, ob 7 [.ref nw, .ref dr, .ref pa, .int (nI z), .ref im, .ref ke, .ref fl, .ref fq, .int yfa, .ref te, .int yty, .int yat, .int yst, .int yso, .int yva, .ref ni, .ref re, .int yab, .int ybl, .int yis, .int yra, .ref ma, .ref be]), (nw, aI g 41 gn), (pa, aI g 246 pf)] := ST.sub S [1, 2, 0] (by decide) rfl
      refine top_eq (y := nI (nu 2 j)) (hgn 2 _ (by omega) (by omega)) ?_
      refine lv_istore_n (lv' := [(3, .int (nI (nu 2 j))), (0, .ref M), (1, .int (nI j)), (2, .int (nI d))]) hx hb dX7_cambers_26 rfl hl (by decide) rfl (fun ls hl => ?_)
      refine lv_iload_n hx hb dX7_cambers_27 rfl (lv_at hl 0 rfl) ?_
      refine lv_iload_n hx hb dX7_cambers_28 rfl (lv_at hl 3 rfl) ?_
      refine bn_ine (tgt := 35) (a := nu 2 j) (b := d) hx hb rfl rfl (by omega) (by omega) dX7_cambers_29 (by decide) (fun c_3 => ?_) (fun c_3 => ?_)
      · -- 29 T
        refine lv_aload_n hx hb dX7_cambers_35 rfl (lv_at hl 1 rfl) ?_
        refine after_V (wc := [(M, ob 7 [.ref nw, .ref dr, .ref pa, .int (nI z), .ref im, .ref ke, .ref fl, .ref fq, .int yfa, .ref te, .int yty, .int yat, .int yst, .int yso, .int yva, .ref ni, .ref re, .int yab, .int ybl, .int yis, .int yra, .ref ma, .ref be]), (nw, aI g 41 gn), (pa, aI g 246 pf)]) (y := yX7_notes) C S (va_runV (As := []) (rest := []) C.1 (kX7_notes l g M nw dr pa im ke fl fq te ni re ma be yfa yty yat yst yso yva yab ybl yis yra z gn pf (by first | assumption | omega) H.size) (cwV 0 hts gX7_cambers_X7_notes rfl rfl rfl (by decide +kernel) ⟨Nat.le_of_ble_eq_true rfl, Nat.le_of_ble_eq_true rfl⟩) (preV_at C S 0 rfl rfl [0, 1, 2] rfl (by decide)) rfl rfl hl.1 rfl (lv_room (Nat.le_of_ble_eq_true rfl)) dX7_cambers_36 ⟨Nat.le_of_ble_eq_true rfl, Nat.le_of_ble_eq_true rfl⟩) [0, 1, 2] [] rfl (wr := []) rfl (by decide) (by decide) (fun w0 H locs hq S => ?_)
        obtain ⟨pf'_4, hNT_5, rfl⟩ := hq
        have S : ST g A ss H locs [(M, ob 7 [.ref nw, .ref dr, .ref pa, .int (nI (min (z + 1) 6)), .ref im, .ref ke, .ref fl, .ref fq, .int yfa, .ref te, .int yty, .int yat, .int yst, .int yso, .int yva, .ref ni, .ref re, .int yab, .int ybl, .int yis, .int yra, .ref ma, .ref be]), (nw, aI g 41 gn), (pa, aI g 246 pf'_4)] := S
        refine lv_aload_n hx hb dX7_cambers_39 rfl (lv_at hl 1 rfl) ?_
        refine top_get C S inX7_cambersg_X7 rfl 0 rfl 0 (by decide) (by decide +kernel) rfl rfl dX7_cambers_40 ?_
        refine lv_iconst (v := 5) hx hb dX7_cambers_43 (by decide) ?_
        refine lv_iload_n hx hb dX7_cambers_44 rfl (lv_at hl 2 rfl) ?_
        refine lv_imul hx hb dX7_cambers_45 ?_
        refine top_eq (y := nI (5 * j)) (pk_mul _ _) ?_
        refine lv_iconst (v := 3) hx hb dX7_cambers_46 (by decide) ?_
        refine lv_iadd hx hb dX7_cambers_47 ?_
        refine top_eq (y := nI ((5 * j) + 3)) (nI_add _ _) ?_
        refine lv_iload_n hx hb dX7_cambers_48 rfl (lv_at hl 3 rfl) ?_
        refine top_ist C S 1 rfl (j := ((5 * j) + 3)) rfl (by omega) (by decide) dX7_cambers_49 (fun H locs S => ?_)
        have S : ST g A ss H locs [(M, ob 7 [.ref nw, .ref dr, .ref pa, .int (nI (min (z + 1) 6)), .ref im, .ref ke, .ref fl, .ref fq, .int yfa, .ref te, .int yty, .int yat, .int yst, .int yso, .int yva, .ref ni, .ref re, .int yab, .int ybl, .int yis, .int yra, .ref ma, .ref be]), (nw, aI g 41 (upd gn ((5 * j) + 3) (nI d))), (pa, aI g 246 pf'_4)] := S
        refine lv_iload_n hx hb dX7_cambers_50 rfl (lv_at hl 0 rfl) ?_
        exact ret_I C S hr dX7_cambers_51 ⟨(by first | rfl | simp only [if_pos c_1, if_pos c_2, if_neg c_3]), pf'_4, (by first | assumption | omega), (by first | rfl | simp only [if_pos c_1, if_pos c_2, if_neg c_3])⟩
      · -- 29 F
        exact absurd c_3 hne
    · -- 15 F
      rw [hod] at c_2; cases c_2

set_option maxRecDepth 100000 in
set_option maxHeartbeats 4000000 in
theorem kX7_keepb (l : Launch) (g : GG) (M : Nat) (nw : Nat) (dr : Nat) (pa : Nat) (im : Nat) (ke : Nat) (fl : Nat) (fq : Nat) (te : Nat) (ni : Nat) (re : Nat) (ma : Nat) (be : Nat) (ypa : Int32) (yfa : Int32) (yty : Int32) (yat : Int32) (yst : Int32) (yso : Int32) (yva : Int32) (yab : Int32) (ybl : Int32) (yis : Int32) (yra : Int32) (x : Int32) (hbad : okB x 2 = false) : KI l g yX7_keep wsX7_keep 1 22 [.ref M, .int x] [(M, ob 7 [.ref nw, .ref dr, .ref pa, .int ypa, .ref im, .ref ke, .ref fl, .ref fq, .int yfa, .ref te, .int yty, .int yat, .int yst, .int yso, .int yva, .ref ni, .ref re, .int yab, .int ybl, .int yis, .int yra, .ref ma, .ref be])] (fun (r : Int32) (w' : va_W) => r = (-1) ∧ w' = [(M, ob 7 [.ref nw, .ref dr, .ref pa, .int ypa, .ref im, .ref ke, .ref fl, .ref fq, .int yfa, .ref te, .int yty, .int yat, .int yst, .int yso, .int yva, .ref ni, .ref re, .int yab, .int ybl, .int yis, .int yra, .ref ma, .ref be])]) := by
  refine kI_of (cc := cX7_keep) (maxL := 3) (by decide) rfl (Nat.le_of_ble_eq_true rfl) ?_
  intro pp ee ss mm bel mth cd A ls C S hr hl
  obtain ⟨hx, hb, hml, hown, hts⟩ := id C.1
  have hl : lv_has ls 3 [(0, .ref M), (1, .int x)] := hl
  obtain ⟨H, hH⟩ : ∃ H, H = ss.heap := ⟨_, rfl⟩
  obtain ⟨locs, hL0⟩ : ∃ L : List Loc, L = [] := ⟨_, rfl⟩
  rw [← hH, ← hL0] at S ⊢
  refine lv_iload_n hx hb dX7_keep_0 rfl (lv_at hl 1 rfl) ?_
  refine lv_iconst (v := 0) hx hb dX7_keep_1 (by decide) ?_
  refine lv_iconst (v := 1) hx hb dX7_keep_2 (by decide) ?_
  refine after_I (wc := []) (y := yX7_in) C S (va_runS (As := [.int x, .int 0, .int 1]) (rest := []) C.1 (kX7_inz l g x 1 (by first | assumption | omega) H.size) (va_cwS 3 hts gX7_keep_X7_in rfl rfl rfl (by decide +kernel) ⟨Nat.le_of_ble_eq_true rfl, Nat.le_of_ble_eq_true rfl⟩) (preS_at C S [] rfl (by decide)) rfl rfl hl.1 rfl (lv_room (Nat.le_of_ble_eq_true rfl)) dX7_keep_3 ⟨Nat.le_of_ble_eq_true rfl, Nat.le_of_ble_eq_true rfl⟩) [] [0] rfl (wr := [(M, ob 7 [.ref nw, .ref dr, .ref pa, .int ypa, .ref im, .ref ke, .ref fl, .ref fq, .int yfa, .ref te, .int yty, .int yat, .int yst, .int yso, .int yva, .ref ni, .ref re, .int yab, .int ybl, .int yis, .int yra, .ref ma, .ref be])]) rfl (by decide) (by decide) (fun r0 w0 H locs hq S => ?_)
  obtain ⟨rfl, rfl⟩ := hq
  have S : ST g A ss H locs [(M, ob 7 [.ref nw, .ref dr, .ref pa, .int ypa, .ref im, .ref ke, .ref fl, .ref fq, .int yfa, .ref te, .int yty, .int yat, .int yst, .int yso, .int yva, .ref ni, .ref re, .int yab, .int ybl, .int yis, .int yra, .ref ma, .ref be])] := S
  refine br_neB (tgt := 11) hx hb dX7_keep_6 (by decide) (fun c_1 => ?_) (fun c_1 => ?_)
  · -- 6 T
    rw [show okB x (1 + 1) = false from hbad] at c_1; cases c_1
  · -- 6 F
    refine lv_iconst (v := (-1)) hx hb dX7_keep_9 (by decide) ?_
    exact ret_I C S hr dX7_keep_10 ⟨(by first | rfl | simp only [if_neg (Bool.eq_false_iff.mp c_1)]), (by first | rfl | simp only [if_neg (Bool.eq_false_iff.mp c_1)])⟩

theorem inX7_keepg_X7 : ∀ w ∈ wsX70, w ∈ wsX7_keep := by decide +kernel
set_option maxRecDepth 100000 in
set_option maxHeartbeats 4000000 in
theorem kX7_keepg (l : Launch) (g : GG) (M : Nat) (nw : Nat) (dr : Nat) (pa : Nat) (im : Nat) (ke : Nat) (fl : Nat) (fq : Nat) (te : Nat) (ni : Nat) (re : Nat) (ma : Nat) (be : Nat) (ypa : Int32) (yfa : Int32) (yty : Int32) (yat : Int32) (yst : Int32) (yso : Int32) (yva : Int32) (yab : Int32) (ybl : Int32) (yis : Int32) (yra : Int32) (gn : Nat → Int32) (n : Nat) (mf : Nat → Int32) (kz : Nat → Int32) (j : Nat) (hn : n ≤ 8) (hg0 : gn 0 = nI n) (hj : j < 2) : KI l g yX7_keep wsX7_keep 1 22 [.ref M, .int (nI j)] [(M, ob 7 [.ref nw, .ref dr, .ref pa, .int ypa, .ref im, .ref ke, .ref fl, .ref fq, .int yfa, .ref te, .int yty, .int yat, .int yst, .int yso, .int yva, .ref ni, .ref re, .int yab, .int ybl, .int yis, .int yra, .ref ma, .ref be]), (nw, aI g 41 gn), (im, aI g 82 mf), (ke, aZ g 2 kz)] (fun (r : Int32) (w' : va_W) => r = (nI n) ∧ ∃ (mf' : Nat → Int32), (∀ t, (t < 41 * j ∨ 41 * j + 41 ≤ t) → mf' t = mf t) ∧ (∀ t, t < 41 → mf' (41 * j + t) = gn t) ∧ w' = [(M, ob 7 [.ref nw, .ref dr, .ref pa, .int ypa, .ref im, .ref ke, .ref fl, .ref fq, .int yfa, .ref te, .int yty, .int yat, .int yst, .int yso, .int yva, .ref ni, .ref re, .int yab, .int ybl, .int yis, .int yra, .ref ma, .ref be]), (nw, aI g 41 gn), (im, aI g 82 mf'), (ke, aZ g 2 (upd kz j 1))]) := by
  refine kI_of (cc := cX7_keep) (maxL := 3) (by decide) rfl (Nat.le_of_ble_eq_true rfl) ?_
  intro pp ee ss mm bel mth cd A ls C S hr hl
  obtain ⟨hx, hb, hml, hown, hts⟩ := id C.1
  have hl : lv_has ls 3 [(0, .ref M), (1, .int (nI j))] := hl
  obtain ⟨H, hH⟩ : ∃ H, H = ss.heap := ⟨_, rfl⟩
  obtain ⟨locs, hL0⟩ : ∃ L : List Loc, L = [] := ⟨_, rfl⟩
  rw [← hH, ← hL0] at S ⊢
  have hoj : okB (nI j) (1 + 1) = true := ok_nI (by omega) (by decide)
  refine lv_iload_n hx hb dX7_keep_0 rfl (lv_at hl 1 rfl) ?_
  refine lv_iconst (v := 0) hx hb dX7_keep_1 (by decide) ?_
  refine lv_iconst (v := 1) hx hb dX7_keep_2 (by decide) ?_
  refine after_I (wc := []) (y := yX7_in) C S (va_runS (As := [.int (nI j), .int 0, .int 1]) (rest := []) C.1 (kX7_inz l g (nI j) 1 (by first | assumption | omega) H.size) (va_cwS 3 hts gX7_keep_X7_in rfl rfl rfl (by decide +kernel) ⟨Nat.le_of_ble_eq_true rfl, Nat.le_of_ble_eq_true rfl⟩) (preS_at C S [] rfl (by decide)) rfl rfl hl.1 rfl (lv_room (Nat.le_of_ble_eq_true rfl)) dX7_keep_3 ⟨Nat.le_of_ble_eq_true rfl, Nat.le_of_ble_eq_true rfl⟩) [] [0, 1, 2, 3] rfl (wr := [(M, ob 7 [.ref nw, .ref dr, .ref pa, .int ypa, .ref im, .ref ke, .ref fl, .ref fq, .int yfa, .ref te, .int yty, .int yat, .int yst, .int yso, .int yva, .ref ni, .ref re, .int yab, .int ybl, .int yis, .int yra, .ref ma, .ref be]), (nw, aI g 41 gn), (im, aI g 82 mf), (ke, aZ g 2 kz)]) rfl (by decide) (by decide) (fun r0 w0 H locs hq S => ?_)
  obtain ⟨rfl, rfl⟩ := hq
  have S : ST g A ss H locs [(M, ob 7 [.ref nw, .ref dr, .ref pa, .int ypa, .ref im, .ref ke, .ref fl, .ref fq, .int yfa, .ref te, .int yty, .int yat, .int yst, .int yso, .int yva, .ref ni, .ref re, .int yab, .int ybl, .int yis, .int yra, .ref ma, .ref be]), (nw, aI g 41 gn), (im, aI g 82 mf), (ke, aZ g 2 kz)] := S
  refine br_neB (tgt := 11) hx hb dX7_keep_6 (by decide) (fun c_1 => ?_) (fun c_1 => ?_)
  · -- 6 T
    refine lv_iconst (v := 0) hx hb dX7_keep_11 (by decide) ?_
    refine lv_istore_n (lv' := [(2, .int 0), (0, .ref M), (1, .int (nI j))]) hx hb dX7_keep_12 rfl hl (by decide) rfl (fun ls hl => ?_)
    have loop13 : ∀ (N0 : Nat) (i : Nat) (m1 : Nat → Int32), 41 - i < N0 → (i ≤ 41) → (∀ t, (t < 41 * j ∨ 41 * j + 41 ≤ t) → m1 t = mf t) → (∀ t, t < i → m1 (41 * j + t) = gn t) → ∀ (H : Heap) (locs : List Loc) (ls : Array Slot), ST g A ss H locs [(M, ob 7 [.ref nw, .ref dr, .ref pa, .int ypa, .ref im, .ref ke, .ref fl, .ref fq, .int yfa, .ref te, .int yty, .int yat, .int yst, .int yso, .int yva, .ref ni, .ref re, .int yab, .int ybl, .int yis, .int yra, .ref ma, .ref be]), (nw, aI g 41 gn), (im, aI g 82 m1), (ke, aZ g 2 kz)] → lv_has ls 3 [(2, .int (nI i)), (0, .ref M), (1, .int (nI j))] → W pp l ee { frames := 1, cells := 0, slots := 0, locals := 22 } ss mm ([.ref M, .int (nI j)] : List Value).toArray bel mth cd H locs 0 0 (QI bel ([.ref M, .int (nI j)] : List Value).toArray ss g A (fun (r : Int32) (w' : va_W) => r = (nI n) ∧ ∃ (mf' : Nat → Int32), (∀ t, (t < 41 * j ∨ 41 * j + 41 ≤ t) → mf' t = mf t) ∧ (∀ t, t < 41 → mf' (41 * j + t) = gn t) ∧ w' = [(M, ob 7 [.ref nw, .ref dr, .ref pa, .int ypa, .ref im, .ref ke, .ref fl, .ref fq, .int yfa, .ref te, .int yty, .int yat, .int yst, .int yso, .int yva, .ref ni, .ref re, .int yab, .int ybl, .int yis, .int yra, .ref ma, .ref be]), (nw, aI g 41 gn), (im, aI g 82 mf'), (ke, aZ g 2 (upd kz j 1))])) (F0 mm 13 ls []) := by
      intro N0
      induction N0 with
      | zero => intro i m1 hN; exact absurd hN (Nat.not_lt_zero _)
      | succ N0 ih13 =>
        intro i m1 hN hi hA hBt H locs ls S hl
        refine lv_iload_n hx hb dX7_keep_13 rfl (lv_at hl 0 rfl) ?_
        refine lv_bipush (v := 41) hx hb dX7_keep_14 (by decide) ?_
        refine bn_ige (tgt := 42) (a := i) (b := 41) hx hb rfl rfl (by omega) (by omega) dX7_keep_16 (by decide) (fun c_2 => ?_) (fun c_2 => ?_)
        · -- 16 T
          refine lv_aload_n hx hb dX7_keep_42 rfl (lv_at hl 1 rfl) ?_
          refine top_get C S inX7_keepg_X7 rfl 0 rfl 5 (by decide) (by decide +kernel) rfl rfl dX7_keep_43 ?_
          refine lv_iload_n hx hb dX7_keep_46 rfl (lv_at hl 2 rfl) ?_
          refine lv_iconst (v := 1) hx hb dX7_keep_47 (by decide) ?_
          refine top_zst C S 3 rfl (j := j) rfl (by omega) (by decide) rfl dX7_keep_48 (fun H locs S => ?_)
          have S : ST g A ss H locs [(M, ob 7 [.ref nw, .ref dr, .ref pa, .int ypa, .ref im, .ref ke, .ref fl, .ref fq, .int yfa, .ref te, .int yty, .int yat, .int yst, .int yso, .int yva, .ref ni, .ref re, .int yab, .int ybl, .int yis, .int yra, .ref ma, .ref be]), (nw, aI g 41 gn), (im, aI g 82 m1), (ke, aZ g 2 (upd kz j 1))] := S
          refine lv_aload_n hx hb dX7_keep_49 rfl (lv_at hl 1 rfl) ?_
          refine top_get C S inX7_keepg_X7 rfl 0 rfl 0 (by decide) (by decide +kernel) rfl rfl dX7_keep_50 ?_
          refine lv_iconst (v := 0) hx hb dX7_keep_53 (by decide) ?_
          refine top_ild C S 1 rfl (j := 0) rfl (by omega) (by decide) dX7_keep_54 ?_
          refine top_eq (y := nI n) hg0 ?_
          exact ret_I C S hr dX7_keep_55 ⟨(rfl), m1, (hA), (fun t9 h9 => hBt t9 (by omega)), (rfl)⟩
        · -- 16 F
          refine lv_aload_n hx hb dX7_keep_19 rfl (lv_at hl 1 rfl) ?_
          refine top_get C S inX7_keepg_X7 rfl 0 rfl 4 (by decide) (by decide +kernel) rfl rfl dX7_keep_20 ?_
          refine lv_bipush (v := 41) hx hb dX7_keep_23 (by decide) ?_
          refine lv_iload_n hx hb dX7_keep_25 rfl (lv_at hl 2 rfl) ?_
          refine lv_imul hx hb dX7_keep_26 ?_
          refine top_eq (y := nI (41 * j)) (pk_mul _ _) ?_
          refine lv_iload_n hx hb dX7_keep_27 rfl (lv_at hl 0 rfl) ?_
          refine lv_iadd hx hb dX7_keep_28 ?_
          refine top_eq (y := nI ((41 * j) + i)) (nI_add _ _) ?_
          refine lv_aload_n hx hb dX7_keep_29 rfl (lv_at hl 1 rfl) ?_
          refine top_get C S inX7_keepg_X7 rfl 0 rfl 0 (by decide) (by decide +kernel) rfl rfl dX7_keep_30 ?_
          refine lv_iload_n hx hb dX7_keep_33 rfl (lv_at hl 0 rfl) ?_
          refine top_ild C S 1 rfl (j := i) rfl (by omega) (by decide) dX7_keep_34 ?_
          refine top_ist C S 2 rfl (j := ((41 * j) + i)) rfl (by omega) (by decide) dX7_keep_35 (fun H locs S => ?_)
          have S : ST g A ss H locs [(M, ob 7 [.ref nw, .ref dr, .ref pa, .int ypa, .ref im, .ref ke, .ref fl, .ref fq, .int yfa, .ref te, .int yty, .int yat, .int yst, .int yso, .int yva, .ref ni, .ref re, .int yab, .int ybl, .int yis, .int yra, .ref ma, .ref be]), (nw, aI g 41 gn), (im, aI g 82 (upd m1 ((41 * j) + i) (gn i))), (ke, aZ g 2 kz)] := S
          refine lv_iinc (v := nI (i + 1)) (lv' := [(2, .int (nI (i + 1))), (0, .ref M), (1, .int (nI j))]) hx hb dX7_keep_36 hl (k := 0) rfl (nI_add _ _) (by decide) rfl (fun ls hl => ?_)
          refine lv_goto (tgt := 13) hx hb dX7_keep_39 (by decide) ?_
          exact ih13 (i + 1) (upd m1 ((41 * j) + i) (gn i)) (by omega) (by first | assumption | omega) (upd_keep (P := fun t => t < 41 * j ∨ 41 * j + 41 ≤ t) hA (by omega)) (upd_at hBt rfl) H locs ls (ST.eq S (rfl)) (lv_sub hl [0, 1, 2] (rfl))
    exact loop13 _ 0 mf (Nat.lt_succ_self _) (by first | assumption | omega) (fun t9 _ => rfl) (fun t9 h9 => absurd h9 (Nat.not_lt_zero _)) H locs ls (ST.eq S (rfl)) (lv_sub hl [0, 1, 2] (rfl))
  · -- 6 F
    rw [hoj] at c_1; cases c_1

set_option maxRecDepth 100000 in
set_option maxHeartbeats 4000000 in
theorem kX7_backb (l : Launch) (g : GG) (M : Nat) (nw : Nat) (dr : Nat) (pa : Nat) (im : Nat) (ke : Nat) (fl : Nat) (fq : Nat) (te : Nat) (ni : Nat) (re : Nat) (ma : Nat) (be : Nat) (ypa : Int32) (yfa : Int32) (yty : Int32) (yat : Int32) (yst : Int32) (yso : Int32) (yva : Int32) (yab : Int32) (ybl : Int32) (yis : Int32) (yra : Int32) (x : Int32) (hbad : okB x 2 = false) : KI l g yX7_back wsX7_back 1 22 [.ref M, .int x] [(M, ob 7 [.ref nw, .ref dr, .ref pa, .int ypa, .ref im, .ref ke, .ref fl, .ref fq, .int yfa, .ref te, .int yty, .int yat, .int yst, .int yso, .int yva, .ref ni, .ref re, .int yab, .int ybl, .int yis, .int yra, .ref ma, .ref be])] (fun (r : Int32) (w' : va_W) => r = (-1) ∧ w' = [(M, ob 7 [.ref nw, .ref dr, .ref pa, .int ypa, .ref im, .ref ke, .ref fl, .ref fq, .int yfa, .ref te, .int yty, .int yat, .int yst, .int yso, .int yva, .ref ni, .ref re, .int yab, .int ybl, .int yis, .int yra, .ref ma, .ref be])]) := by
  refine kI_of (cc := cX7_back) (maxL := 3) (by decide) rfl (Nat.le_of_ble_eq_true rfl) ?_
  intro pp ee ss mm bel mth cd A ls C S hr hl
  obtain ⟨hx, hb, hml, hown, hts⟩ := id C.1
  have hl : lv_has ls 3 [(0, .ref M), (1, .int x)] := hl
  obtain ⟨H, hH⟩ : ∃ H, H = ss.heap := ⟨_, rfl⟩
  obtain ⟨locs, hL0⟩ : ∃ L : List Loc, L = [] := ⟨_, rfl⟩
  rw [← hH, ← hL0] at S ⊢
  refine lv_iload_n hx hb dX7_back_0 rfl (lv_at hl 1 rfl) ?_
  refine lv_iconst (v := 0) hx hb dX7_back_1 (by decide) ?_
  refine lv_iconst (v := 1) hx hb dX7_back_2 (by decide) ?_
  refine after_I (wc := []) (y := yX7_in) C S (va_runS (As := [.int x, .int 0, .int 1]) (rest := []) C.1 (kX7_inz l g x 1 (by first | assumption | omega) H.size) (va_cwS 3 hts gX7_back_X7_in rfl rfl rfl (by decide +kernel) ⟨Nat.le_of_ble_eq_true rfl, Nat.le_of_ble_eq_true rfl⟩) (preS_at C S [] rfl (by decide)) rfl rfl hl.1 rfl (lv_room (Nat.le_of_ble_eq_true rfl)) dX7_back_3 ⟨Nat.le_of_ble_eq_true rfl, Nat.le_of_ble_eq_true rfl⟩) [] [0] rfl (wr := [(M, ob 7 [.ref nw, .ref dr, .ref pa, .int ypa, .ref im, .ref ke, .ref fl, .ref fq, .int yfa, .ref te, .int yty, .int yat, .int yst, .int yso, .int yva, .ref ni, .ref re, .int yab, .int ybl, .int yis, .int yra, .ref ma, .ref be])]) rfl (by decide) (by decide) (fun r0 w0 H locs hq S => ?_)
  obtain ⟨rfl, rfl⟩ := hq
  have S : ST g A ss H locs [(M, ob 7 [.ref nw, .ref dr, .ref pa, .int ypa, .ref im, .ref ke, .ref fl, .ref fq, .int yfa, .ref te, .int yty, .int yat, .int yst, .int yso, .int yva, .ref ni, .ref re, .int yab, .int ybl, .int yis, .int yra, .ref ma, .ref be])] := S
  refine br_neB (tgt := 11) hx hb dX7_back_6 (by decide) (fun c_1 => ?_) (fun c_1 => ?_)
  · -- 6 T
    rw [show okB x (1 + 1) = false from hbad] at c_1; cases c_1
  · -- 6 F
    refine lv_iconst (v := (-1)) hx hb dX7_back_9 (by decide) ?_
    exact ret_I C S hr dX7_back_10 ⟨(by first | rfl | simp only [if_neg (Bool.eq_false_iff.mp c_1)]), (by first | rfl | simp only [if_neg (Bool.eq_false_iff.mp c_1)])⟩

theorem inX7_backs_X7 : ∀ w ∈ wsX70, w ∈ wsX7_back := by decide +kernel
set_option maxRecDepth 100000 in
set_option maxHeartbeats 4000000 in
theorem kX7_backs (l : Launch) (g : GG) (M : Nat) (nw : Nat) (dr : Nat) (pa : Nat) (im : Nat) (ke : Nat) (fl : Nat) (fq : Nat) (te : Nat) (ni : Nat) (re : Nat) (ma : Nat) (be : Nat) (ypa : Int32) (yfa : Int32) (yty : Int32) (yat : Int32) (yst : Int32) (yso : Int32) (yva : Int32) (yab : Int32) (ybl : Int32) (yis : Int32) (yra : Int32) (kz : Nat → Int32) (j : Nat) (hj : j < 2) (hno : kz j = 0) : KI l g yX7_back wsX7_back 1 22 [.ref M, .int (nI j)] [(M, ob 7 [.ref nw, .ref dr, .ref pa, .int ypa, .ref im, .ref ke, .ref fl, .ref fq, .int yfa, .ref te, .int yty, .int yat, .int yst, .int yso, .int yva, .ref ni, .ref re, .int yab, .int ybl, .int yis, .int yra, .ref ma, .ref be]), (ke, aZ g 2 kz)] (fun (r : Int32) (w' : va_W) => r = (-2) ∧ w' = [(M, ob 7 [.ref nw, .ref dr, .ref pa, .int ypa, .ref im, .ref ke, .ref fl, .ref fq, .int yfa, .ref te, .int yty, .int yat, .int yst, .int yso, .int yva, .ref ni, .ref re, .int yab, .int ybl, .int yis, .int yra, .ref ma, .ref be]), (ke, aZ g 2 kz)]) := by
  refine kI_of (cc := cX7_back) (maxL := 3) (by decide) rfl (Nat.le_of_ble_eq_true rfl) ?_
  intro pp ee ss mm bel mth cd A ls C S hr hl
  obtain ⟨hx, hb, hml, hown, hts⟩ := id C.1
  have hl : lv_has ls 3 [(0, .ref M), (1, .int (nI j))] := hl
  obtain ⟨H, hH⟩ : ∃ H, H = ss.heap := ⟨_, rfl⟩
  obtain ⟨locs, hL0⟩ : ∃ L : List Loc, L = [] := ⟨_, rfl⟩
  rw [← hH, ← hL0] at S ⊢
  have hoj : okB (nI j) (1 + 1) = true := ok_nI (by omega) (by decide)
  refine lv_iload_n hx hb dX7_back_0 rfl (lv_at hl 1 rfl) ?_
  refine lv_iconst (v := 0) hx hb dX7_back_1 (by decide) ?_
  refine lv_iconst (v := 1) hx hb dX7_back_2 (by decide) ?_
  refine after_I (wc := []) (y := yX7_in) C S (va_runS (As := [.int (nI j), .int 0, .int 1]) (rest := []) C.1 (kX7_inz l g (nI j) 1 (by first | assumption | omega) H.size) (va_cwS 3 hts gX7_back_X7_in rfl rfl rfl (by decide +kernel) ⟨Nat.le_of_ble_eq_true rfl, Nat.le_of_ble_eq_true rfl⟩) (preS_at C S [] rfl (by decide)) rfl rfl hl.1 rfl (lv_room (Nat.le_of_ble_eq_true rfl)) dX7_back_3 ⟨Nat.le_of_ble_eq_true rfl, Nat.le_of_ble_eq_true rfl⟩) [] [0, 1] rfl (wr := [(M, ob 7 [.ref nw, .ref dr, .ref pa, .int ypa, .ref im, .ref ke, .ref fl, .ref fq, .int yfa, .ref te, .int yty, .int yat, .int yst, .int yso, .int yva, .ref ni, .ref re, .int yab, .int ybl, .int yis, .int yra, .ref ma, .ref be]), (ke, aZ g 2 kz)]) rfl (by decide) (by decide) (fun r0 w0 H locs hq S => ?_)
  obtain ⟨rfl, rfl⟩ := hq
  have S : ST g A ss H locs [(M, ob 7 [.ref nw, .ref dr, .ref pa, .int ypa, .ref im, .ref ke, .ref fl, .ref fq, .int yfa, .ref te, .int yty, .int yat, .int yst, .int yso, .int yva, .ref ni, .ref re, .int yab, .int ybl, .int yis, .int yra, .ref ma, .ref be]), (ke, aZ g 2 kz)] := S
  refine br_neB (tgt := 11) hx hb dX7_back_6 (by decide) (fun c_1 => ?_) (fun c_1 => ?_)
  · -- 6 T
    refine lv_aload_n hx hb dX7_back_11 rfl (lv_at hl 0 rfl) ?_
    refine top_get C S inX7_backs_X7 rfl 0 rfl 5 (by decide) (by decide +kernel) rfl rfl dX7_back_12 ?_
    refine lv_iload_n hx hb dX7_back_15 rfl (lv_at hl 1 rfl) ?_
    refine top_zld C S 1 rfl (j := j) rfl (by omega) (by decide) dX7_back_16 ?_
    refine lv_if_ne (tgt := 23) hx hb dX7_back_17 (by decide) (fun c_2 => ?_) (fun c_2 => ?_)
    · -- 17 T
      exact absurd hno c_2
    · -- 17 F
      refine lv_bipush (v := (-2)) hx hb dX7_back_20 (by decide) ?_
      exact ret_I C S hr dX7_back_22 ⟨(by first | rfl | simp only [if_pos c_1, if_pos c_2]), (by first | rfl | simp only [if_pos c_1, if_pos c_2])⟩
  · -- 6 F
    rw [hoj] at c_1; cases c_1

theorem inX7_backg_X7 : ∀ w ∈ wsX70, w ∈ wsX7_back := by decide +kernel
set_option maxRecDepth 100000 in
set_option maxHeartbeats 4000000 in
theorem kX7_backg (l : Launch) (g : GG) (M : Nat) (nw : Nat) (dr : Nat) (pa : Nat) (im : Nat) (ke : Nat) (fl : Nat) (fq : Nat) (te : Nat) (ni : Nat) (re : Nat) (ma : Nat) (be : Nat) (yfa : Int32) (yty : Int32) (yat : Int32) (yst : Int32) (yso : Int32) (yva : Int32) (yab : Int32) (ybl : Int32) (yis : Int32) (yra : Int32) (gn : Nat → Int32) (n : Nat) (mf : Nat → Int32) (kz : Nat → Int32) (ypa : Int32) (j : Nat) (hj : j < 2) (hyes : kz j = 1) (hm0 : mf (41 * j + 0) = nI n) : KI l g yX7_back wsX7_back 1 22 [.ref M, .int (nI j)] [(M, ob 7 [.ref nw, .ref dr, .ref pa, .int ypa, .ref im, .ref ke, .ref fl, .ref fq, .int yfa, .ref te, .int yty, .int yat, .int yst, .int yso, .int yva, .ref ni, .ref re, .int yab, .int ybl, .int yis, .int yra, .ref ma, .ref be]), (nw, aI g 41 gn), (im, aI g 82 mf), (ke, aZ g 2 kz)] (fun (r : Int32) (w' : va_W) => r = (nI n) ∧ ∃ (gn' : Nat → Int32), (∀ t, t < 41 → gn' t = mf (41 * j + t)) ∧ w' = [(M, ob 7 [.ref nw, .ref dr, .ref pa, .int (nI 0), .ref im, .ref ke, .ref fl, .ref fq, .int yfa, .ref te, .int yty, .int yat, .int yst, .int yso, .int yva, .ref ni, .ref re, .int yab, .int ybl, .int yis, .int yra, .ref ma, .ref be]), (nw, aI g 41 gn'), (im, aI g 82 mf), (ke, aZ g 2 kz)]) := by
  refine kI_of (cc := cX7_back) (maxL := 3) (by decide) rfl (Nat.le_of_ble_eq_true rfl) ?_
  intro pp ee ss mm bel mth cd A ls C S hr hl
  obtain ⟨hx, hb, hml, hown, hts⟩ := id C.1
  have hl : lv_has ls 3 [(0, .ref M), (1, .int (nI j))] := hl
  obtain ⟨H, hH⟩ : ∃ H, H = ss.heap := ⟨_, rfl⟩
  obtain ⟨locs, hL0⟩ : ∃ L : List Loc, L = [] := ⟨_, rfl⟩
  rw [← hH, ← hL0] at S ⊢
  have hoj : okB (nI j) (1 + 1) = true := ok_nI (by omega) (by decide)
  refine lv_iload_n hx hb dX7_back_0 rfl (lv_at hl 1 rfl) ?_
  refine lv_iconst (v := 0) hx hb dX7_back_1 (by decide) ?_
  refine lv_iconst (v := 1) hx hb dX7_back_2 (by decide) ?_
  refine after_I (wc := []) (y := yX7_in) C S (va_runS (As := [.int (nI j), .int 0, .int 1]) (rest := []) C.1 (kX7_inz l g (nI j) 1 (by first | assumption | omega) H.size) (va_cwS 3 hts gX7_back_X7_in rfl rfl rfl (by decide +kernel) ⟨Nat.le_of_ble_eq_true rfl, Nat.le_of_ble_eq_true rfl⟩) (preS_at C S [] rfl (by decide)) rfl rfl hl.1 rfl (lv_room (Nat.le_of_ble_eq_true rfl)) dX7_back_3 ⟨Nat.le_of_ble_eq_true rfl, Nat.le_of_ble_eq_true rfl⟩) [] [0, 1, 2, 3] rfl (wr := [(M, ob 7 [.ref nw, .ref dr, .ref pa, .int ypa, .ref im, .ref ke, .ref fl, .ref fq, .int yfa, .ref te, .int yty, .int yat, .int yst, .int yso, .int yva, .ref ni, .ref re, .int yab, .int ybl, .int yis, .int yra, .ref ma, .ref be]), (nw, aI g 41 gn), (im, aI g 82 mf), (ke, aZ g 2 kz)]) rfl (by decide) (by decide) (fun r0 w0 H locs hq S => ?_)
  obtain ⟨rfl, rfl⟩ := hq
  have S : ST g A ss H locs [(M, ob 7 [.ref nw, .ref dr, .ref pa, .int ypa, .ref im, .ref ke, .ref fl, .ref fq, .int yfa, .ref te, .int yty, .int yat, .int yst, .int yso, .int yva, .ref ni, .ref re, .int yab, .int ybl, .int yis, .int yra, .ref ma, .ref be]), (nw, aI g 41 gn), (im, aI g 82 mf), (ke, aZ g 2 kz)] := S
  refine br_neB (tgt := 11) hx hb dX7_back_6 (by decide) (fun c_1 => ?_) (fun c_1 => ?_)
  · -- 6 T
    refine lv_aload_n hx hb dX7_back_11 rfl (lv_at hl 0 rfl) ?_
    refine top_get C S inX7_backg_X7 rfl 0 rfl 5 (by decide) (by decide +kernel) rfl rfl dX7_back_12 ?_
    refine lv_iload_n hx hb dX7_back_15 rfl (lv_at hl 1 rfl) ?_
    refine top_zld C S 3 rfl (j := j) rfl (by omega) (by decide) dX7_back_16 ?_
    refine lv_if_ne (tgt := 23) hx hb dX7_back_17 (by decide) (fun c_2 => ?_) (fun c_2 => ?_)
    · -- 17 T
      refine lv_iconst (v := 0) hx hb dX7_back_23 (by decide) ?_
      refine lv_istore_n (lv' := [(2, .int 0), (0, .ref M), (1, .int (nI j))]) hx hb dX7_back_24 rfl hl (by decide) rfl (fun ls hl => ?_)
      have loop25 : ∀ (N0 : Nat) (i : Nat) (g1 : Nat → Int32), 41 - i < N0 → (i ≤ 41) → (∀ t, t < i → g1 t = mf (41 * j + t)) → ∀ (H : Heap) (locs : List Loc) (ls : Array Slot), ST g A ss H locs [(M, ob 7 [.ref nw, .ref dr, .ref pa, .int ypa, .ref im, .ref ke, .ref fl, .ref fq, .int yfa, .ref te, .int yty, .int yat, .int yst, .int yso, .int yva, .ref ni, .ref re, .int yab, .int ybl, .int yis, .int yra, .ref ma, .ref be]), (nw, aI g 41 g1), (im, aI g 82 mf), (ke, aZ g 2 kz)] → lv_has ls 3 [(2, .int (nI i)), (0, .ref M), (1, .int (nI j))] → W pp l ee { frames := 1, cells := 0, slots := 0, locals := 22 } ss mm ([.ref M, .int (nI j)] : List Value).toArray bel mth cd H locs 0 0 (QI bel ([.ref M, .int (nI j)] : List Value).toArray ss g A (fun (r : Int32) (w' : va_W) => r = (nI n) ∧ ∃ (gn' : Nat → Int32), (∀ t, t < 41 → gn' t = mf (41 * j + t)) ∧ w' = [(M, ob 7 [.ref nw, .ref dr, .ref pa, .int (nI 0), .ref im, .ref ke, .ref fl, .ref fq, .int yfa, .ref te, .int yty, .int yat, .int yst, .int yso, .int yva, .ref ni, .ref re, .int yab, .int ybl, .int yis, .int yra, .ref ma, .ref be]), (nw, aI g 41 gn'), (im, aI g 82 mf), (ke, aZ g 2 kz)])) (F0 mm 25 ls []) := by
        intro N0
        induction N0 with
        | zero => intro i g1 hN; exact absurd hN (Nat.not_lt_zero _)
        | succ N0 ih25 =>
          intro i g1 hN hi hBt H locs ls S hl
          refine lv_iload_n hx hb dX7_back_25 rfl (lv_at hl 0 rfl) ?_
          refine lv_bipush (v := 41) hx hb dX7_back_26 (by decide) ?_
          refine bn_ige (tgt := 54) (a := i) (b := 41) hx hb rfl rfl (by omega) (by omega) dX7_back_28 (by decide) (fun c_3 => ?_) (fun c_3 => ?_)
          · -- 28 T
            refine lv_aload_n hx hb dX7_back_54 rfl (lv_at hl 1 rfl) ?_
            refine lv_iconst (v := 0) hx hb dX7_back_55 (by decide) ?_
            refine top_put (ty := .int) C S inX7_backg_X7 tyX7 tyX7_ok nmX7 rfl 0 rfl 3 (by decide) (by decide +kernel) rfl rfl (tyX7_ok 3 (by decide)) rfl rfl (Nat.le_of_ble_eq_true rfl) dX7_back_56 (fun H locs S => ?_)
            have S : ST g A ss H locs [(M, ob 7 [.ref nw, .ref dr, .ref pa, .int 0, .ref im, .ref ke, .ref fl, .ref fq, .int yfa, .ref te, .int yty, .int yat, .int yst, .int yso, .int yva, .ref ni, .ref re, .int yab, .int ybl, .int yis, .int yra, .ref ma, .ref be]), (nw, aI g 41 g1), (im, aI g 82 mf), (ke, aZ g 2 kz)] := S
            refine lv_aload_n hx hb dX7_back_59 rfl (lv_at hl 1 rfl) ?_
            refine top_get C S inX7_backg_X7 rfl 0 rfl 0 (by decide) (by decide +kernel) rfl rfl dX7_back_60 ?_
            refine lv_iconst (v := 0) hx hb dX7_back_63 (by decide) ?_
            refine top_ild C S 1 rfl (j := 0) rfl (by omega) (by decide) dX7_back_64 ?_
            exact ret_I C S hr dX7_back_65 ⟨(by rw [hBt 0 (by omega)]; exact hm0), g1, (fun t9 h9 => hBt t9 (by omega)), (rfl)⟩
          · -- 28 F
            refine lv_aload_n hx hb dX7_back_31 rfl (lv_at hl 1 rfl) ?_
            refine top_get C S inX7_backg_X7 rfl 0 rfl 0 (by decide) (by decide +kernel) rfl rfl dX7_back_32 ?_
            refine lv_iload_n hx hb dX7_back_35 rfl (lv_at hl 0 rfl) ?_
            refine lv_aload_n hx hb dX7_back_36 rfl (lv_at hl 1 rfl) ?_
            refine top_get C S inX7_backg_X7 rfl 0 rfl 4 (by decide) (by decide +kernel) rfl rfl dX7_back_37 ?_
            refine lv_bipush (v := 41) hx hb dX7_back_40 (by decide) ?_
            refine lv_iload_n hx hb dX7_back_42 rfl (lv_at hl 2 rfl) ?_
            refine lv_imul hx hb dX7_back_43 ?_
            refine top_eq (y := nI (41 * j)) (pk_mul _ _) ?_
            refine lv_iload_n hx hb dX7_back_44 rfl (lv_at hl 0 rfl) ?_
            refine lv_iadd hx hb dX7_back_45 ?_
            refine top_eq (y := nI ((41 * j) + i)) (nI_add _ _) ?_
            refine top_ild C S 2 rfl (j := ((41 * j) + i)) rfl (by omega) (by decide) dX7_back_46 ?_
            refine top_ist C S 1 rfl (j := i) rfl (by omega) (by decide) dX7_back_47 (fun H locs S => ?_)
            have S : ST g A ss H locs [(M, ob 7 [.ref nw, .ref dr, .ref pa, .int ypa, .ref im, .ref ke, .ref fl, .ref fq, .int yfa, .ref te, .int yty, .int yat, .int yst, .int yso, .int yva, .ref ni, .ref re, .int yab, .int ybl, .int yis, .int yra, .ref ma, .ref be]), (nw, aI g 41 (upd g1 i (mf ((41 * j) + i)))), (im, aI g 82 mf), (ke, aZ g 2 kz)] := S
            refine lv_iinc (v := nI (i + 1)) (lv' := [(2, .int (nI (i + 1))), (0, .ref M), (1, .int (nI j))]) hx hb dX7_back_48 hl (k := 0) rfl (nI_add _ _) (by decide) rfl (fun ls hl => ?_)
            refine lv_goto (tgt := 25) hx hb dX7_back_51 (by decide) ?_
            exact ih25 (i + 1) (upd g1 i (mf ((41 * j) + i))) (by omega) (by first | assumption | omega) (fun t9 h9 => by by_cases e9 : t9 = i; (subst e9; rw [pk_us]); (rw [pk_un e9]; exact hBt t9 (by omega))) H locs ls (ST.eq S (rfl)) (lv_sub hl [0, 1, 2] (rfl))
      exact loop25 _ 0 gn (Nat.lt_succ_self _) (by first | assumption | omega) (fun t9 h9 => absurd h9 (Nat.not_lt_zero _)) H locs ls (ST.eq S (rfl)) (lv_sub hl [0, 1, 2] (rfl))
    · -- 17 F
      rw [hyes] at c_2; exact absurd c_2 (by decide)
  · -- 6 F
    rw [hoj] at c_1; cases c_1
