theorem inX7_bearsBy_X7 : ∀ w ∈ wsX70, w ∈ wsX7_bearsBy := by decide +kernel
set_option maxRecDepth 100000 in
set_option maxHeartbeats 4000000 in
theorem kX7_bearsBy (l : Launch) (g : GG) (M : Nat) (nw : Nat) (dr : Nat) (pa : Nat) (im : Nat) (ke : Nat) (fl : Nat) (fq : Nat) (te : Nat) (ni : Nat) (re : Nat) (ma : Nat) (be : Nat) (ypa : Int32) (yfa : Int32) (yty : Int32) (yat : Int32) (yst : Int32) (yso : Int32) (yva : Int32) (yis : Int32) (yra : Int32) (gn : Nat → Int32) (n : Nat) (nu : Nat → Nat → Nat) (ref : Nat → Int32) (U : Nat) (Lw : Nat) (Rr : Nat → Nat) (b : Nat) (k : Nat) (hn : n ≤ 8) (hg0 : gn 0 = nI n) (hgn : ∀ a i, a < 4 → i < n → gn (5 * i + (a + 1)) = nI (nu a i)) (hU : U ≤ 20000) (hL : Lw ≤ 72) (hbb : b < 512) (hk : k < n) (hRe : b.testBit k = true → ref k = nI (Rr k)) (hRk : Rr k ≤ 240) : KI l g yX7_bearsBy wsX7_bearsBy 1 22 [.ref M, .int (nI b), .int (nI k)] [(M, ob 7 [.ref nw, .ref dr, .ref pa, .int ypa, .ref im, .ref ke, .ref fl, .ref fq, .int yfa, .ref te, .int yty, .int yat, .int yst, .int yso, .int yva, .ref ni, .ref re, .int (nI U), .int (nI Lw), .int yis, .int yra, .ref ma, .ref be]), (nw, aI g 41 gn), (re, aI g 8 ref)] (fun (r : Int32) (w' : va_W) => r = (nI (boN (nu 1) Rr b U Lw k)) ∧ w' = [(M, ob 7 [.ref nw, .ref dr, .ref pa, .int ypa, .ref im, .ref ke, .ref fl, .ref fq, .int yfa, .ref te, .int yty, .int yat, .int yst, .int yso, .int yva, .ref ni, .ref re, .int (nI U), .int (nI Lw), .int yis, .int yra, .ref ma, .ref be]), (nw, aI g 41 gn), (re, aI g 8 ref)]) := by
  refine kI_of (cc := cX7_bearsBy) (maxL := 4) (by decide) rfl (Nat.le_of_ble_eq_true rfl) ?_
  intro pp ee ss mm bel mth cd A ls C S hr hl
  obtain ⟨hx, hb, hml, hown, hts⟩ := id C.1
  have hl : lv_has ls 4 [(0, .ref M), (1, .int (nI b)), (2, .int (nI k))] := hl
  obtain ⟨H, hH⟩ : ∃ H, H = ss.heap := ⟨_, rfl⟩
  obtain ⟨locs, hL0⟩ : ∃ L : List Loc, L = [] := ⟨_, rfl⟩
  rw [← hH, ← hL0] at S ⊢
  have e3 : Rr k * Lw ≤ 240 * 72 := Nat.mul_le_mul hRk hL
  refine lv_iload_n hx hb dX7_bearsBy_0 rfl (lv_at hl 1 rfl) ?_
  refine lv_iload_n hx hb dX7_bearsBy_1 rfl (lv_at hl 2 rfl) ?_
  refine after_I (wc := []) (y := yX7_has) C S (va_runS (As := [.int (nI b), .int (nI k)]) (rest := []) C.1 (kX7_has l g b k (by first | assumption | omega) (by first | assumption | omega) H.size) (va_cwS 2 hts gX7_bearsBy_X7_has rfl rfl rfl (by decide +kernel) ⟨Nat.le_of_ble_eq_true rfl, Nat.le_of_ble_eq_true rfl⟩) (preS_at C S [] rfl (by decide)) rfl rfl hl.1 rfl (lv_room (Nat.le_of_ble_eq_true rfl)) dX7_bearsBy_2 ⟨Nat.le_of_ble_eq_true rfl, Nat.le_of_ble_eq_true rfl⟩) [] [0, 1, 2] rfl (wr := [(M, ob 7 [.ref nw, .ref dr, .ref pa, .int ypa, .ref im, .ref ke, .ref fl, .ref fq, .int yfa, .ref te, .int yty, .int yat, .int yst, .int yso, .int yva, .ref ni, .ref re, .int (nI U), .int (nI Lw), .int yis, .int yra, .ref ma, .ref be]), (nw, aI g 41 gn), (re, aI g 8 ref)]) rfl (by decide) (by decide) (fun r0 w0 H locs hq S => ?_)
  obtain ⟨rfl, rfl⟩ := hq
  have S : ST g A ss H locs [(M, ob 7 [.ref nw, .ref dr, .ref pa, .int ypa, .ref im, .ref ke, .ref fl, .ref fq, .int yfa, .ref te, .int yty, .int yat, .int yst, .int yso, .int yva, .ref ni, .ref re, .int (nI U), .int (nI Lw), .int yis, .int yra, .ref ma, .ref be]), (nw, aI g 41 gn), (re, aI g 8 ref)] := S
  refine br_eqB (tgt := 27) hx hb dX7_bearsBy_5 (by decide) (fun c_1 => ?_) (fun c_1 => ?_)
  · -- 5 T
    refine lv_iconst (v := 0) hx hb dX7_bearsBy_27 (by decide) ?_
    refine lv_istore_n (lv' := [(3, .int 0), (0, .ref M), (1, .int (nI b)), (2, .int (nI k))]) hx hb dX7_bearsBy_28 rfl hl (by decide) rfl (fun ls hl => ?_)
    refine lv_iload_n hx hb dX7_bearsBy_29 rfl (lv_at hl 0 rfl) ?_
    refine bn_zge (tgt := 37) (a := 0) hx hb rfl (by omega) dX7_bearsBy_30 (by decide) (fun c_2 => ?_) (fun c_2 => ?_)
    · -- 30 T
      refine lv_iload_n hx hb dX7_bearsBy_37 rfl (lv_at hl 0 rfl) ?_
      refine lv_aload_n hx hb dX7_bearsBy_38 rfl (lv_at hl 1 rfl) ?_
      refine lv_iload_n hx hb dX7_bearsBy_39 rfl (lv_at hl 3 rfl) ?_
      refine lv_iconst (v := 2) hx hb dX7_bearsBy_40 (by decide) ?_
      refine after_I (wc := [(M, ob 7 [.ref nw, .ref dr, .ref pa, .int ypa, .ref im, .ref ke, .ref fl, .ref fq, .int yfa, .ref te, .int yty, .int yat, .int yst, .int yso, .int yva, .ref ni, .ref re, .int (nI U), .int (nI Lw), .int yis, .int yra, .ref ma, .ref be]), (nw, aI g 41 gn)]) (y := yX7_of) C S (va_runV (As := [.int (nI k), .int 2]) (rest := [.int 0]) C.1 (kX7_of l g M nw dr pa im ke fl fq te ni re ma be ypa yfa yty yat yst yso yva (nI U) (nI Lw) yis yra gn k 2 (by first | assumption | omega) (by first | assumption | omega) H.size) (cwV 2 hts gX7_bearsBy_X7_of rfl rfl rfl (by decide +kernel) ⟨Nat.le_of_ble_eq_true rfl, Nat.le_of_ble_eq_true rfl⟩) (preV_at C S 0 rfl rfl [0, 1] rfl (by decide)) rfl rfl hl.1 rfl (lv_room (Nat.le_of_ble_eq_true rfl)) dX7_bearsBy_41 ⟨Nat.le_of_ble_eq_true rfl, Nat.le_of_ble_eq_true rfl⟩) [0, 1] [2] rfl (wr := [(re, aI g 8 ref)]) rfl (by decide) (by decide) (fun r0 w0 H locs hq S => ?_)
      obtain ⟨rfl, rfl⟩ := hq
      have S : ST g A ss H locs [(M, ob 7 [.ref nw, .ref dr, .ref pa, .int ypa, .ref im, .ref ke, .ref fl, .ref fq, .int yfa, .ref te, .int yty, .int yat, .int yst, .int yso, .int yva, .ref ni, .ref re, .int (nI U), .int (nI Lw), .int yis, .int yra, .ref ma, .ref be]), (nw, aI g 41 gn), (re, aI g 8 ref)] := ST.sub S [1, 2, 0] (by decide) rfl
      refine top_eq (y := nI (nu 1 k)) (hgn 1 _ (by omega) (by omega)) ?_
      refine lv_imul hx hb dX7_bearsBy_44 ?_
      refine top_eq (y := nI (0 * (nu 1 k))) (pk_mul _ _) ?_
      refine top_eq (y := nI (0 * (nu 1 k))) rfl ?_
      exact ret_I C S hr dX7_bearsBy_45 ⟨(by unfold boN; rw [if_neg (Bool.eq_false_iff.mp c_1), Nat.zero_mul] <;> rfl), (rfl)⟩
    · -- 30 F
      exact absurd c_2 (by decide)
  · -- 5 F
    have hbi := c_1
    refine lv_aload_n hx hb dX7_bearsBy_8 rfl (lv_at hl 0 rfl) ?_
    refine top_get C S inX7_bearsBy_X7 rfl 0 rfl 17 (by decide) (by decide +kernel) rfl rfl dX7_bearsBy_9 ?_
    refine lv_aload_n hx hb dX7_bearsBy_12 rfl (lv_at hl 0 rfl) ?_
    refine top_get C S inX7_bearsBy_X7 rfl 0 rfl 16 (by decide) (by decide +kernel) rfl rfl dX7_bearsBy_13 ?_
    refine lv_iload_n hx hb dX7_bearsBy_16 rfl (lv_at hl 2 rfl) ?_
    refine top_ild C S 2 rfl (j := k) rfl (by omega) (by decide) dX7_bearsBy_17 ?_
    refine top_eq (y := nI (Rr k)) (hRe hbi) ?_
    refine lv_aload_n hx hb dX7_bearsBy_18 rfl (lv_at hl 0 rfl) ?_
    refine top_get C S inX7_bearsBy_X7 rfl 0 rfl 18 (by decide) (by decide +kernel) rfl rfl dX7_bearsBy_19 ?_
    refine lv_imul hx hb dX7_bearsBy_22 ?_
    refine top_eq (y := nI ((Rr k) * Lw)) (pk_mul _ _) ?_
    refine lv_isub hx hb dX7_bearsBy_23 ?_
    refine lv_goto (tgt := 28) hx hb dX7_bearsBy_24 (by decide) ?_
    refine lv_istore_n (lv' := [(3, .int ((nI U) - (nI ((Rr k) * Lw)))), (0, .ref M), (1, .int (nI b)), (2, .int (nI k))]) hx hb dX7_bearsBy_28 rfl hl (by decide) rfl (fun ls hl => ?_)
    refine lv_iload_n hx hb dX7_bearsBy_29 rfl (lv_at hl 0 rfl) ?_
    refine lv_if_ge (tgt := 37) hx hb dX7_bearsBy_30 (by decide) (fun c_3 => ?_) (fun c_3 => ?_)
    · -- 30 T
      have hge := c_3
      refine lv_iload_n hx hb dX7_bearsBy_37 rfl (lv_at hl 0 rfl) ?_
      refine lv_aload_n hx hb dX7_bearsBy_38 rfl (lv_at hl 1 rfl) ?_
      refine lv_iload_n hx hb dX7_bearsBy_39 rfl (lv_at hl 3 rfl) ?_
      refine lv_iconst (v := 2) hx hb dX7_bearsBy_40 (by decide) ?_
      refine after_I (wc := [(M, ob 7 [.ref nw, .ref dr, .ref pa, .int ypa, .ref im, .ref ke, .ref fl, .ref fq, .int yfa, .ref te, .int yty, .int yat, .int yst, .int yso, .int yva, .ref ni, .ref re, .int (nI U), .int (nI Lw), .int yis, .int yra, .ref ma, .ref be]), (nw, aI g 41 gn)]) (y := yX7_of) C S (va_runV (As := [.int (nI k), .int 2]) (rest := [.int ((nI U) - (nI ((Rr k) * Lw)))]) C.1 (kX7_of l g M nw dr pa im ke fl fq te ni re ma be ypa yfa yty yat yst yso yva (nI U) (nI Lw) yis yra gn k 2 (by first | assumption | omega) (by first | assumption | omega) H.size) (cwV 2 hts gX7_bearsBy_X7_of rfl rfl rfl (by decide +kernel) ⟨Nat.le_of_ble_eq_true rfl, Nat.le_of_ble_eq_true rfl⟩) (preV_at C S 0 rfl rfl [0, 1] rfl (by decide)) rfl rfl hl.1 rfl (lv_room (Nat.le_of_ble_eq_true rfl)) dX7_bearsBy_41 ⟨Nat.le_of_ble_eq_true rfl, Nat.le_of_ble_eq_true rfl⟩) [0, 1] [2] rfl (wr := [(re, aI g 8 ref)]) rfl (by decide) (by decide) (fun r0 w0 H locs hq S => ?_)
      obtain ⟨rfl, rfl⟩ := hq
      have S : ST g A ss H locs [(M, ob 7 [.ref nw, .ref dr, .ref pa, .int ypa, .ref im, .ref ke, .ref fl, .ref fq, .int yfa, .ref te, .int yty, .int yat, .int yst, .int yso, .int yva, .ref ni, .ref re, .int (nI U), .int (nI Lw), .int yis, .int yra, .ref ma, .ref be]), (nw, aI g 41 gn), (re, aI g 8 ref)] := ST.sub S [1, 2, 0] (by decide) rfl
      refine top_eq (y := nI (nu 1 k)) (hgn 1 _ (by omega) (by omega)) ?_
      refine lv_imul hx hb dX7_bearsBy_44 ?_
      refine top_eq (y := nI ((U - Rr k * Lw) * nu 1 k)) (by rw [pk_sub (by have := (sub_lt_N (p := 0) (by omega) (by omega) (by decide)).mp hge; omega), pk_mul]) ?_
      exact ret_I C S hr dX7_bearsBy_45 ⟨(by unfold boN; rw [if_pos hbi, Nat.mul_comm]), (rfl)⟩
    · -- 30 F
      have hlt := c_3
      refine lv_iconst (v := 0) hx hb dX7_bearsBy_33 (by decide) ?_
      refine lv_goto (tgt := 45) hx hb dX7_bearsBy_34 (by decide) ?_
      exact ret_I C S hr dX7_bearsBy_45 ⟨(by unfold boN; rw [if_pos hbi, show U - Rr k * Lw = 0 by have := mt (sub_lt_N (p := 0) (by omega) (by omega) (by decide)).mpr hlt; omega, Nat.mul_zero] <;> rfl), (rfl)⟩

theorem inX7_beyond_X7 : ∀ w ∈ wsX70, w ∈ wsX7_beyond := by decide +kernel
set_option maxRecDepth 100000 in
set_option maxHeartbeats 4000000 in
theorem kX7_beyond (l : Launch) (g : GG) (M : Nat) (nw : Nat) (dr : Nat) (pa : Nat) (im : Nat) (ke : Nat) (fl : Nat) (fq : Nat) (te : Nat) (ni : Nat) (re : Nat) (ma : Nat) (be : Nat) (ypa : Int32) (yfa : Int32) (yty : Int32) (yat : Int32) (yst : Int32) (yso : Int32) (yva : Int32) (yis : Int32) (yra : Int32) (gn : Nat → Int32) (n : Nat) (nu : Nat → Nat → Nat) (ref : Nat → Int32) (U : Nat) (Lw : Nat) (Rr : Nat → Nat) (b : Nat) (k : Nat) (hn : n ≤ 8) (hg0 : gn 0 = nI n) (hgn : ∀ a i, a < 4 → i < n → gn (5 * i + (a + 1)) = nI (nu a i)) (hU : U ≤ 20000) (hL : Lw ≤ 72) (hbb : b < 512) (hk : k < n) (hRe : b.testBit k = true → ref k = nI (Rr k)) (hRk : Rr k ≤ 240) : KI l g yX7_beyond wsX7_beyond 2 45 [.ref M, .int (nI b), .int (nI k)] [(M, ob 7 [.ref nw, .ref dr, .ref pa, .int ypa, .ref im, .ref ke, .ref fl, .ref fq, .int yfa, .ref te, .int yty, .int yat, .int yst, .int yso, .int yva, .ref ni, .ref re, .int (nI U), .int (nI Lw), .int yis, .int yra, .ref ma, .ref be]), (nw, aI g 41 gn), (re, aI g 8 ref)] (fun (r : Int32) (w' : va_W) => r = (nI (boN (nu 1) Rr b U Lw k) - nI (nu 3 k * Lw)) ∧ w' = [(M, ob 7 [.ref nw, .ref dr, .ref pa, .int ypa, .ref im, .ref ke, .ref fl, .ref fq, .int yfa, .ref te, .int yty, .int yat, .int yst, .int yso, .int yva, .ref ni, .ref re, .int (nI U), .int (nI Lw), .int yis, .int yra, .ref ma, .ref be]), (nw, aI g 41 gn), (re, aI g 8 ref)]) := by
  refine kI_of (cc := cX7_beyond) (maxL := 3) (by decide) rfl (Nat.le_of_ble_eq_true rfl) ?_
  intro pp ee ss mm bel mth cd A ls C S hr hl
  obtain ⟨hx, hb, hml, hown, hts⟩ := id C.1
  have hl : lv_has ls 3 [(0, .ref M), (1, .int (nI b)), (2, .int (nI k))] := hl
  obtain ⟨H, hH⟩ : ∃ H, H = ss.heap := ⟨_, rfl⟩
  obtain ⟨locs, hL0⟩ : ∃ L : List Loc, L = [] := ⟨_, rfl⟩
  rw [← hH, ← hL0] at S ⊢
  refine lv_aload_n hx hb dX7_beyond_0 rfl (lv_at hl 0 rfl) ?_
  refine lv_iload_n hx hb dX7_beyond_1 rfl (lv_at hl 1 rfl) ?_
  refine lv_iload_n hx hb dX7_beyond_2 rfl (lv_at hl 2 rfl) ?_
  refine after_I (wc := [(M, ob 7 [.ref nw, .ref dr, .ref pa, .int ypa, .ref im, .ref ke, .ref fl, .ref fq, .int yfa, .ref te, .int yty, .int yat, .int yst, .int yso, .int yva, .ref ni, .ref re, .int (nI U), .int (nI Lw), .int yis, .int yra, .ref ma, .ref be]), (nw, aI g 41 gn), (re, aI g 8 ref)]) (y := yX7_bearsBy) C S (va_runV (As := [.int (nI b), .int (nI k)]) (rest := []) C.1 (kX7_bearsBy l g M nw dr pa im ke fl fq te ni re ma be ypa yfa yty yat yst yso yva yis yra gn n nu ref U Lw Rr b k (by first | assumption | omega) (by first | assumption | omega) (by first | assumption | omega) (by first | assumption | omega) (by first | assumption | omega) (by first | assumption | omega) (by first | assumption | omega) (by first | assumption | omega) (by first | assumption | omega) H.size) (cwV 2 hts gX7_beyond_X7_bearsBy rfl rfl rfl (by decide +kernel) ⟨Nat.le_of_ble_eq_true rfl, Nat.le_of_ble_eq_true rfl⟩) (preV_at C S 0 rfl rfl [0, 1, 2] rfl (by decide)) rfl rfl hl.1 rfl (lv_room (Nat.le_of_ble_eq_true rfl)) dX7_beyond_3 ⟨Nat.le_of_ble_eq_true rfl, Nat.le_of_ble_eq_true rfl⟩) [0, 1, 2] [] rfl (wr := []) rfl (by decide) (by decide) (fun r0 w0 H locs hq S => ?_)
  obtain ⟨rfl, rfl⟩ := hq
  have S : ST g A ss H locs [(M, ob 7 [.ref nw, .ref dr, .ref pa, .int ypa, .ref im, .ref ke, .ref fl, .ref fq, .int yfa, .ref te, .int yty, .int yat, .int yst, .int yso, .int yva, .ref ni, .ref re, .int (nI U), .int (nI Lw), .int yis, .int yra, .ref ma, .ref be]), (nw, aI g 41 gn), (re, aI g 8 ref)] := S
  refine lv_aload_n hx hb dX7_beyond_6 rfl (lv_at hl 0 rfl) ?_
  refine lv_iload_n hx hb dX7_beyond_7 rfl (lv_at hl 2 rfl) ?_
  refine lv_iconst (v := 4) hx hb dX7_beyond_8 (by decide) ?_
  refine after_I (wc := [(M, ob 7 [.ref nw, .ref dr, .ref pa, .int ypa, .ref im, .ref ke, .ref fl, .ref fq, .int yfa, .ref te, .int yty, .int yat, .int yst, .int yso, .int yva, .ref ni, .ref re, .int (nI U), .int (nI Lw), .int yis, .int yra, .ref ma, .ref be]), (nw, aI g 41 gn)]) (y := yX7_of) C S (va_runV (As := [.int (nI k), .int 4]) (rest := [.int (nI (boN (nu 1) Rr b U Lw k))]) C.1 (kX7_of l g M nw dr pa im ke fl fq te ni re ma be ypa yfa yty yat yst yso yva (nI U) (nI Lw) yis yra gn k 4 (by first | assumption | omega) (by first | assumption | omega) H.size) (cwV 2 hts gX7_beyond_X7_of rfl rfl rfl (by decide +kernel) ⟨Nat.le_of_ble_eq_true rfl, Nat.le_of_ble_eq_true rfl⟩) (preV_at C S 0 rfl rfl [0, 1] rfl (by decide)) rfl rfl hl.1 rfl (lv_room (Nat.le_of_ble_eq_true rfl)) dX7_beyond_9 ⟨Nat.le_of_ble_eq_true rfl, Nat.le_of_ble_eq_true rfl⟩) [0, 1] [2] rfl (wr := [(re, aI g 8 ref)]) rfl (by decide) (by decide) (fun r0 w0 H locs hq S => ?_)
  obtain ⟨rfl, rfl⟩ := hq
  have S : ST g A ss H locs [(M, ob 7 [.ref nw, .ref dr, .ref pa, .int ypa, .ref im, .ref ke, .ref fl, .ref fq, .int yfa, .ref te, .int yty, .int yat, .int yst, .int yso, .int yva, .ref ni, .ref re, .int (nI U), .int (nI Lw), .int yis, .int yra, .ref ma, .ref be]), (nw, aI g 41 gn), (re, aI g 8 ref)] := ST.sub S [1, 2, 0] (by decide) rfl
  refine top_eq (y := nI (nu 3 k)) (hgn 3 _ (by omega) (by omega)) ?_
  refine lv_aload_n hx hb dX7_beyond_12 rfl (lv_at hl 0 rfl) ?_
  refine top_get C S inX7_beyond_X7 rfl 0 rfl 18 (by decide) (by decide +kernel) rfl rfl dX7_beyond_13 ?_
  refine lv_imul hx hb dX7_beyond_16 ?_
  refine top_eq (y := nI ((nu 3 k) * Lw)) (pk_mul _ _) ?_
  refine lv_isub hx hb dX7_beyond_17 ?_
  exact ret_I C S hr dX7_beyond_18 ⟨(rfl), (rfl)⟩

theorem inX7_breaking_X7 : ∀ w ∈ wsX70, w ∈ wsX7_breaking := by decide +kernel
set_option maxRecDepth 100000 in
set_option maxHeartbeats 4000000 in
theorem kX7_breaking (l : Launch) (g : GG) (M : Nat) (nw : Nat) (dr : Nat) (pa : Nat) (im : Nat) (ke : Nat) (fl : Nat) (fq : Nat) (te : Nat) (ni : Nat) (re : Nat) (ma : Nat) (be : Nat) (ypa : Int32) (yfa : Int32) (yty : Int32) (yat : Int32) (yst : Int32) (yso : Int32) (yva : Int32) (yis : Int32) (yra : Int32) (gn : Nat → Int32) (n : Nat) (nu : Nat → Nat → Nat) (ref : Nat → Int32) (U : Nat) (Lw : Nat) (Rr : Nat → Nat) (b : Nat) (hn : n ≤ 8) (hg0 : gn 0 = nI n) (hgn : ∀ a i, a < 4 → i < n → gn (5 * i + (a + 1)) = nI (nu a i)) (hU : U ≤ 20000) (hL : Lw ≤ 72) (hbb : b < 512) (hRe : ∀ j, j < n → b.testBit j = true → ref j = nI (Rr j)) (hRb : ∀ i, i < n → Rr i ≤ 240) (hSb : ∀ i, i < n → nu 1 i ≤ 9) (hTb : ∀ i, i < n → nu 3 i ≤ 99) : KI l g yX7_breaking wsX7_breaking 3 67 [.ref M, .int (nI b)] [(M, ob 7 [.ref nw, .ref dr, .ref pa, .int ypa, .ref im, .ref ke, .ref fl, .ref fq, .int yfa, .ref te, .int yty, .int yat, .int yst, .int yso, .int yva, .ref ni, .ref re, .int (nI U), .int (nI Lw), .int yis, .int yra, .ref ma, .ref be]), (nw, aI g 41 gn), (re, aI g 8 ref)] (fun (r : Int32) (w' : va_W) => r = (o9 (fbk (fun j => boN (nu 1) Rr b U Lw j) (fun j => nu 3 j * Lw) n).1) ∧ w' = [(M, ob 7 [.ref nw, .ref dr, .ref pa, .int ypa, .ref im, .ref ke, .ref fl, .ref fq, .int yfa, .ref te, .int yty, .int yat, .int yst, .int yso, .int yva, .ref ni, .ref re, .int (nI U), .int (nI Lw), .int yis, .int yra, .ref ma, .ref be]), (nw, aI g 41 gn), (re, aI g 8 ref)]) := by
  refine kI_of (cc := cX7_breaking) (maxL := 5) (by decide) rfl (Nat.le_of_ble_eq_true rfl) ?_
  intro pp ee ss mm bel mth cd A ls C S hr hl
  obtain ⟨hx, hb, hml, hown, hts⟩ := id C.1
  have hl : lv_has ls 5 [(0, .ref M), (1, .int (nI b))] := hl
  obtain ⟨H, hH⟩ : ∃ H, H = ss.heap := ⟨_, rfl⟩
  obtain ⟨locs, hL0⟩ : ∃ L : List Loc, L = [] := ⟨_, rfl⟩
  rw [← hH, ← hL0] at S ⊢
  refine lv_bipush (v := (-9)) hx hb dX7_breaking_0 (by decide) ?_
  refine lv_istore_n (lv' := [(2, .int (-9)), (0, .ref M), (1, .int (nI b))]) hx hb dX7_breaking_2 rfl hl (by decide) rfl (fun ls hl => ?_)
  refine lv_iconst (v := 0) hx hb dX7_breaking_3 (by decide) ?_
  refine lv_istore_n (lv' := [(3, .int 0), (2, .int (-9)), (0, .ref M), (1, .int (nI b))]) hx hb dX7_breaking_4 rfl hl (by decide) rfl (fun ls hl => ?_)
  have loop5 : ∀ (N0 : Nat) (i : Nat) (x : Nat) (o : Option Nat), n - i < N0 → (i ≤ n) → (fbk (fun j => boN (nu 1) Rr b U Lw j) (fun j => nu 3 j * Lw) i = (o, x)) → (x ≤ 180000) → ∀ (H : Heap) (locs : List Loc) (ls : Array Slot), ST g A ss H locs [(M, ob 7 [.ref nw, .ref dr, .ref pa, .int ypa, .ref im, .ref ke, .ref fl, .ref fq, .int yfa, .ref te, .int yty, .int yat, .int yst, .int yso, .int yva, .ref ni, .ref re, .int (nI U), .int (nI Lw), .int yis, .int yra, .ref ma, .ref be]), (nw, aI g 41 gn), (re, aI g 8 ref)] → lv_has ls 5 [(3, .int (nI i)), (2, .int (o9 o)), (0, .ref M), (1, .int (nI b))] → W pp l ee { frames := 3, cells := 0, slots := 0, locals := 67 } ss mm ([.ref M, .int (nI b)] : List Value).toArray bel mth cd H locs 0 0 (QI bel ([.ref M, .int (nI b)] : List Value).toArray ss g A (fun (r : Int32) (w' : va_W) => r = (o9 (fbk (fun j => boN (nu 1) Rr b U Lw j) (fun j => nu 3 j * Lw) n).1) ∧ w' = [(M, ob 7 [.ref nw, .ref dr, .ref pa, .int ypa, .ref im, .ref ke, .ref fl, .ref fq, .int yfa, .ref te, .int yty, .int yat, .int yst, .int yso, .int yva, .ref ni, .ref re, .int (nI U), .int (nI Lw), .int yis, .int yra, .ref ma, .ref be]), (nw, aI g 41 gn), (re, aI g 8 ref)])) (F0 mm 5 ls []) := by
    intro N0
    induction N0 with
    | zero => intro i x o hN; exact absurd hN (Nat.not_lt_zero _)
    | succ N0 ih5 =>
      intro i x o hN hi ho hx9 H locs ls S hl
      have hx0 : o = none → x = 0 := fun q9 => by have := (fbk_none i (by rw [ho]; exact q9)).1; rw [ho] at this; exact this
      refine lv_iload_n hx hb dX7_breaking_5 rfl (lv_at hl 0 rfl) ?_
      refine lv_aload_n hx hb dX7_breaking_6 rfl (lv_at hl 2 rfl) ?_
      refine top_get C S inX7_breaking_X7 rfl 0 rfl 0 (by decide) (by decide +kernel) rfl rfl dX7_breaking_7 ?_
      refine lv_iconst (v := 0) hx hb dX7_breaking_10 (by decide) ?_
      refine top_ild C S 1 rfl (j := 0) rfl (by omega) (by decide) dX7_breaking_11 ?_
      refine top_eq (y := nI n) hg0 ?_
      refine bn_ige (tgt := 85) (a := i) (b := n) hx hb rfl rfl (by omega) (by omega) dX7_breaking_12 (by decide) (fun c_1 => ?_) (fun c_1 => ?_)
      · -- 12 T
        have hin : i = n := by omega
        rw [hin] at ho
        refine lv_iload_n hx hb dX7_breaking_85 rfl (lv_at hl 1 rfl) ?_
        exact ret_I C S hr dX7_breaking_86 ⟨(by rw [ho]), (rfl)⟩
      · -- 12 F
        have eb : boN (nu 1) Rr b U Lw i ≤ 180000 := bo_le hU (hSb i (by omega))
        have et : nu 3 i * Lw ≤ 99 * 72 := Nat.mul_le_mul (hTb i (by omega)) hL
        have hri := hRe i (by omega)
        have hrb := hRb i (by omega)
        refine lv_iload_n hx hb dX7_breaking_15 rfl (lv_at hl 3 rfl) ?_
        refine lv_iload_n hx hb dX7_breaking_16 rfl (lv_at hl 0 rfl) ?_
        refine after_I (wc := []) (y := yX7_has) C S (va_runS (As := [.int (nI b), .int (nI i)]) (rest := []) C.1 (kX7_has l g b i (by first | assumption | omega) (by first | assumption | omega) H.size) (va_cwS 2 hts gX7_breaking_X7_has rfl rfl rfl (by decide +kernel) ⟨Nat.le_of_ble_eq_true rfl, Nat.le_of_ble_eq_true rfl⟩) (preS_at C S [] rfl (by decide)) rfl rfl hl.1 rfl (lv_room (Nat.le_of_ble_eq_true rfl)) dX7_breaking_17 ⟨Nat.le_of_ble_eq_true rfl, Nat.le_of_ble_eq_true rfl⟩) [] [0, 1, 2] rfl (wr := [(M, ob 7 [.ref nw, .ref dr, .ref pa, .int ypa, .ref im, .ref ke, .ref fl, .ref fq, .int yfa, .ref te, .int yty, .int yat, .int yst, .int yso, .int yva, .ref ni, .ref re, .int (nI U), .int (nI Lw), .int yis, .int yra, .ref ma, .ref be]), (nw, aI g 41 gn), (re, aI g 8 ref)]) rfl (by decide) (by decide) (fun r0 w0 H locs hq S => ?_)
        obtain ⟨rfl, rfl⟩ := hq
        have S : ST g A ss H locs [(M, ob 7 [.ref nw, .ref dr, .ref pa, .int ypa, .ref im, .ref ke, .ref fl, .ref fq, .int yfa, .ref te, .int yty, .int yat, .int yst, .int yso, .int yva, .ref ni, .ref re, .int (nI U), .int (nI Lw), .int yis, .int yra, .ref ma, .ref be]), (nw, aI g 41 gn), (re, aI g 8 ref)] := S
        refine br_eqB (tgt := 36) hx hb dX7_breaking_20 (by decide) (fun c_2 => ?_) (fun c_2 => ?_)
        · -- 20 T
          refine lv_iconst (v := 0) hx hb dX7_breaking_36 (by decide) ?_
          refine lv_istore (lv' := [(4, .int 0), (3, .int (nI i)), (2, .int (o9 o)), (0, .ref M), (1, .int (nI b))]) hx hb dX7_breaking_37 hl (by decide) rfl (fun ls hl => ?_)
          refine lv_iload hx hb dX7_breaking_39 (lv_at hl 0 rfl) ?_
          refine bn_zeq (tgt := 77) (a := 0) hx hb rfl (by omega) dX7_breaking_41 (by decide) (fun c_3 => ?_) (fun c_3 => ?_)
          · -- 41 T
            refine lv_iload_n hx hb dX7_breaking_77 rfl (lv_at hl 2 rfl) ?_
            refine lv_istore_n (lv' := [(2, .int (o9 o)), (4, .int 0), (3, .int (nI i)), (0, .ref M), (1, .int (nI b))]) hx hb dX7_breaking_78 rfl hl (by decide) rfl (fun ls hl => ?_)
            refine lv_iinc (v := nI (i + 1)) (lv' := [(3, .int (nI (i + 1))), (2, .int (o9 o)), (4, .int 0), (0, .ref M), (1, .int (nI b))]) hx hb dX7_breaking_79 hl (k := 2) rfl (nI_add _ _) (by decide) rfl (fun ls hl => ?_)
            refine lv_goto (tgt := 5) hx hb dX7_breaking_82 (by decide) ?_
            exact ih5 (i + 1) x o (by omega) (by first | assumption | omega) (by simp only [fbk, ho, if_neg (show ¬ x + nu 3 i * Lw < boN (nu 1) Rr b U Lw i by rw [show boN (nu 1) Rr b U Lw i = 0 by unfold boN; rw [if_neg (Bool.eq_false_iff.mp c_2)]]; omega)]) (by first | assumption | omega) H locs ls (ST.eq S (rfl)) (lv_sub hl [0, 1, 3, 4] (rfl))
          · -- 41 F
            exact absurd c_3 (by decide)
        · -- 20 F
          refine lv_aload_n hx hb dX7_breaking_23 rfl (lv_at hl 2 rfl) ?_
          refine lv_iload_n hx hb dX7_breaking_24 rfl (lv_at hl 3 rfl) ?_
          refine lv_iload_n hx hb dX7_breaking_25 rfl (lv_at hl 0 rfl) ?_
          refine after_I (wc := [(M, ob 7 [.ref nw, .ref dr, .ref pa, .int ypa, .ref im, .ref ke, .ref fl, .ref fq, .int yfa, .ref te, .int yty, .int yat, .int yst, .int yso, .int yva, .ref ni, .ref re, .int (nI U), .int (nI Lw), .int yis, .int yra, .ref ma, .ref be]), (nw, aI g 41 gn), (re, aI g 8 ref)]) (y := yX7_beyond) C S (va_runV (As := [.int (nI b), .int (nI i)]) (rest := []) C.1 (kX7_beyond l g M nw dr pa im ke fl fq te ni re ma be ypa yfa yty yat yst yso yva yis yra gn n nu ref U Lw Rr b i (by first | assumption | omega) (by first | assumption | omega) (by first | assumption | omega) (by first | assumption | omega) (by first | assumption | omega) (by first | assumption | omega) (by first | assumption | omega) (by first | assumption | omega) (by first | assumption | omega) H.size) (cwV 2 hts gX7_breaking_X7_beyond rfl rfl rfl (by decide +kernel) ⟨Nat.le_of_ble_eq_true rfl, Nat.le_of_ble_eq_true rfl⟩) (preV_at C S 0 rfl rfl [0, 1, 2] rfl (by decide)) rfl rfl hl.1 rfl (lv_room (Nat.le_of_ble_eq_true rfl)) dX7_breaking_26 ⟨Nat.le_of_ble_eq_true rfl, Nat.le_of_ble_eq_true rfl⟩) [0, 1, 2] [] rfl (wr := []) rfl (by decide) (by decide) (fun r0 w0 H locs hq S => ?_)
          obtain ⟨rfl, rfl⟩ := hq
          have S : ST g A ss H locs [(M, ob 7 [.ref nw, .ref dr, .ref pa, .int ypa, .ref im, .ref ke, .ref fl, .ref fq, .int yfa, .ref te, .int yty, .int yat, .int yst, .int yso, .int yva, .ref ni, .ref re, .int (nI U), .int (nI Lw), .int yis, .int yra, .ref ma, .ref be]), (nw, aI g 41 gn), (re, aI g 8 ref)] := S
          refine lv_if_le (tgt := 36) hx hb dX7_breaking_29 (by decide) (fun c_4 => ?_) (fun c_4 => ?_)
          · -- 29 T
            have c_4 := (sub_le_N (p := 0) (by omega) (by omega) (by decide)).mp c_4
            refine lv_iconst (v := 0) hx hb dX7_breaking_36 (by decide) ?_
            refine lv_istore (lv' := [(4, .int 0), (3, .int (nI i)), (2, .int (o9 o)), (0, .ref M), (1, .int (nI b))]) hx hb dX7_breaking_37 hl (by decide) rfl (fun ls hl => ?_)
            refine lv_iload hx hb dX7_breaking_39 (lv_at hl 0 rfl) ?_
            refine bn_zeq (tgt := 77) (a := 0) hx hb rfl (by omega) dX7_breaking_41 (by decide) (fun c_5 => ?_) (fun c_5 => ?_)
            · -- 41 T
              refine lv_iload_n hx hb dX7_breaking_77 rfl (lv_at hl 2 rfl) ?_
              refine lv_istore_n (lv' := [(2, .int (o9 o)), (4, .int 0), (3, .int (nI i)), (0, .ref M), (1, .int (nI b))]) hx hb dX7_breaking_78 rfl hl (by decide) rfl (fun ls hl => ?_)
              refine lv_iinc (v := nI (i + 1)) (lv' := [(3, .int (nI (i + 1))), (2, .int (o9 o)), (4, .int 0), (0, .ref M), (1, .int (nI b))]) hx hb dX7_breaking_79 hl (k := 2) rfl (nI_add _ _) (by decide) rfl (fun ls hl => ?_)
              refine lv_goto (tgt := 5) hx hb dX7_breaking_82 (by decide) ?_
              exact ih5 (i + 1) x o (by omega) (by first | assumption | omega) (by simp only [fbk, ho, if_neg (show ¬ x + nu 3 i * Lw < boN (nu 1) Rr b U Lw i by omega)]) (by first | assumption | omega) H locs ls (ST.eq S (rfl)) (lv_sub hl [0, 1, 3, 4] (rfl))
            · -- 41 F
              exact absurd c_5 (by decide)
          · -- 29 F
            have c_4 := mt (sub_le_N (p := 0) (by omega) (by omega) (by decide)).mpr c_4
            refine lv_iconst (v := 1) hx hb dX7_breaking_32 (by decide) ?_
            refine lv_goto (tgt := 37) hx hb dX7_breaking_33 (by decide) ?_
            refine lv_istore (lv' := [(4, .int 1), (3, .int (nI i)), (2, .int (o9 o)), (0, .ref M), (1, .int (nI b))]) hx hb dX7_breaking_37 hl (by decide) rfl (fun ls hl => ?_)
            refine lv_iload hx hb dX7_breaking_39 (lv_at hl 0 rfl) ?_
            refine bn_zeq (tgt := 77) (a := 1) hx hb rfl (by omega) dX7_breaking_41 (by decide) (fun c_6 => ?_) (fun c_6 => ?_)
            · -- 41 T
              exact absurd c_6 (by decide)
            · -- 41 F
              cases o with
              | none =>
                have hl : lv_has ls 5 [(4, .int 1), (3, .int (nI i)), (2, .int (-9)), (0, .ref M), (1, .int (nI b))] := hl
                have hx0 := hx0 rfl
                refine lv_iload_n hx hb dX7_breaking_44 rfl (lv_at hl 2 rfl) ?_
                refine lv_bipush (v := (-9)) hx hb dX7_breaking_45 (by decide) ?_
                refine lv_icmp_eq (tgt := 73) hx hb dX7_breaking_47 (by decide) (fun c_7 => ?_) (fun c_7 => ?_)
                · -- 47 T
                  refine lv_iload_n hx hb dX7_breaking_73 rfl (lv_at hl 1 rfl) ?_
                  refine lv_goto (tgt := 78) hx hb dX7_breaking_74 (by decide) ?_
                  refine lv_istore_n (lv' := [(2, .int (nI i)), (4, .int 1), (3, .int (nI i)), (0, .ref M), (1, .int (nI b))]) hx hb dX7_breaking_78 rfl hl (by decide) rfl (fun ls hl => ?_)
                  refine lv_iinc (v := nI (i + 1)) (lv' := [(3, .int (nI (i + 1))), (2, .int (nI i)), (4, .int 1), (0, .ref M), (1, .int (nI b))]) hx hb dX7_breaking_79 hl (k := 2) rfl (nI_add _ _) (by decide) rfl (fun ls hl => ?_)
                  refine lv_goto (tgt := 5) hx hb dX7_breaking_82 (by decide) ?_
                  exact ih5 (i + 1) (boN (nu 1) Rr b U Lw i - nu 3 i * Lw) (some i) (by omega) (by first | assumption | omega) (by simp only [fbk, ho, if_pos (show x + nu 3 i * Lw < boN (nu 1) Rr b U Lw i by omega)]) (by first | assumption | omega) H locs ls (ST.eq S (rfl)) (lv_sub hl [0, 1, 3, 4] (rfl))
                · -- 47 F
                  exact absurd rfl c_7
              | some j =>
                have hl : lv_has ls 5 [(4, .int 1), (3, .int (nI i)), (2, .int (nI j)), (0, .ref M), (1, .int (nI b))] := hl
                have hf3 := fbk_bo i j (by rw [ho])
                rw [ho] at hf3
                obtain ⟨hx1, hx2, hx3⟩ := hf3
                have hx3 : x = boN (nu 1) Rr b U Lw j - nu 3 j * Lw := hx3
                have hx2 : nu 3 j * Lw < boN (nu 1) Rr b U Lw j := hx2
                refine lv_iload_n hx hb dX7_breaking_44 rfl (lv_at hl 2 rfl) ?_
                refine lv_bipush (v := (-9)) hx hb dX7_breaking_45 (by decide) ?_
                refine lv_icmp_eq (tgt := 73) hx hb dX7_breaking_47 (by decide) (fun c_8 => ?_) (fun c_8 => ?_)
                · -- 47 T
                  exact absurd c_8 (nI_n9 (by omega))
                · -- 47 F
                  refine lv_aload_n hx hb dX7_breaking_50 rfl (lv_at hl 3 rfl) ?_
                  refine lv_iload_n hx hb dX7_breaking_51 rfl (lv_at hl 4 rfl) ?_
                  refine lv_iload_n hx hb dX7_breaking_52 rfl (lv_at hl 1 rfl) ?_
                  refine after_I (wc := [(M, ob 7 [.ref nw, .ref dr, .ref pa, .int ypa, .ref im, .ref ke, .ref fl, .ref fq, .int yfa, .ref te, .int yty, .int yat, .int yst, .int yso, .int yva, .ref ni, .ref re, .int (nI U), .int (nI Lw), .int yis, .int yra, .ref ma, .ref be]), (nw, aI g 41 gn), (re, aI g 8 ref)]) (y := yX7_beyond) C S (va_runV (As := [.int (nI b), .int (nI i)]) (rest := []) C.1 (kX7_beyond l g M nw dr pa im ke fl fq te ni re ma be ypa yfa yty yat yst yso yva yis yra gn n nu ref U Lw Rr b i (by first | assumption | omega) (by first | assumption | omega) (by first | assumption | omega) (by first | assumption | omega) (by first | assumption | omega) (by first | assumption | omega) (by first | assumption | omega) (by first | assumption | omega) (by first | assumption | omega) H.size) (cwV 2 hts gX7_breaking_X7_beyond rfl rfl rfl (by decide +kernel) ⟨Nat.le_of_ble_eq_true rfl, Nat.le_of_ble_eq_true rfl⟩) (preV_at C S 0 rfl rfl [0, 1, 2] rfl (by decide)) rfl rfl hl.1 rfl (lv_room (Nat.le_of_ble_eq_true rfl)) dX7_breaking_53 ⟨Nat.le_of_ble_eq_true rfl, Nat.le_of_ble_eq_true rfl⟩) [0, 1, 2] [] rfl (wr := []) rfl (by decide) (by decide) (fun r0 w0 H locs hq S => ?_)
                  obtain ⟨rfl, rfl⟩ := hq
                  have S : ST g A ss H locs [(M, ob 7 [.ref nw, .ref dr, .ref pa, .int ypa, .ref im, .ref ke, .ref fl, .ref fq, .int yfa, .ref te, .int yty, .int yat, .int yst, .int yso, .int yva, .ref ni, .ref re, .int (nI U), .int (nI Lw), .int yis, .int yra, .ref ma, .ref be]), (nw, aI g 41 gn), (re, aI g 8 ref)] := S
                  refine lv_aload_n hx hb dX7_breaking_56 rfl (lv_at hl 3 rfl) ?_
                  refine lv_iload_n hx hb dX7_breaking_57 rfl (lv_at hl 4 rfl) ?_
                  refine lv_iload_n hx hb dX7_breaking_58 rfl (lv_at hl 2 rfl) ?_
                  refine bn_zge (tgt := 66) (a := j) hx hb rfl (by omega) dX7_breaking_59 (by decide) (fun c_9 => ?_) (fun c_9 => ?_)
                  · -- 59 T
                    refine lv_iload_n hx hb dX7_breaking_66 rfl (lv_at hl 2 rfl) ?_
                    refine after_I (wc := [(M, ob 7 [.ref nw, .ref dr, .ref pa, .int ypa, .ref im, .ref ke, .ref fl, .ref fq, .int yfa, .ref te, .int yty, .int yat, .int yst, .int yso, .int yva, .ref ni, .ref re, .int (nI U), .int (nI Lw), .int yis, .int yra, .ref ma, .ref be]), (nw, aI g 41 gn), (re, aI g 8 ref)]) (y := yX7_beyond) C S (va_runV (As := [.int (nI b), .int (nI j)]) (rest := [.int (nI (boN (nu 1) Rr b U Lw i) - nI (nu 3 i * Lw))]) C.1 (kX7_beyond l g M nw dr pa im ke fl fq te ni re ma be ypa yfa yty yat yst yso yva yis yra gn n nu ref U Lw Rr b j (by first | assumption | omega) (by first | assumption | omega) (by first | assumption | omega) (by first | assumption | omega) (by first | assumption | omega) (by first | assumption | omega) (by first | assumption | omega) (hRe j (by omega)) (hRb j (by omega)) H.size) (cwV 2 hts gX7_breaking_X7_beyond rfl rfl rfl (by decide +kernel) ⟨Nat.le_of_ble_eq_true rfl, Nat.le_of_ble_eq_true rfl⟩) (preV_at C S 0 rfl rfl [0, 1, 2] rfl (by decide)) rfl rfl hl.1 rfl (lv_room (Nat.le_of_ble_eq_true rfl)) dX7_breaking_67 ⟨Nat.le_of_ble_eq_true rfl, Nat.le_of_ble_eq_true rfl⟩) [0, 1, 2] [] rfl (wr := []) rfl (by decide) (by decide) (fun r0 w0 H locs hq S => ?_)
                    obtain ⟨rfl, rfl⟩ := hq
                    have S : ST g A ss H locs [(M, ob 7 [.ref nw, .ref dr, .ref pa, .int ypa, .ref im, .ref ke, .ref fl, .ref fq, .int yfa, .ref te, .int yty, .int yat, .int yst, .int yso, .int yva, .ref ni, .ref re, .int (nI U), .int (nI Lw), .int yis, .int yra, .ref ma, .ref be]), (nw, aI g 41 gn), (re, aI g 8 ref)] := S
                    refine top_eq (y := nI x) (by rw [hx3]; exact pk_sub (by omega)) ?_
                    refine lv_icmp_le (tgt := 77) hx hb dX7_breaking_70 (by decide) (fun c_10 => ?_) (fun c_10 => ?_)
                    · -- 70 T
                      have c_10 := (sub_le_N (by omega) (by omega) (by omega)).mp c_10
                      refine lv_iload_n hx hb dX7_breaking_77 rfl (lv_at hl 2 rfl) ?_
                      refine lv_istore_n (lv' := [(2, .int (nI j)), (4, .int 1), (3, .int (nI i)), (0, .ref M), (1, .int (nI b))]) hx hb dX7_breaking_78 rfl hl (by decide) rfl (fun ls hl => ?_)
                      refine lv_iinc (v := nI (i + 1)) (lv' := [(3, .int (nI (i + 1))), (2, .int (nI j)), (4, .int 1), (0, .ref M), (1, .int (nI b))]) hx hb dX7_breaking_79 hl (k := 2) rfl (nI_add _ _) (by decide) rfl (fun ls hl => ?_)
                      refine lv_goto (tgt := 5) hx hb dX7_breaking_82 (by decide) ?_
                      exact ih5 (i + 1) x (some j) (by omega) (by first | assumption | omega) (by simp only [fbk, ho, if_neg (show ¬ x + nu 3 i * Lw < boN (nu 1) Rr b U Lw i by omega)]) (by first | assumption | omega) H locs ls (ST.eq S (rfl)) (lv_sub hl [0, 1, 3, 4] (rfl))
                    · -- 70 F
                      have c_10 := mt (sub_le_N (by omega) (by omega) (by omega)).mpr c_10
                      refine lv_iload_n hx hb dX7_breaking_73 rfl (lv_at hl 1 rfl) ?_
                      refine lv_goto (tgt := 78) hx hb dX7_breaking_74 (by decide) ?_
                      refine lv_istore_n (lv' := [(2, .int (nI i)), (4, .int 1), (3, .int (nI i)), (0, .ref M), (1, .int (nI b))]) hx hb dX7_breaking_78 rfl hl (by decide) rfl (fun ls hl => ?_)
                      refine lv_iinc (v := nI (i + 1)) (lv' := [(3, .int (nI (i + 1))), (2, .int (nI i)), (4, .int 1), (0, .ref M), (1, .int (nI b))]) hx hb dX7_breaking_79 hl (k := 2) rfl (nI_add _ _) (by decide) rfl (fun ls hl => ?_)
                      refine lv_goto (tgt := 5) hx hb dX7_breaking_82 (by decide) ?_
                      exact ih5 (i + 1) (boN (nu 1) Rr b U Lw i - nu 3 i * Lw) (some i) (by omega) (by first | assumption | omega) (by simp only [fbk, ho, if_pos (show x + nu 3 i * Lw < boN (nu 1) Rr b U Lw i by omega)]) (by first | assumption | omega) H locs ls (ST.eq S (rfl)) (lv_sub hl [0, 1, 3, 4] (rfl))
                  · -- 59 F
                    exact absurd (Nat.zero_le _) c_9
  exact loop5 _ 0 0 none (Nat.lt_succ_self _) (by first | assumption | omega) (rfl) (by first | assumption | omega) H locs ls (ST.eq S (rfl)) (lv_sub hl [0, 1, 2, 3] (rfl))
