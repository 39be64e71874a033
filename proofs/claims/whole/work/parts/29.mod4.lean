set_option maxRecDepth 100000 in
set_option maxHeartbeats 4000000 in
theorem kX7_wholeBehind (l : Launch) (g : GG) (M : Nat) (nw : Nat) (dr : Nat) (pa : Nat) (im : Nat) (ke : Nat) (fl : Nat) (fq : Nat) (te : Nat) (ni : Nat) (re : Nat) (ma : Nat) (be : Nat) (ypa : Int32) (yfa : Int32) (yty : Int32) (yat : Int32) (yst : Int32) (yso : Int32) (yva : Int32) (yab : Int32) (ybl : Int32) (yis : Int32) (yra : Int32) (gn : Nat → Int32) (n : Nat) (ww : Nat) (nu : Nat → Nat → Nat) (nf : Nat → Int32) (ref : Nat → Int32) (p : Nat) (hn1 : 1 ≤ n) (hn : n ≤ 8) (hww : ww < 2 ^ n) (hg0 : gn 0 = nI n) (hgn : ∀ a i, a < 4 → i < n → gn (5 * i + (a + 1)) = nI (nu a i)) (hgw : ∀ i, i < n → gn (5 * i + 5) = nI (ww.testBit i).toNat) (hB : HB nu n) (hp : p ≤ 999) : KI l g yX7_wholeBehind wsX7_wholeBehind 4 91 [.ref M, .int (nI p)] [(M, ob 7 [.ref nw, .ref dr, .ref pa, .int ypa, .ref im, .ref ke, .ref fl, .ref fq, .int yfa, .ref te, .int yty, .int yat, .int yst, .int yso, .int yva, .ref ni, .ref re, .int yab, .int ybl, .int yis, .int yra, .ref ma, .ref be]), (nw, aI g 41 gn), (ni, aI g 8 nf), (re, aI g 8 ref)] (fun (r : Int32) (w' : va_W) => r = (nI (wa (fb (nu 1) (R0 nu) (nu 3) n p) 8 ww)) ∧ ∃ (ab' : Int32), ∃ (bl' : Int32), ∃ (is' : Int32), ∃ (ra' : Int32), ∃ (nf' : Nat → Int32), ∃ (ref' : Nat → Int32), w' = [(M, ob 7 [.ref nw, .ref dr, .ref pa, .int ypa, .ref im, .ref ke, .ref fl, .ref fq, .int yfa, .ref te, .int yty, .int yat, .int yst, .int yso, .int yva, .ref ni, .ref re, .int ab', .int bl', .int is', .int ra', .ref ma, .ref be]), (nw, aI g 41 gn), (ni, aI g 8 nf'), (re, aI g 8 ref')]) := by
  refine kI_of (cc := cX7_wholeBehind) (maxL := 5) (by decide) rfl (Nat.le_of_ble_eq_true rfl) ?_
  intro pp ee ss mm bel mth cd A ls C S hr hl
  obtain ⟨hx, hb, hml, hown, hts⟩ := id C.1
  have hl : lv_has ls 5 [(0, .ref M), (1, .int (nI p))] := hl
  obtain ⟨H, hH⟩ : ∃ H, H = ss.heap := ⟨_, rfl⟩
  obtain ⟨locs, hL0⟩ : ∃ L : List Loc, L = [] := ⟨_, rfl⟩
  rw [← hH, ← hL0] at S ⊢
  have hca : ∀ i, i < n → nu 2 i ≤ 30 := fun i9 h9 => (hB i9 h9).2.2.1
  have hSb : ∀ i, i < n → nu 1 i ≤ 9 := fun i9 h9 => (hB i9 h9).2.1.2
  have hTb : ∀ i, i < n → nu 3 i ≤ 99 := fun i9 h9 => (hB i9 h9).2.2.2.2
  have hRb : ∀ i, i < n → R0 nu i ≤ 240 := RC_le hn hca
  have hst : ∀ i, i < n → 1 ≤ nu 1 i ∧ nu 1 i ≤ 9 := fun i9 h9 => (hB i9 h9).2.1
  have w8 : ww < 256 := wlt hn hww
  have a8 : 2 ^ n - 1 < 256 := all_lt hn
  refine lv_aload_n hx hb dX7_wholeBehind_0 rfl (lv_at hl 0 rfl) ?_
  refine after_I (wc := [(M, ob 7 [.ref nw, .ref dr, .ref pa, .int ypa, .ref im, .ref ke, .ref fl, .ref fq, .int yfa, .ref te, .int yty, .int yat, .int yst, .int yso, .int yva, .ref ni, .ref re, .int yab, .int ybl, .int yis, .int yra, .ref ma, .ref be]), (nw, aI g 41 gn)]) (y := yX7_whole) C S (va_runV (As := []) (rest := []) C.1 (kX7_whole l g M nw dr pa im ke fl fq te ni re ma be ypa yfa yty yat yst yso yva yab ybl yis yra gn n ww (by first | assumption | omega) (by first | assumption | omega) (by first | assumption | omega) (by first | assumption | omega) H.size) (cwV 0 hts gX7_wholeBehind_X7_whole rfl rfl rfl (by decide +kernel) ⟨Nat.le_of_ble_eq_true rfl, Nat.le_of_ble_eq_true rfl⟩) (preV_at C S 0 rfl rfl [0, 1] rfl (by decide)) rfl rfl hl.1 rfl (lv_room (Nat.le_of_ble_eq_true rfl)) dX7_wholeBehind_1 ⟨Nat.le_of_ble_eq_true rfl, Nat.le_of_ble_eq_true rfl⟩) [0, 1] [2, 3] rfl (wr := [(ni, aI g 8 nf), (re, aI g 8 ref)]) rfl (by decide) (by decide) (fun r0 w0 H locs hq S => ?_)
  obtain ⟨rfl, rfl⟩ := hq
  have S : ST g A ss H locs [(M, ob 7 [.ref nw, .ref dr, .ref pa, .int ypa, .ref im, .ref ke, .ref fl, .ref fq, .int yfa, .ref te, .int yty, .int yat, .int yst, .int yso, .int yva, .ref ni, .ref re, .int yab, .int ybl, .int yis, .int yra, .ref ma, .ref be]), (nw, aI g 41 gn), (ni, aI g 8 nf), (re, aI g 8 ref)] := ST.sub S [2, 3, 0, 1] (by decide) rfl
  refine lv_istore_n (lv' := [(2, .int (nI ww)), (0, .ref M), (1, .int (nI p))]) hx hb dX7_wholeBehind_4 rfl hl (by decide) rfl (fun ls hl => ?_)
  refine lv_iload_n hx hb dX7_wholeBehind_5 rfl (lv_at hl 0 rfl) ?_
  refine bn_zeq (tgt := 13) (a := ww) hx hb rfl (by omega) dX7_wholeBehind_6 (by decide) (fun c_1 => ?_) (fun c_1 => ?_)
  · -- 6 T
    refine lv_iconst (v := 0) hx hb dX7_wholeBehind_13 (by decide) ?_
    refine lv_istore_n (lv' := [(3, .int 0), (2, .int (nI ww)), (0, .ref M), (1, .int (nI p))]) hx hb dX7_wholeBehind_14 rfl hl (by decide) rfl (fun ls hl => ?_)
    have loop15 : ∀ (N0 : Nat) (set : Nat) (mb : Bool) (u1 : Int32) (u2 : Int32) (u3 : Int32) (u4 : Int32) (n1 : Nat → Int32) (r1 : Nat → Int32), 2 * set + mb.toNat < N0 → (set < 2 ^ n) → (mb = true → set ≠ 0) → (mb = false → (set = 0 ∨ fb (nu 1) (R0 nu) (nu 3) n p set = none)) → (wa (fb (nu 1) (R0 nu) (nu 3) n p) 8 set = wa (fb (nu 1) (R0 nu) (nu 3) n p) 8 ww) → ∀ (H : Heap) (locs : List Loc) (ls : Array Slot), ST g A ss H locs [(M, ob 7 [.ref nw, .ref dr, .ref pa, .int ypa, .ref im, .ref ke, .ref fl, .ref fq, .int yfa, .ref te, .int yty, .int yat, .int yst, .int yso, .int yva, .ref ni, .ref re, .int u1, .int u2, .int u3, .int u4, .ref ma, .ref be]), (nw, aI g 41 gn), (ni, aI g 8 n1), (re, aI g 8 r1)] → lv_has ls 5 [(3, .int (bI mb)), (2, .int (nI set)), (0, .ref M), (1, .int (nI p))] → W pp l ee { frames := 4, cells := 0, slots := 0, locals := 91 } ss mm ([.ref M, .int (nI p)] : List Value).toArray bel mth cd H locs 0 0 (QI bel ([.ref M, .int (nI p)] : List Value).toArray ss g A (fun (r : Int32) (w' : va_W) => r = (nI (wa (fb (nu 1) (R0 nu) (nu 3) n p) 8 ww)) ∧ ∃ (ab' : Int32), ∃ (bl' : Int32), ∃ (is' : Int32), ∃ (ra' : Int32), ∃ (nf' : Nat → Int32), ∃ (ref' : Nat → Int32), w' = [(M, ob 7 [.ref nw, .ref dr, .ref pa, .int ypa, .ref im, .ref ke, .ref fl, .ref fq, .int yfa, .ref te, .int yty, .int yat, .int yst, .int yso, .int yva, .ref ni, .ref re, .int ab', .int bl', .int is', .int ra', .ref ma, .ref be]), (nw, aI g 41 gn), (ni, aI g 8 nf'), (re, aI g 8 ref')])) (F0 mm 15 ls []) := by
      intro N0
      induction N0 with
      | zero => intro set mb u1 u2 u3 u4 n1 r1 hN; exact absurd hN (Nat.not_lt_zero _)
      | succ N0 ih15 =>
        intro set mb u1 u2 u3 u4 n1 r1 hN hset hmb hmf hwa H locs ls S hl
        refine lv_iload_n hx hb dX7_wholeBehind_15 rfl (lv_at hl 0 rfl) ?_
        refine br_eqB (tgt := 76) hx hb dX7_wholeBehind_16 (by decide) (fun c_2 => ?_) (fun c_2 => ?_)
        · -- 16 T
          have hfin : wa (fb (nu 1) (R0 nu) (nu 3) n p) 8 set = set := by rcases hmf c_2 with z9 | z9; (rw [z9]; exact wa_0 (fb_F hn)); exact wa_none z9
          refine lv_iload_n hx hb dX7_wholeBehind_76 rfl (lv_at hl 1 rfl) ?_
          exact ret_I C S hr dX7_wholeBehind_77 ⟨(by rw [← hwa, hfin]), u1, u2, u3, u4, n1, r1, (rfl)⟩
        · -- 16 F
          have hmbt := c_2
          have hs0 := hmb c_2
          have hpos : 0 < lowN (nu 1) (R0 nu) set p n := (bent (fun i9 h9 => (hst i9 h9).1) hset).mpr (Or.inr hs0)
          have s8 : set < 256 := wlt hn hset
          refine lv_aload_n hx hb dX7_wholeBehind_19 rfl (lv_at hl 2 rfl) ?_
          refine lv_aload_n hx hb dX7_wholeBehind_20 rfl (lv_at hl 2 rfl) ?_
          refine after_I (wc := [(M, ob 7 [.ref nw, .ref dr, .ref pa, .int ypa, .ref im, .ref ke, .ref fl, .ref fq, .int yfa, .ref te, .int yty, .int yat, .int yst, .int yso, .int yva, .ref ni, .ref re, .int u1, .int u2, .int u3, .int u4, .ref ma, .ref be]), (nw, aI g 41 gn)]) (y := yX7_all) C S (va_runV (As := []) (rest := [.ref M]) C.1 (kX7_all l g M nw dr pa im ke fl fq te ni re ma be ypa yfa yty yat yst yso yva u1 u2 u3 u4 gn n (by first | assumption | omega) (by first | assumption | omega) H.size) (cwV 0 hts gX7_wholeBehind_X7_all rfl rfl rfl (by decide +kernel) ⟨Nat.le_of_ble_eq_true rfl, Nat.le_of_ble_eq_true rfl⟩) (preV_at C S 0 rfl rfl [0, 1] rfl (by decide)) rfl rfl hl.1 rfl (lv_room (Nat.le_of_ble_eq_true rfl)) dX7_wholeBehind_21 ⟨Nat.le_of_ble_eq_true rfl, Nat.le_of_ble_eq_true rfl⟩) [0, 1] [2, 3] rfl (wr := [(ni, aI g 8 n1), (re, aI g 8 r1)]) rfl (by decide) (by decide) (fun r0 w0 H locs hq S => ?_)
          obtain ⟨rfl, rfl⟩ := hq
          have S : ST g A ss H locs [(M, ob 7 [.ref nw, .ref dr, .ref pa, .int ypa, .ref im, .ref ke, .ref fl, .ref fq, .int yfa, .ref te, .int yty, .int yat, .int yst, .int yso, .int yva, .ref ni, .ref re, .int u1, .int u2, .int u3, .int u4, .ref ma, .ref be]), (nw, aI g 41 gn), (ni, aI g 8 n1), (re, aI g 8 r1)] := ST.sub S [2, 3, 0, 1] (by decide) rfl
          refine lv_iload_n hx hb dX7_wholeBehind_24 rfl (lv_at hl 1 rfl) ?_
          refine lv_iload_n hx hb dX7_wholeBehind_25 rfl (lv_at hl 3 rfl) ?_
          refine after_V (wc := [(M, ob 7 [.ref nw, .ref dr, .ref pa, .int ypa, .ref im, .ref ke, .ref fl, .ref fq, .int yfa, .ref te, .int yty, .int yat, .int yst, .int yso, .int yva, .ref ni, .ref re, .int u1, .int u2, .int u3, .int u4, .ref ma, .ref be]), (nw, aI g 41 gn), (ni, aI g 8 n1), (re, aI g 8 r1)]) (y := yX7_bends) C S (va_runV (As := [.int (nI (2 ^ n - 1)), .int (nI set), .int (nI p)]) (rest := []) C.1 (kX7_bends l g M nw dr pa im ke fl fq te ni re ma be ypa yfa yty yat yst yso yva u1 u2 u3 u4 gn n nu n1 r1 (R0 nu) (2 ^ n - 1) set p (by first | assumption | omega) (by first | assumption | omega) (by first | assumption | omega) (by first | assumption | omega) (by first | assumption | omega) (by omega) hset (fun j9 h9 _ => all_tb h9) (fun j9 h9 _ => RC_all hn h9) (by first | assumption | omega) (by omega) H.size) (cwV 3 hts gX7_wholeBehind_X7_bends rfl rfl rfl (by decide +kernel) ⟨Nat.le_of_ble_eq_true rfl, Nat.le_of_ble_eq_true rfl⟩) (preV_at C S 0 rfl rfl [0, 1, 2, 3] rfl (by decide)) rfl rfl hl.1 rfl (lv_room (Nat.le_of_ble_eq_true rfl)) dX7_wholeBehind_26 ⟨Nat.le_of_ble_eq_true rfl, Nat.le_of_ble_eq_true rfl⟩) [0, 1, 2, 3] [] rfl (wr := []) rfl (by decide) (by decide) (fun w0 H locs hq S => ?_)
          obtain ⟨nf1, ref1, hRe1, rfl⟩ := hq
          have S : ST g A ss H locs [(M, ob 7 [.ref nw, .ref dr, .ref pa, .int ypa, .ref im, .ref ke, .ref fl, .ref fq, .int yfa, .ref te, .int yty, .int yat, .int yst, .int yso, .int yva, .ref ni, .ref re, .int (nI (abN (nu 1) (R0 nu) set p n)), .int (nI (beN (nu 1) (R0 nu) set p n)), .int (bI (decide (0 < lowN (nu 1) (R0 nu) set p n))), .int (nI ((pr (nu 1) (R0 nu) set p n).1)), .ref ma, .ref be]), (nw, aI g 41 gn), (ni, aI g 8 nf1), (re, aI g 8 ref1)] := S
          rw [(ab_eq hpos).1, (ab_eq hpos).2] at S
          have S : ST g A ss H locs [(M, ob 7 [.ref nw, .ref dr, .ref pa, .int ypa, .ref im, .ref ke, .ref fl, .ref fq, .int yfa, .ref te, .int yty, .int yat, .int yst, .int yso, .int yva, .ref ni, .ref re, .int (nI (uppN (nu 1) (R0 nu) set p n)), .int (nI (lowN (nu 1) (R0 nu) set p n)), .int (bI (decide (0 < lowN (nu 1) (R0 nu) set p n))), .int (nI ((pr (nu 1) (R0 nu) set p n).1)), .ref ma, .ref be]), (nw, aI g 41 gn), (ni, aI g 8 nf1), (re, aI g 8 ref1)] := S
          have eU : uppN (nu 1) (R0 nu) set p n ≤ 20000 := upp_le hn (by omega) hSb hRb
          have eL : lowN (nu 1) (R0 nu) set p n ≤ 72 := low_le hn hSb hRb
          refine lv_aload_n hx hb dX7_wholeBehind_29 rfl (lv_at hl 2 rfl) ?_
          refine lv_iload_n hx hb dX7_wholeBehind_30 rfl (lv_at hl 1 rfl) ?_
          refine after_I (wc := [(M, ob 7 [.ref nw, .ref dr, .ref pa, .int ypa, .ref im, .ref ke, .ref fl, .ref fq, .int yfa, .ref te, .int yty, .int yat, .int yst, .int yso, .int yva, .ref ni, .ref re, .int (nI (uppN (nu 1) (R0 nu) set p n)), .int (nI (lowN (nu 1) (R0 nu) set p n)), .int (bI (decide (0 < lowN (nu 1) (R0 nu) set p n))), .int (nI ((pr (nu 1) (R0 nu) set p n).1)), .ref ma, .ref be]), (nw, aI g 41 gn), (re, aI g 8 ref1)]) (y := yX7_breaking) C S (va_runV (As := [.int (nI set)]) (rest := []) C.1 (kX7_breaking l g M nw dr pa im ke fl fq te ni re ma be ypa yfa yty yat yst yso yva (bI (decide (0 < lowN (nu 1) (R0 nu) set p n))) (nI ((pr (nu 1) (R0 nu) set p n).1)) gn n nu ref1 (uppN (nu 1) (R0 nu) set p n) (lowN (nu 1) (R0 nu) set p n) (R0 nu) set (by first | assumption | omega) (by first | assumption | omega) (by first | assumption | omega) eU eL (by omega) (fun j9 h9 _ => hRe1 j9 h9 (all_tb h9)) (by first | assumption | omega) (by first | assumption | omega) (by first | assumption | omega) H.size) (cwV 1 hts gX7_wholeBehind_X7_breaking rfl rfl rfl (by decide +kernel) ⟨Nat.le_of_ble_eq_true rfl, Nat.le_of_ble_eq_true rfl⟩) (preV_at C S 0 rfl rfl [0, 1, 3] rfl (by decide)) rfl rfl hl.1 rfl (lv_room (Nat.le_of_ble_eq_true rfl)) dX7_wholeBehind_31 ⟨Nat.le_of_ble_eq_true rfl, Nat.le_of_ble_eq_true rfl⟩) [0, 1, 3] [2] rfl (wr := [(ni, aI g 8 nf1)]) rfl (by decide) (by decide) (fun r0 w0 H locs hq S => ?_)
          obtain ⟨rfl, rfl⟩ := hq
          have S : ST g A ss H locs [(M, ob 7 [.ref nw, .ref dr, .ref pa, .int ypa, .ref im, .ref ke, .ref fl, .ref fq, .int yfa, .ref te, .int yty, .int yat, .int yst, .int yso, .int yva, .ref ni, .ref re, .int (nI (uppN (nu 1) (R0 nu) set p n)), .int (nI (lowN (nu 1) (R0 nu) set p n)), .int (bI (decide (0 < lowN (nu 1) (R0 nu) set p n))), .int (nI ((pr (nu 1) (R0 nu) set p n).1)), .ref ma, .ref be]), (nw, aI g 41 gn), (ni, aI g 8 nf1), (re, aI g 8 ref1)] := ST.sub S [1, 2, 0, 3] (by decide) rfl
          refine top_eq (y := o9 (fb (nu 1) (R0 nu) (nu 3) n p set)) (by unfold fb; rw [if_pos hpos]) ?_
          refine lv_istore (lv' := [(4, .int (o9 (fb (nu 1) (R0 nu) (nu 3) n p set))), (3, .int (bI mb)), (2, .int (nI set)), (0, .ref M), (1, .int (nI p))]) hx hb dX7_wholeBehind_34 hl (by decide) rfl (fun ls hl => ?_)
          cases hfb : fb (nu 1) (R0 nu) (nu 3) n p set with
          | none =>
            rw [hfb] at hl
            have hl : lv_has ls 5 [(4, .int (-9)), (3, .int (bI mb)), (2, .int (nI set)), (0, .ref M), (1, .int (nI p))] := hl
            refine lv_iload_n hx hb dX7_wholeBehind_36 rfl (lv_at hl 2 rfl) ?_
            refine lv_iload hx hb dX7_wholeBehind_37 (lv_at hl 0 rfl) ?_
            refine lv_bipush (v := (-9)) hx hb dX7_wholeBehind_39 (by decide) ?_
            refine lv_icmp_ne (tgt := 48) hx hb dX7_wholeBehind_41 (by decide) (fun c_3 => ?_) (fun c_3 => ?_)
            · -- 41 T
              exact absurd rfl c_3
            · -- 41 F
              refine lv_iconst (v := (-1)) hx hb dX7_wholeBehind_44 (by decide) ?_
              refine lv_goto (tgt := 54) hx hb dX7_wholeBehind_45 (by decide) ?_
              refine lv_iand hx hb dX7_wholeBehind_54 ?_
              refine top_eq (y := nI set) (and_neg1 s8) ?_
              refine lv_istore_n (lv' := [(2, .int (nI set)), (4, .int (-9)), (3, .int (bI mb)), (0, .ref M), (1, .int (nI p))]) hx hb dX7_wholeBehind_55 rfl hl (by decide) rfl (fun ls hl => ?_)
              refine lv_iload hx hb dX7_wholeBehind_56 (lv_at hl 1 rfl) ?_
              refine lv_bipush (v := (-9)) hx hb dX7_wholeBehind_58 (by decide) ?_
              refine lv_icmp_eq (tgt := 71) hx hb dX7_wholeBehind_60 (by decide) (fun c_4 => ?_) (fun c_4 => ?_)
              · -- 60 T
                refine lv_iconst (v := 0) hx hb dX7_wholeBehind_71 (by decide) ?_
                refine lv_istore_n (lv' := [(3, .int 0), (2, .int (nI set)), (4, .int (-9)), (0, .ref M), (1, .int (nI p))]) hx hb dX7_wholeBehind_72 rfl hl (by decide) rfl (fun ls hl => ?_)
                refine lv_goto (tgt := 15) hx hb dX7_wholeBehind_73 (by decide) ?_
                exact ih15 set false (nI (uppN (nu 1) (R0 nu) set p n)) (nI (lowN (nu 1) (R0 nu) set p n)) (bI (decide (0 < lowN (nu 1) (R0 nu) set p n))) (nI ((pr (nu 1) (R0 nu) set p n).1)) nf1 ref1 (by simp only [Bool.toNat_true, Bool.toNat_false]; rw [hmbt, Bool.toNat_true] at hN; omega) (hset) (fun q9 => by cases q9) (fun _ => Or.inr hfb) (hwa) H locs ls (ST.eq S (rfl)) (lv_sub hl [0, 1, 3, 4] (rfl))
              · -- 60 F
                exact absurd rfl c_4
          | some j =>
            rw [hfb] at hl
            have hl : lv_has ls 5 [(4, .int (nI j)), (3, .int (bI mb)), (2, .int (nI set)), (0, .ref M), (1, .int (nI p))] := hl
            have hjn := fb_lt hfb
            have hcl9 := clr_le set j
            refine lv_iload_n hx hb dX7_wholeBehind_36 rfl (lv_at hl 2 rfl) ?_
            refine lv_iload hx hb dX7_wholeBehind_37 (lv_at hl 0 rfl) ?_
            refine lv_bipush (v := (-9)) hx hb dX7_wholeBehind_39 (by decide) ?_
            refine lv_icmp_ne (tgt := 48) hx hb dX7_wholeBehind_41 (by decide) (fun c_5 => ?_) (fun c_5 => ?_)
            · -- 41 T
              refine lv_iconst (v := 1) hx hb dX7_wholeBehind_48 (by decide) ?_
              refine lv_iload hx hb dX7_wholeBehind_49 (lv_at hl 0 rfl) ?_
              refine lv_ishl hx hb dX7_wholeBehind_51 ?_
              refine top_eq (y := nI (2 ^ j)) (shl_1 (by omega)) ?_
              refine lv_iconst (v := (-1)) hx hb dX7_wholeBehind_52 (by decide) ?_
              refine lv_ixor hx hb dX7_wholeBehind_53 ?_
              refine lv_iand hx hb dX7_wholeBehind_54 ?_
              refine top_eq (y := nI (clr set j)) (clr_N s8 (by omega)) ?_
              refine lv_istore_n (lv' := [(2, .int (nI (clr set j))), (4, .int (nI j)), (3, .int (bI mb)), (0, .ref M), (1, .int (nI p))]) hx hb dX7_wholeBehind_55 rfl hl (by decide) rfl (fun ls hl => ?_)
              refine lv_iload hx hb dX7_wholeBehind_56 (lv_at hl 1 rfl) ?_
              refine lv_bipush (v := (-9)) hx hb dX7_wholeBehind_58 (by decide) ?_
              refine lv_icmp_eq (tgt := 71) hx hb dX7_wholeBehind_60 (by decide) (fun c_6 => ?_) (fun c_6 => ?_)
              · -- 60 T
                exact absurd c_6 (nI_n9 (by omega))
              · -- 60 F
                refine lv_iload_n hx hb dX7_wholeBehind_63 rfl (lv_at hl 0 rfl) ?_
                refine bn_zeq (tgt := 71) (a := clr set j) hx hb rfl (by omega) dX7_wholeBehind_64 (by decide) (fun c_7 => ?_) (fun c_7 => ?_)
                · -- 64 T
                  refine lv_iconst (v := 0) hx hb dX7_wholeBehind_71 (by decide) ?_
                  refine lv_istore_n (lv' := [(3, .int 0), (2, .int (nI (clr set j))), (4, .int (nI j)), (0, .ref M), (1, .int (nI p))]) hx hb dX7_wholeBehind_72 rfl hl (by decide) rfl (fun ls hl => ?_)
                  refine lv_goto (tgt := 15) hx hb dX7_wholeBehind_73 (by decide) ?_
                  exact ih15 (clr set j) false (nI (uppN (nu 1) (R0 nu) set p n)) (nI (lowN (nu 1) (R0 nu) set p n)) (bI (decide (0 < lowN (nu 1) (R0 nu) set p n))) (nI ((pr (nu 1) (R0 nu) set p n).1)) nf1 ref1 (by have hcw := clr_ltW_d j (by omega) set s8 (fb_bit hfb); simp only [Bool.toNat_true, Bool.toNat_false]; rw [hmbt, Bool.toNat_true] at hN; omega) (Nat.lt_of_le_of_lt (clr_le _ _) hset) (fun q9 => by cases q9) (fun _ => Or.inl c_7) (by rw [wa_fix (fb_F hn) s8 hfb]; exact hwa) H locs ls (ST.eq S (rfl)) (lv_sub hl [0, 1, 3, 4] (rfl))
                · -- 64 F
                  refine lv_iconst (v := 1) hx hb dX7_wholeBehind_67 (by decide) ?_
                  refine lv_goto (tgt := 72) hx hb dX7_wholeBehind_68 (by decide) ?_
                  refine lv_istore_n (lv' := [(3, .int 1), (2, .int (nI (clr set j))), (4, .int (nI j)), (0, .ref M), (1, .int (nI p))]) hx hb dX7_wholeBehind_72 rfl hl (by decide) rfl (fun ls hl => ?_)
                  refine lv_goto (tgt := 15) hx hb dX7_wholeBehind_73 (by decide) ?_
                  exact ih15 (clr set j) true (nI (uppN (nu 1) (R0 nu) set p n)) (nI (lowN (nu 1) (R0 nu) set p n)) (bI (decide (0 < lowN (nu 1) (R0 nu) set p n))) (nI ((pr (nu 1) (R0 nu) set p n).1)) nf1 ref1 (by have hcw := clr_ltW_d j (by omega) set s8 (fb_bit hfb); simp only [Bool.toNat_true, Bool.toNat_false]; rw [hmbt, Bool.toNat_true] at hN; omega) (Nat.lt_of_le_of_lt (clr_le _ _) hset) (fun _ => c_7) (fun q9 => by cases q9) (by rw [wa_fix (fb_F hn) s8 hfb]; exact hwa) H locs ls (ST.eq S (rfl)) (lv_sub hl [0, 1, 3, 4] (rfl))
            · -- 41 F
              exact absurd c_5 (nI_n9 (by omega))
    exact loop15 _ ww false yab ybl yis yra nf ref (Nat.lt_succ_self _) (by first | assumption | omega) (fun q9 => by cases q9) (fun _ => Or.inl c_1) (rfl) H locs ls (ST.eq S (rfl)) (lv_sub hl [0, 1, 2, 3] (rfl))
  · -- 6 F
    refine lv_iconst (v := 1) hx hb dX7_wholeBehind_9 (by decide) ?_
    refine lv_goto (tgt := 14) hx hb dX7_wholeBehind_10 (by decide) ?_
    refine lv_istore_n (lv' := [(3, .int 1), (2, .int (nI ww)), (0, .ref M), (1, .int (nI p))]) hx hb dX7_wholeBehind_14 rfl hl (by decide) rfl (fun ls hl => ?_)
    have loop15 : ∀ (N0 : Nat) (set : Nat) (mb : Bool) (u1 : Int32) (u2 : Int32) (u3 : Int32) (u4 : Int32) (n1 : Nat → Int32) (r1 : Nat → Int32), 2 * set + mb.toNat < N0 → (set < 2 ^ n) → (mb = true → set ≠ 0) → (mb = false → (set = 0 ∨ fb (nu 1) (R0 nu) (nu 3) n p set = none)) → (wa (fb (nu 1) (R0 nu) (nu 3) n p) 8 set = wa (fb (nu 1) (R0 nu) (nu 3) n p) 8 ww) → ∀ (H : Heap) (locs : List Loc) (ls : Array Slot), ST g A ss H locs [(M, ob 7 [.ref nw, .ref dr, .ref pa, .int ypa, .ref im, .ref ke, .ref fl, .ref fq, .int yfa, .ref te, .int yty, .int yat, .int yst, .int yso, .int yva, .ref ni, .ref re, .int u1, .int u2, .int u3, .int u4, .ref ma, .ref be]), (nw, aI g 41 gn), (ni, aI g 8 n1), (re, aI g 8 r1)] → lv_has ls 5 [(3, .int (bI mb)), (2, .int (nI set)), (0, .ref M), (1, .int (nI p))] → W pp l ee { frames := 4, cells := 0, slots := 0, locals := 91 } ss mm ([.ref M, .int (nI p)] : List Value).toArray bel mth cd H locs 0 0 (QI bel ([.ref M, .int (nI p)] : List Value).toArray ss g A (fun (r : Int32) (w' : va_W) => r = (nI (wa (fb (nu 1) (R0 nu) (nu 3) n p) 8 ww)) ∧ ∃ (ab' : Int32), ∃ (bl' : Int32), ∃ (is' : Int32), ∃ (ra' : Int32), ∃ (nf' : Nat → Int32), ∃ (ref' : Nat → Int32), w' = [(M, ob 7 [.ref nw, .ref dr, .ref pa, .int ypa, .ref im, .ref ke, .ref fl, .ref fq, .int yfa, .ref te, .int yty, .int yat, .int yst, .int yso, .int yva, .ref ni, .ref re, .int ab', .int bl', .int is', .int ra', .ref ma, .ref be]), (nw, aI g 41 gn), (ni, aI g 8 nf'), (re, aI g 8 ref')])) (F0 mm 15 ls []) := by
      intro N0
      induction N0 with
      | zero => intro set mb u1 u2 u3 u4 n1 r1 hN; exact absurd hN (Nat.not_lt_zero _)
      | succ N0 ih15 =>
        intro set mb u1 u2 u3 u4 n1 r1 hN hset hmb hmf hwa H locs ls S hl
        refine lv_iload_n hx hb dX7_wholeBehind_15 rfl (lv_at hl 0 rfl) ?_
        refine br_eqB (tgt := 76) hx hb dX7_wholeBehind_16 (by decide) (fun c_8 => ?_) (fun c_8 => ?_)
        · -- 16 T
          have hfin : wa (fb (nu 1) (R0 nu) (nu 3) n p) 8 set = set := by rcases hmf c_8 with z9 | z9; (rw [z9]; exact wa_0 (fb_F hn)); exact wa_none z9
          refine lv_iload_n hx hb dX7_wholeBehind_76 rfl (lv_at hl 1 rfl) ?_
          exact ret_I C S hr dX7_wholeBehind_77 ⟨(by rw [← hwa, hfin]), u1, u2, u3, u4, n1, r1, (rfl)⟩
        · -- 16 F
          have hmbt := c_8
          have hs0 := hmb c_8
          have hpos : 0 < lowN (nu 1) (R0 nu) set p n := (bent (fun i9 h9 => (hst i9 h9).1) hset).mpr (Or.inr hs0)
          have s8 : set < 256 := wlt hn hset
          refine lv_aload_n hx hb dX7_wholeBehind_19 rfl (lv_at hl 2 rfl) ?_
          refine lv_aload_n hx hb dX7_wholeBehind_20 rfl (lv_at hl 2 rfl) ?_
          refine after_I (wc := [(M, ob 7 [.ref nw, .ref dr, .ref pa, .int ypa, .ref im, .ref ke, .ref fl, .ref fq, .int yfa, .ref te, .int yty, .int yat, .int yst, .int yso, .int yva, .ref ni, .ref re, .int u1, .int u2, .int u3, .int u4, .ref ma, .ref be]), (nw, aI g 41 gn)]) (y := yX7_all) C S (va_runV (As := []) (rest := [.ref M]) C.1 (kX7_all l g M nw dr pa im ke fl fq te ni re ma be ypa yfa yty yat yst yso yva u1 u2 u3 u4 gn n (by first | assumption | omega) (by first | assumption | omega) H.size) (cwV 0 hts gX7_wholeBehind_X7_all rfl rfl rfl (by decide +kernel) ⟨Nat.le_of_ble_eq_true rfl, Nat.le_of_ble_eq_true rfl⟩) (preV_at C S 0 rfl rfl [0, 1] rfl (by decide)) rfl rfl hl.1 rfl (lv_room (Nat.le_of_ble_eq_true rfl)) dX7_wholeBehind_21 ⟨Nat.le_of_ble_eq_true rfl, Nat.le_of_ble_eq_true rfl⟩) [0, 1] [2, 3] rfl (wr := [(ni, aI g 8 n1), (re, aI g 8 r1)]) rfl (by decide) (by decide) (fun r0 w0 H locs hq S => ?_)
          obtain ⟨rfl, rfl⟩ := hq
          have S : ST g A ss H locs [(M, ob 7 [.ref nw, .ref dr, .ref pa, .int ypa, .ref im, .ref ke, .ref fl, .ref fq, .int yfa, .ref te, .int yty, .int yat, .int yst, .int yso, .int yva, .ref ni, .ref re, .int u1, .int u2, .int u3, .int u4, .ref ma, .ref be]), (nw, aI g 41 gn), (ni, aI g 8 n1), (re, aI g 8 r1)] := ST.sub S [2, 3, 0, 1] (by decide) rfl
          refine lv_iload_n hx hb dX7_wholeBehind_24 rfl (lv_at hl 1 rfl) ?_
          refine lv_iload_n hx hb dX7_wholeBehind_25 rfl (lv_at hl 3 rfl) ?_
          refine after_V (wc := [(M, ob 7 [.ref nw, .ref dr, .ref pa, .int ypa, .ref im, .ref ke, .ref fl, .ref fq, .int yfa, .ref te, .int yty, .int yat, .int yst, .int yso, .int yva, .ref ni, .ref re, .int u1, .int u2, .int u3, .int u4, .ref ma, .ref be]), (nw, aI g 41 gn), (ni, aI g 8 n1), (re, aI g 8 r1)]) (y := yX7_bends) C S (va_runV (As := [.int (nI (2 ^ n - 1)), .int (nI set), .int (nI p)]) (rest := []) C.1 (kX7_bends l g M nw dr pa im ke fl fq te ni re ma be ypa yfa yty yat yst yso yva u1 u2 u3 u4 gn n nu n1 r1 (R0 nu) (2 ^ n - 1) set p (by first | assumption | omega) (by first | assumption | omega) (by first | assumption | omega) (by first | assumption | omega) (by first | assumption | omega) (by omega) hset (fun j9 h9 _ => all_tb h9) (fun j9 h9 _ => RC_all hn h9) (by first | assumption | omega) (by omega) H.size) (cwV 3 hts gX7_wholeBehind_X7_bends rfl rfl rfl (by decide +kernel) ⟨Nat.le_of_ble_eq_true rfl, Nat.le_of_ble_eq_true rfl⟩) (preV_at C S 0 rfl rfl [0, 1, 2, 3] rfl (by decide)) rfl rfl hl.1 rfl (lv_room (Nat.le_of_ble_eq_true rfl)) dX7_wholeBehind_26 ⟨Nat.le_of_ble_eq_true rfl, Nat.le_of_ble_eq_true rfl⟩) [0, 1, 2, 3] [] rfl (wr := []) rfl (by decide) (by decide) (fun w0 H locs hq S => ?_)
          obtain ⟨nf1, ref1, hRe1, rfl⟩ := hq
          have S : ST g A ss H locs [(M, ob 7 [.ref nw, .ref dr, .ref pa, .int ypa, .ref im, .ref ke, .ref fl, .ref fq, .int yfa, .ref te, .int yty, .int yat, .int yst, .int yso, .int yva, .ref ni, .ref re, .int (nI (abN (nu 1) (R0 nu) set p n)), .int (nI (beN (nu 1) (R0 nu) set p n)), .int (bI (decide (0 < lowN (nu 1) (R0 nu) set p n))), .int (nI ((pr (nu 1) (R0 nu) set p n).1)), .ref ma, .ref be]), (nw, aI g 41 gn), (ni, aI g 8 nf1), (re, aI g 8 ref1)] := S
          rw [(ab_eq hpos).1, (ab_eq hpos).2] at S
          have S : ST g A ss H locs [(M, ob 7 [.ref nw, .ref dr, .ref pa, .int ypa, .ref im, .ref ke, .ref fl, .ref fq, .int yfa, .ref te, .int yty, .int yat, .int yst, .int yso, .int yva, .ref ni, .ref re, .int (nI (uppN (nu 1) (R0 nu) set p n)), .int (nI (lowN (nu 1) (R0 nu) set p n)), .int (bI (decide (0 < lowN (nu 1) (R0 nu) set p n))), .int (nI ((pr (nu 1) (R0 nu) set p n).1)), .ref ma, .ref be]), (nw, aI g 41 gn), (ni, aI g 8 nf1), (re, aI g 8 ref1)] := S
          have eU : uppN (nu 1) (R0 nu) set p n ≤ 20000 := upp_le hn (by omega) hSb hRb
          have eL : lowN (nu 1) (R0 nu) set p n ≤ 72 := low_le hn hSb hRb
          refine lv_aload_n hx hb dX7_wholeBehind_29 rfl (lv_at hl 2 rfl) ?_
          refine lv_iload_n hx hb dX7_wholeBehind_30 rfl (lv_at hl 1 rfl) ?_
          refine after_I (wc := [(M, ob 7 [.ref nw, .ref dr, .ref pa, .int ypa, .ref im, .ref ke, .ref fl, .ref fq, .int yfa, .ref te, .int yty, .int yat, .int yst, .int yso, .int yva, .ref ni, .ref re, .int (nI (uppN (nu 1) (R0 nu) set p n)), .int (nI (lowN (nu 1) (R0 nu) set p n)), .int (bI (decide (0 < lowN (nu 1) (R0 nu) set p n))), .int (nI ((pr (nu 1) (R0 nu) set p n).1)), .ref ma, .ref be]), (nw, aI g 41 gn), (re, aI g 8 ref1)]) (y := yX7_breaking) C S (va_runV (As := [.int (nI set)]) (rest := []) C.1 (kX7_breaking l g M nw dr pa im ke fl fq te ni re ma be ypa yfa yty yat yst yso yva (bI (decide (0 < lowN (nu 1) (R0 nu) set p n))) (nI ((pr (nu 1) (R0 nu) set p n).1)) gn n nu ref1 (uppN (nu 1) (R0 nu) set p n) (lowN (nu 1) (R0 nu) set p n) (R0 nu) set (by first | assumption | omega) (by first | assumption | omega) (by first | assumption | omega) eU eL (by omega) (fun j9 h9 _ => hRe1 j9 h9 (all_tb h9)) (by first | assumption | omega) (by first | assumption | omega) (by first | assumption | omega) H.size) (cwV 1 hts gX7_wholeBehind_X7_breaking rfl rfl rfl (by decide +kernel) ⟨Nat.le_of_ble_eq_true rfl, Nat.le_of_ble_eq_true rfl⟩) (preV_at C S 0 rfl rfl [0, 1, 3] rfl (by decide)) rfl rfl hl.1 rfl (lv_room (Nat.le_of_ble_eq_true rfl)) dX7_wholeBehind_31 ⟨Nat.le_of_ble_eq_true rfl, Nat.le_of_ble_eq_true rfl⟩) [0, 1, 3] [2] rfl (wr := [(ni, aI g 8 nf1)]) rfl (by decide) (by decide) (fun r0 w0 H locs hq S => ?_)
          obtain ⟨rfl, rfl⟩ := hq
          have S : ST g A ss H locs [(M, ob 7 [.ref nw, .ref dr, .ref pa, .int ypa, .ref im, .ref ke, .ref fl, .ref fq, .int yfa, .ref te, .int yty, .int yat, .int yst, .int yso, .int yva, .ref ni, .ref re, .int (nI (uppN (nu 1) (R0 nu) set p n)), .int (nI (lowN (nu 1) (R0 nu) set p n)), .int (bI (decide (0 < lowN (nu 1) (R0 nu) set p n))), .int (nI ((pr (nu 1) (R0 nu) set p n).1)), .ref ma, .ref be]), (nw, aI g 41 gn), (ni, aI g 8 nf1), (re, aI g 8 ref1)] := ST.sub S [1, 2, 0, 3] (by decide) rfl
          refine top_eq (y := o9 (fb (nu 1) (R0 nu) (nu 3) n p set)) (by unfold fb; rw [if_pos hpos]) ?_
          refine lv_istore (lv' := [(4, .int (o9 (fb (nu 1) (R0 nu) (nu 3) n p set))), (3, .int (bI mb)), (2, .int (nI set)), (0, .ref M), (1, .int (nI p))]) hx hb dX7_wholeBehind_34 hl (by decide) rfl (fun ls hl => ?_)
          cases hfb : fb (nu 1) (R0 nu) (nu 3) n p set with
          | none =>
            rw [hfb] at hl
            have hl : lv_has ls 5 [(4, .int (-9)), (3, .int (bI mb)), (2, .int (nI set)), (0, .ref M), (1, .int (nI p))] := hl
            refine lv_iload_n hx hb dX7_wholeBehind_36 rfl (lv_at hl 2 rfl) ?_
            refine lv_iload hx hb dX7_wholeBehind_37 (lv_at hl 0 rfl) ?_
            refine lv_bipush (v := (-9)) hx hb dX7_wholeBehind_39 (by decide) ?_
            refine lv_icmp_ne (tgt := 48) hx hb dX7_wholeBehind_41 (by decide) (fun c_9 => ?_) (fun c_9 => ?_)
            · -- 41 T
              exact absurd rfl c_9
            · -- 41 F
              refine lv_iconst (v := (-1)) hx hb dX7_wholeBehind_44 (by decide) ?_
              refine lv_goto (tgt := 54) hx hb dX7_wholeBehind_45 (by decide) ?_
              refine lv_iand hx hb dX7_wholeBehind_54 ?_
              refine top_eq (y := nI set) (and_neg1 s8) ?_
              refine lv_istore_n (lv' := [(2, .int (nI set)), (4, .int (-9)), (3, .int (bI mb)), (0, .ref M), (1, .int (nI p))]) hx hb dX7_wholeBehind_55 rfl hl (by decide) rfl (fun ls hl => ?_)
              refine lv_iload hx hb dX7_wholeBehind_56 (lv_at hl 1 rfl) ?_
              refine lv_bipush (v := (-9)) hx hb dX7_wholeBehind_58 (by decide) ?_
              refine lv_icmp_eq (tgt := 71) hx hb dX7_wholeBehind_60 (by decide) (fun c_10 => ?_) (fun c_10 => ?_)
              · -- 60 T
                refine lv_iconst (v := 0) hx hb dX7_wholeBehind_71 (by decide) ?_
                refine lv_istore_n (lv' := [(3, .int 0), (2, .int (nI set)), (4, .int (-9)), (0, .ref M), (1, .int (nI p))]) hx hb dX7_wholeBehind_72 rfl hl (by decide) rfl (fun ls hl => ?_)
                refine lv_goto (tgt := 15) hx hb dX7_wholeBehind_73 (by decide) ?_
                exact ih15 set false (nI (uppN (nu 1) (R0 nu) set p n)) (nI (lowN (nu 1) (R0 nu) set p n)) (bI (decide (0 < lowN (nu 1) (R0 nu) set p n))) (nI ((pr (nu 1) (R0 nu) set p n).1)) nf1 ref1 (by simp only [Bool.toNat_true, Bool.toNat_false]; rw [hmbt, Bool.toNat_true] at hN; omega) (hset) (fun q9 => by cases q9) (fun _ => Or.inr hfb) (hwa) H locs ls (ST.eq S (rfl)) (lv_sub hl [0, 1, 3, 4] (rfl))
              · -- 60 F
                exact absurd rfl c_10
          | some j =>
            rw [hfb] at hl
            have hl : lv_has ls 5 [(4, .int (nI j)), (3, .int (bI mb)), (2, .int (nI set)), (0, .ref M), (1, .int (nI p))] := hl
            have hjn := fb_lt hfb
            have hcl9 := clr_le set j
            refine lv_iload_n hx hb dX7_wholeBehind_36 rfl (lv_at hl 2 rfl) ?_
            refine lv_iload hx hb dX7_wholeBehind_37 (lv_at hl 0 rfl) ?_
            refine lv_bipush (v := (-9)) hx hb dX7_wholeBehind_39 (by decide) ?_
            refine lv_icmp_ne (tgt := 48) hx hb dX7_wholeBehind_41 (by decide) (fun c_11 => ?_) (fun c_11 => ?_)
            · -- 41 T
              refine lv_iconst (v := 1) hx hb dX7_wholeBehind_48 (by decide) ?_
              refine lv_iload hx hb dX7_wholeBehind_49 (lv_at hl 0 rfl) ?_
              refine lv_ishl hx hb dX7_wholeBehind_51 ?_
              refine top_eq (y := nI (2 ^ j)) (shl_1 (by omega)) ?_
              refine lv_iconst (v := (-1)) hx hb dX7_wholeBehind_52 (by decide) ?_
              refine lv_ixor hx hb dX7_wholeBehind_53 ?_
              refine lv_iand hx hb dX7_wholeBehind_54 ?_
              refine top_eq (y := nI (clr set j)) (clr_N s8 (by omega)) ?_
              refine lv_istore_n (lv' := [(2, .int (nI (clr set j))), (4, .int (nI j)), (3, .int (bI mb)), (0, .ref M), (1, .int (nI p))]) hx hb dX7_wholeBehind_55 rfl hl (by decide) rfl (fun ls hl => ?_)
              refine lv_iload hx hb dX7_wholeBehind_56 (lv_at hl 1 rfl) ?_
              refine lv_bipush (v := (-9)) hx hb dX7_wholeBehind_58 (by decide) ?_
              refine lv_icmp_eq (tgt := 71) hx hb dX7_wholeBehind_60 (by decide) (fun c_12 => ?_) (fun c_12 => ?_)
              · -- 60 T
                exact absurd c_12 (nI_n9 (by omega))
              · -- 60 F
                refine lv_iload_n hx hb dX7_wholeBehind_63 rfl (lv_at hl 0 rfl) ?_
                refine bn_zeq (tgt := 71) (a := clr set j) hx hb rfl (by omega) dX7_wholeBehind_64 (by decide) (fun c_13 => ?_) (fun c_13 => ?_)
                · -- 64 T
                  refine lv_iconst (v := 0) hx hb dX7_wholeBehind_71 (by decide) ?_
                  refine lv_istore_n (lv' := [(3, .int 0), (2, .int (nI (clr set j))), (4, .int (nI j)), (0, .ref M), (1, .int (nI p))]) hx hb dX7_wholeBehind_72 rfl hl (by decide) rfl (fun ls hl => ?_)
                  refine lv_goto (tgt := 15) hx hb dX7_wholeBehind_73 (by decide) ?_
                  exact ih15 (clr set j) false (nI (uppN (nu 1) (R0 nu) set p n)) (nI (lowN (nu 1) (R0 nu) set p n)) (bI (decide (0 < lowN (nu 1) (R0 nu) set p n))) (nI ((pr (nu 1) (R0 nu) set p n).1)) nf1 ref1 (by have hcw := clr_ltW_d j (by omega) set s8 (fb_bit hfb); simp only [Bool.toNat_true, Bool.toNat_false]; rw [hmbt, Bool.toNat_true] at hN; omega) (Nat.lt_of_le_of_lt (clr_le _ _) hset) (fun q9 => by cases q9) (fun _ => Or.inl c_13) (by rw [wa_fix (fb_F hn) s8 hfb]; exact hwa) H locs ls (ST.eq S (rfl)) (lv_sub hl [0, 1, 3, 4] (rfl))
                · -- 64 F
                  refine lv_iconst (v := 1) hx hb dX7_wholeBehind_67 (by decide) ?_
                  refine lv_goto (tgt := 72) hx hb dX7_wholeBehind_68 (by decide) ?_
                  refine lv_istore_n (lv' := [(3, .int 1), (2, .int (nI (clr set j))), (4, .int (nI j)), (0, .ref M), (1, .int (nI p))]) hx hb dX7_wholeBehind_72 rfl hl (by decide) rfl (fun ls hl => ?_)
                  refine lv_goto (tgt := 15) hx hb dX7_wholeBehind_73 (by decide) ?_
                  exact ih15 (clr set j) true (nI (uppN (nu 1) (R0 nu) set p n)) (nI (lowN (nu 1) (R0 nu) set p n)) (bI (decide (0 < lowN (nu 1) (R0 nu) set p n))) (nI ((pr (nu 1) (R0 nu) set p n).1)) nf1 ref1 (by have hcw := clr_ltW_d j (by omega) set s8 (fb_bit hfb); simp only [Bool.toNat_true, Bool.toNat_false]; rw [hmbt, Bool.toNat_true] at hN; omega) (Nat.lt_of_le_of_lt (clr_le _ _) hset) (fun _ => c_13) (fun q9 => by cases q9) (by rw [wa_fix (fb_F hn) s8 hfb]; exact hwa) H locs ls (ST.eq S (rfl)) (lv_sub hl [0, 1, 3, 4] (rfl))
            · -- 41 F
              exact absurd c_11 (nI_n9 (by omega))
    exact loop15 _ ww true yab ybl yis yra nf ref (Nat.lt_succ_self _) (by first | assumption | omega) (fun _ => c_1) (fun q9 => by cases q9) (rfl) H locs ls (ST.eq S (rfl)) (lv_sub hl [0, 1, 2, 3] (rfl))
