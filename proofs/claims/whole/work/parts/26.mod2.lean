theorem inX7_reaches_X7 : ∀ w ∈ wsX70, w ∈ wsX7_reaches := by decide +kernel
set_option maxRecDepth 100000 in
set_option maxHeartbeats 4000000 in
theorem kX7_reaches (l : Launch) (g : GG) (M : Nat) (nw : Nat) (dr : Nat) (pa : Nat) (im : Nat) (ke : Nat) (fl : Nat) (fq : Nat) (te : Nat) (ni : Nat) (re : Nat) (ma : Nat) (be : Nat) (ypa : Int32) (yfa : Int32) (yty : Int32) (yat : Int32) (yst : Int32) (yso : Int32) (yva : Int32) (yab : Int32) (ybl : Int32) (yis : Int32) (yra : Int32) (gn : Nat → Int32) (n : Nat) (nu : Nat → Nat → Nat) (nf : Nat → Int32) (ref : Nat → Int32) (pk : Nat) (hn : n ≤ 8) (hg0 : gn 0 = nI n) (hgn : ∀ a i, a < 4 → i < n → gn (5 * i + (a + 1)) = nI (nu a i)) (hpk : pk < 512) (hca : ∀ i, i < n → nu 2 i ≤ 30) : KV l g yX7_reaches wsX7_reaches 1 22 [.ref M, .int (nI pk)] [(M, ob 7 [.ref nw, .ref dr, .ref pa, .int ypa, .ref im, .ref ke, .ref fl, .ref fq, .int yfa, .ref te, .int yty, .int yat, .int yst, .int yso, .int yva, .ref ni, .ref re, .int yab, .int ybl, .int yis, .int yra, .ref ma, .ref be]), (nw, aI g 41 gn), (ni, aI g 8 nf), (re, aI g 8 ref)] (fun (w' : va_W) => ∃ (nf' : Nat → Int32), ∃ (ref' : Nat → Int32), (∀ j, j < n → pk.testBit j = true → ref' j = nI (RC (nu 2) pk j)) ∧ (∀ j, j < n → pk.testBit j = true → nf' j = nI (nipN (nu 2) (rs (nu 2) pk j).1 j)) ∧ w' = [(M, ob 7 [.ref nw, .ref dr, .ref pa, .int ypa, .ref im, .ref ke, .ref fl, .ref fq, .int yfa, .ref te, .int yty, .int yat, .int yst, .int yso, .int yva, .ref ni, .ref re, .int yab, .int ybl, .int yis, .int yra, .ref ma, .ref be]), (nw, aI g 41 gn), (ni, aI g 8 nf'), (re, aI g 8 ref')]) := by
  refine kV_of (cc := cX7_reaches) (maxL := 6) (by decide) rfl (Nat.le_of_ble_eq_true rfl) ?_
  intro pp ee ss mm bel mth cd A ls C S hr hl
  obtain ⟨hx, hb, hml, hown, hts⟩ := id C.1
  have hl : lv_has ls 6 [(0, .ref M), (1, .int (nI pk))] := hl
  obtain ⟨H, hH⟩ : ∃ H, H = ss.heap := ⟨_, rfl⟩
  obtain ⟨locs, hL0⟩ : ∃ L : List Loc, L = [] := ⟨_, rfl⟩
  rw [← hH, ← hL0] at S ⊢
  refine lv_bipush (v := (-9)) hx hb dX7_reaches_0 (by decide) ?_
  refine lv_istore_n (lv' := [(2, .int (-9)), (0, .ref M), (1, .int (nI pk))]) hx hb dX7_reaches_2 rfl hl (by decide) rfl (fun ls hl => ?_)
  refine lv_iconst (v := 0) hx hb dX7_reaches_3 (by decide) ?_
  refine lv_istore_n (lv' := [(3, .int 0), (2, .int (-9)), (0, .ref M), (1, .int (nI pk))]) hx hb dX7_reaches_4 rfl hl (by decide) rfl (fun ls hl => ?_)
  refine lv_iconst (v := 0) hx hb dX7_reaches_5 (by decide) ?_
  refine lv_istore (lv' := [(4, .int 0), (3, .int 0), (2, .int (-9)), (0, .ref M), (1, .int (nI pk))]) hx hb dX7_reaches_6 hl (by decide) rfl (fun ls hl => ?_)
  have loop8 : ∀ (N0 : Nat) (i : Nat) (x : Nat) (o : Option Nat) (n1 : Nat → Int32) (r1 : Nat → Int32), n - i < N0 → (i ≤ n) → (rs (nu 2) pk i = (o, x)) → (∀ j, j < i → pk.testBit j = true → r1 j = nI (RC (nu 2) pk j)) → (∀ j, j < i → pk.testBit j = true → n1 j = nI (nipN (nu 2) (rs (nu 2) pk j).1 j)) → ∀ (H : Heap) (locs : List Loc) (ls : Array Slot), ST g A ss H locs [(M, ob 7 [.ref nw, .ref dr, .ref pa, .int ypa, .ref im, .ref ke, .ref fl, .ref fq, .int yfa, .ref te, .int yty, .int yat, .int yst, .int yso, .int yva, .ref ni, .ref re, .int yab, .int ybl, .int yis, .int yra, .ref ma, .ref be]), (nw, aI g 41 gn), (ni, aI g 8 n1), (re, aI g 8 r1)] → lv_has ls 6 [(4, .int (nI i)), (3, .int (nI x)), (2, .int (o9 o)), (0, .ref M), (1, .int (nI pk))] → W pp l ee { frames := 1, cells := 0, slots := 0, locals := 22 } ss mm ([.ref M, .int (nI pk)] : List Value).toArray bel mth cd H locs 0 0 (QV bel ([.ref M, .int (nI pk)] : List Value).toArray ss g A (fun (w' : va_W) => ∃ (nf' : Nat → Int32), ∃ (ref' : Nat → Int32), (∀ j, j < n → pk.testBit j = true → ref' j = nI (RC (nu 2) pk j)) ∧ (∀ j, j < n → pk.testBit j = true → nf' j = nI (nipN (nu 2) (rs (nu 2) pk j).1 j)) ∧ w' = [(M, ob 7 [.ref nw, .ref dr, .ref pa, .int ypa, .ref im, .ref ke, .ref fl, .ref fq, .int yfa, .ref te, .int yty, .int yat, .int yst, .int yso, .int yva, .ref ni, .ref re, .int yab, .int ybl, .int yis, .int yra, .ref ma, .ref be]), (nw, aI g 41 gn), (ni, aI g 8 nf'), (re, aI g 8 ref')])) (F0 mm 8 ls []) := by
    intro N0
    induction N0 with
    | zero => intro i x o n1 r1 hN; exact absurd hN (Nat.not_lt_zero _)
    | succ N0 ih8 =>
      intro i x o n1 r1 hN hi ho hR0 hN0 H locs ls S hl
      refine lv_iload hx hb dX7_reaches_8 (lv_at hl 0 rfl) ?_
      refine lv_aload_n hx hb dX7_reaches_10 rfl (lv_at hl 3 rfl) ?_
      refine top_get C S inX7_reaches_X7 rfl 0 rfl 0 (by decide) (by decide +kernel) rfl rfl dX7_reaches_11 ?_
      refine lv_iconst (v := 0) hx hb dX7_reaches_14 (by decide) ?_
      refine top_ild C S 1 rfl (j := 0) rfl (by omega) (by decide) dX7_reaches_15 ?_
      refine top_eq (y := nI n) hg0 ?_
      refine bn_ige (tgt := 107) (a := i) (b := n) hx hb rfl rfl (by omega) (by omega) dX7_reaches_16 (by decide) (fun c_1 => ?_) (fun c_1 => ?_)
      · -- 16 T
        exact ret_V C S hr dX7_reaches_107 ⟨n1, r1, (fun j hj hb9 => hR0 j (by omega) hb9), (fun j hj hb9 => hN0 j (by omega) hb9), (rfl)⟩
      · -- 16 F
        refine lv_iload_n hx hb dX7_reaches_19 rfl (lv_at hl 4 rfl) ?_
        refine lv_iload hx hb dX7_reaches_20 (lv_at hl 0 rfl) ?_
        refine after_I (wc := []) (y := yX7_has) C S (va_runS (As := [.int (nI pk), .int (nI i)]) (rest := []) C.1 (kX7_has l g pk i (by first | assumption | omega) (by first | assumption | omega) H.size) (va_cwS 2 hts gX7_reaches_X7_has rfl rfl rfl (by decide +kernel) ⟨Nat.le_of_ble_eq_true rfl, Nat.le_of_ble_eq_true rfl⟩) (preS_at C S [] rfl (by decide)) rfl rfl hl.1 rfl (lv_room (Nat.le_of_ble_eq_true rfl)) dX7_reaches_22 ⟨Nat.le_of_ble_eq_true rfl, Nat.le_of_ble_eq_true rfl⟩) [] [0, 1, 2, 3] rfl (wr := [(M, ob 7 [.ref nw, .ref dr, .ref pa, .int ypa, .ref im, .ref ke, .ref fl, .ref fq, .int yfa, .ref te, .int yty, .int yat, .int yst, .int yso, .int yva, .ref ni, .ref re, .int yab, .int ybl, .int yis, .int yra, .ref ma, .ref be]), (nw, aI g 41 gn), (ni, aI g 8 n1), (re, aI g 8 r1)]) rfl (by decide) (by decide) (fun r0 w0 H locs hq S => ?_)
        obtain ⟨rfl, rfl⟩ := hq
        have S : ST g A ss H locs [(M, ob 7 [.ref nw, .ref dr, .ref pa, .int ypa, .ref im, .ref ke, .ref fl, .ref fq, .int yfa, .ref te, .int yty, .int yat, .int yst, .int yso, .int yva, .ref ni, .ref re, .int yab, .int ybl, .int yis, .int yra, .ref ma, .ref be]), (nw, aI g 41 gn), (ni, aI g 8 n1), (re, aI g 8 r1)] := S
        refine br_eqB (tgt := 101) hx hb dX7_reaches_25 (by decide) (fun c_2 => ?_) (fun c_2 => ?_)
        · -- 25 T
          refine lv_iinc (v := nI (i + 1)) (lv' := [(4, .int (nI (i + 1))), (3, .int (nI x)), (2, .int (o9 o)), (0, .ref M), (1, .int (nI pk))]) hx hb dX7_reaches_101 hl (k := 0) rfl (nI_add _ _) (by decide) rfl (fun ls hl => ?_)
          refine lv_goto (tgt := 8) hx hb dX7_reaches_104 (by decide) ?_
          exact ih8 (i + 1) x o n1 r1 (by omega) (by first | assumption | omega) (by simp only [rs, ho, nipN, if_neg (Bool.eq_false_iff.mp c_2)]) (keep_tb hR0 c_2) (keep_tb hN0 c_2) H locs ls (ST.eq S (rfl)) (lv_sub hl [0, 1, 2, 3, 4] (rfl))
        · -- 25 F
          cases o with
          | none =>
            have hl : lv_has ls 6 [(4, .int (nI i)), (3, .int (nI x)), (2, .int (-9)), (0, .ref M), (1, .int (nI pk))] := hl
            refine lv_iload_n hx hb dX7_reaches_28 rfl (lv_at hl 2 rfl) ?_
            refine lv_bipush (v := (-9)) hx hb dX7_reaches_29 (by decide) ?_
            refine lv_icmp_ne (tgt := 38) hx hb dX7_reaches_31 (by decide) (fun c_3 => ?_) (fun c_3 => ?_)
            · -- 31 T
              exact absurd rfl c_3
            · -- 31 F
              refine lv_iconst (v := 0) hx hb dX7_reaches_34 (by decide) ?_
              refine lv_goto (tgt := 60) hx hb dX7_reaches_35 (by decide) ?_
              refine lv_istore (lv' := [(5, .int 0), (4, .int (nI i)), (3, .int (nI x)), (2, .int (-9)), (0, .ref M), (1, .int (nI pk))]) hx hb dX7_reaches_60 hl (by decide) rfl (fun ls hl => ?_)
              refine lv_aload_n hx hb dX7_reaches_62 rfl (lv_at hl 4 rfl) ?_
              refine top_get C S inX7_reaches_X7 rfl 0 rfl 15 (by decide) (by decide +kernel) rfl rfl dX7_reaches_63 ?_
              refine lv_iload hx hb dX7_reaches_66 (lv_at hl 1 rfl) ?_
              refine lv_iload hx hb dX7_reaches_68 (lv_at hl 0 rfl) ?_
              refine bn_zge (tgt := 77) (a := 0) hx hb rfl (by omega) dX7_reaches_70 (by decide) (fun c_4 => ?_) (fun c_4 => ?_)
              · -- 70 T
                refine lv_iload hx hb dX7_reaches_77 (lv_at hl 0 rfl) ?_
                refine top_ist C S 2 rfl (j := i) rfl (by omega) (by decide) dX7_reaches_79 (fun H locs S => ?_)
                have S : ST g A ss H locs [(M, ob 7 [.ref nw, .ref dr, .ref pa, .int ypa, .ref im, .ref ke, .ref fl, .ref fq, .int yfa, .ref te, .int yty, .int yat, .int yst, .int yso, .int yva, .ref ni, .ref re, .int yab, .int ybl, .int yis, .int yra, .ref ma, .ref be]), (nw, aI g 41 gn), (ni, aI g 8 (upd n1 i 0)), (re, aI g 8 r1)] := S
                refine lv_iload_n hx hb dX7_reaches_80 rfl (lv_at hl 2 rfl) ?_
                refine lv_aload_n hx hb dX7_reaches_81 rfl (lv_at hl 4 rfl) ?_
                refine top_get C S inX7_reaches_X7 rfl 0 rfl 15 (by decide) (by decide +kernel) rfl rfl dX7_reaches_82 ?_
                refine lv_iload hx hb dX7_reaches_85 (lv_at hl 1 rfl) ?_
                refine top_ild C S 2 rfl (j := i) rfl (by omega) (by decide) dX7_reaches_87 ?_
                refine top_eq (y := 0) pk_us ?_
                refine lv_iadd hx hb dX7_reaches_88 ?_
                refine top_eq (y := nI (x + 0)) (nI_add _ _) ?_
                refine lv_istore_n (lv' := [(3, .int (nI (x + 0))), (5, .int 0), (4, .int (nI i)), (2, .int (-9)), (0, .ref M), (1, .int (nI pk))]) hx hb dX7_reaches_89 rfl hl (by decide) rfl (fun ls hl => ?_)
                refine lv_aload_n hx hb dX7_reaches_90 rfl (lv_at hl 4 rfl) ?_
                refine top_get C S inX7_reaches_X7 rfl 0 rfl 16 (by decide) (by decide +kernel) rfl rfl dX7_reaches_91 ?_
                refine lv_iload hx hb dX7_reaches_94 (lv_at hl 2 rfl) ?_
                refine lv_iload_n hx hb dX7_reaches_96 rfl (lv_at hl 0 rfl) ?_
                refine top_ist C S 3 rfl (j := i) rfl (by omega) (by decide) dX7_reaches_97 (fun H locs S => ?_)
                have S : ST g A ss H locs [(M, ob 7 [.ref nw, .ref dr, .ref pa, .int ypa, .ref im, .ref ke, .ref fl, .ref fq, .int yfa, .ref te, .int yty, .int yat, .int yst, .int yso, .int yva, .ref ni, .ref re, .int yab, .int ybl, .int yis, .int yra, .ref ma, .ref be]), (nw, aI g 41 gn), (ni, aI g 8 (upd n1 i 0)), (re, aI g 8 (upd r1 i (nI (x + 0))))] := S
                refine lv_iload hx hb dX7_reaches_98 (lv_at hl 2 rfl) ?_
                refine lv_istore_n (lv' := [(2, .int (nI i)), (3, .int (nI (x + 0))), (5, .int 0), (4, .int (nI i)), (0, .ref M), (1, .int (nI pk))]) hx hb dX7_reaches_100 rfl hl (by decide) rfl (fun ls hl => ?_)
                refine lv_iinc (v := nI (i + 1)) (lv' := [(4, .int (nI (i + 1))), (2, .int (nI i)), (3, .int (nI (x + 0))), (5, .int 0), (0, .ref M), (1, .int (nI pk))]) hx hb dX7_reaches_101 hl (k := 3) rfl (nI_add _ _) (by decide) rfl (fun ls hl => ?_)
                refine lv_goto (tgt := 8) hx hb dX7_reaches_104 (by decide) ?_
                exact ih8 (i + 1) (x + 0) (some i) (upd n1 i 0) (upd r1 i (nI (x + 0))) (by omega) (by first | assumption | omega) (by simp only [rs, ho, nipN, if_pos c_2]) (upd_tb (P := fun j => RC (nu 2) pk j) hR0 (by show _ = nI (rs (nu 2) pk (i + 1)).2; simp only [rs, ho, nipN, if_pos c_2])) (upd_tb (P := fun j => nipN (nu 2) (rs (nu 2) pk j).1 j) hN0 (by simp only [ho, nipN] <;> rfl)) H locs ls (ST.eq S (rfl)) (lv_sub hl [0, 2, 1, 4, 5] (rfl))
              · -- 70 F
                exact absurd c_4 (by decide)
          | some j =>
            have hl : lv_has ls 6 [(4, .int (nI i)), (3, .int (nI x)), (2, .int (nI j)), (0, .ref M), (1, .int (nI pk))] := hl
            have hj : j < n := by have := rs_lt i j (by rw [ho]); omega
            have hc1 := hca j hj
            have hc2 := hca i (by omega)
            refine lv_iload_n hx hb dX7_reaches_28 rfl (lv_at hl 2 rfl) ?_
            refine lv_bipush (v := (-9)) hx hb dX7_reaches_29 (by decide) ?_
            refine lv_icmp_ne (tgt := 38) hx hb dX7_reaches_31 (by decide) (fun c_5 => ?_) (fun c_5 => ?_)
            · -- 31 T
              refine lv_aload_n hx hb dX7_reaches_38 rfl (lv_at hl 3 rfl) ?_
              refine lv_iload_n hx hb dX7_reaches_39 rfl (lv_at hl 2 rfl) ?_
              refine bn_zge (tgt := 47) (a := j) hx hb rfl (by omega) dX7_reaches_40 (by decide) (fun c_6 => ?_) (fun c_6 => ?_)
              · -- 40 T
                refine lv_iload_n hx hb dX7_reaches_47 rfl (lv_at hl 2 rfl) ?_
                refine lv_iconst (v := 3) hx hb dX7_reaches_48 (by decide) ?_
                refine after_I (wc := [(M, ob 7 [.ref nw, .ref dr, .ref pa, .int ypa, .ref im, .ref ke, .ref fl, .ref fq, .int yfa, .ref te, .int yty, .int yat, .int yst, .int yso, .int yva, .ref ni, .ref re, .int yab, .int ybl, .int yis, .int yra, .ref ma, .ref be]), (nw, aI g 41 gn)]) (y := yX7_of) C S (va_runV (As := [.int (nI j), .int 3]) (rest := []) C.1 (kX7_of l g M nw dr pa im ke fl fq te ni re ma be ypa yfa yty yat yst yso yva yab ybl yis yra gn j 3 (by first | assumption | omega) (by first | assumption | omega) H.size) (cwV 2 hts gX7_reaches_X7_of rfl rfl rfl (by decide +kernel) ⟨Nat.le_of_ble_eq_true rfl, Nat.le_of_ble_eq_true rfl⟩) (preV_at C S 0 rfl rfl [0, 1] rfl (by decide)) rfl rfl hl.1 rfl (lv_room (Nat.le_of_ble_eq_true rfl)) dX7_reaches_49 ⟨Nat.le_of_ble_eq_true rfl, Nat.le_of_ble_eq_true rfl⟩) [0, 1] [2, 3] rfl (wr := [(ni, aI g 8 n1), (re, aI g 8 r1)]) rfl (by decide) (by decide) (fun r0 w0 H locs hq S => ?_)
                obtain ⟨rfl, rfl⟩ := hq
                have S : ST g A ss H locs [(M, ob 7 [.ref nw, .ref dr, .ref pa, .int ypa, .ref im, .ref ke, .ref fl, .ref fq, .int yfa, .ref te, .int yty, .int yat, .int yst, .int yso, .int yva, .ref ni, .ref re, .int yab, .int ybl, .int yis, .int yra, .ref ma, .ref be]), (nw, aI g 41 gn), (ni, aI g 8 n1), (re, aI g 8 r1)] := ST.sub S [2, 3, 0, 1] (by decide) rfl
                refine top_eq (y := nI (nu 2 j)) (hgn 2 _ (by omega) (by omega)) ?_
                refine lv_aload_n hx hb dX7_reaches_52 rfl (lv_at hl 3 rfl) ?_
                refine lv_iload hx hb dX7_reaches_53 (lv_at hl 0 rfl) ?_
                refine lv_iconst (v := 3) hx hb dX7_reaches_55 (by decide) ?_
                refine after_I (wc := [(M, ob 7 [.ref nw, .ref dr, .ref pa, .int ypa, .ref im, .ref ke, .ref fl, .ref fq, .int yfa, .ref te, .int yty, .int yat, .int yst, .int yso, .int yva, .ref ni, .ref re, .int yab, .int ybl, .int yis, .int yra, .ref ma, .ref be]), (nw, aI g 41 gn)]) (y := yX7_of) C S (va_runV (As := [.int (nI i), .int 3]) (rest := [.int (nI (nu 2 j))]) C.1 (kX7_of l g M nw dr pa im ke fl fq te ni re ma be ypa yfa yty yat yst yso yva yab ybl yis yra gn i 3 (by first | assumption | omega) (by first | assumption | omega) H.size) (cwV 2 hts gX7_reaches_X7_of rfl rfl rfl (by decide +kernel) ⟨Nat.le_of_ble_eq_true rfl, Nat.le_of_ble_eq_true rfl⟩) (preV_at C S 0 rfl rfl [0, 1] rfl (by decide)) rfl rfl hl.1 rfl (lv_room (Nat.le_of_ble_eq_true rfl)) dX7_reaches_56 ⟨Nat.le_of_ble_eq_true rfl, Nat.le_of_ble_eq_true rfl⟩) [0, 1] [2, 3] rfl (wr := [(ni, aI g 8 n1), (re, aI g 8 r1)]) rfl (by decide) (by decide) (fun r0 w0 H locs hq S => ?_)
                obtain ⟨rfl, rfl⟩ := hq
                have S : ST g A ss H locs [(M, ob 7 [.ref nw, .ref dr, .ref pa, .int ypa, .ref im, .ref ke, .ref fl, .ref fq, .int yfa, .ref te, .int yty, .int yat, .int yst, .int yso, .int yva, .ref ni, .ref re, .int yab, .int ybl, .int yis, .int yra, .ref ma, .ref be]), (nw, aI g 41 gn), (ni, aI g 8 n1), (re, aI g 8 r1)] := ST.sub S [2, 3, 0, 1] (by decide) rfl
                refine top_eq (y := nI (nu 2 i)) (hgn 2 _ (by omega) (by omega)) ?_
                refine lv_isub hx hb dX7_reaches_59 ?_
                refine lv_istore (lv' := [(5, .int ((nI (nu 2 j)) - (nI (nu 2 i)))), (4, .int (nI i)), (3, .int (nI x)), (2, .int (nI j)), (0, .ref M), (1, .int (nI pk))]) hx hb dX7_reaches_60 hl (by decide) rfl (fun ls hl => ?_)
                refine lv_aload_n hx hb dX7_reaches_62 rfl (lv_at hl 4 rfl) ?_
                refine top_get C S inX7_reaches_X7 rfl 0 rfl 15 (by decide) (by decide +kernel) rfl rfl dX7_reaches_63 ?_
                refine lv_iload hx hb dX7_reaches_66 (lv_at hl 1 rfl) ?_
                refine lv_iload hx hb dX7_reaches_68 (lv_at hl 0 rfl) ?_
                refine lv_if_ge (tgt := 77) hx hb dX7_reaches_70 (by decide) (fun c_7 => ?_) (fun c_7 => ?_)
                · -- 70 T
                  refine lv_iload hx hb dX7_reaches_77 (lv_at hl 0 rfl) ?_
                  refine top_eq (y := nI (nu 2 j - nu 2 i)) (pk_sub (by have := (sub_lt_N (p := 0) (by omega) (by omega) (by decide)).mp c_7; omega)) ?_
                  refine top_ist C S 2 rfl (j := i) rfl (by omega) (by decide) dX7_reaches_79 (fun H locs S => ?_)
                  have S : ST g A ss H locs [(M, ob 7 [.ref nw, .ref dr, .ref pa, .int ypa, .ref im, .ref ke, .ref fl, .ref fq, .int yfa, .ref te, .int yty, .int yat, .int yst, .int yso, .int yva, .ref ni, .ref re, .int yab, .int ybl, .int yis, .int yra, .ref ma, .ref be]), (nw, aI g 41 gn), (ni, aI g 8 (upd n1 i (nI (nu 2 j - nu 2 i)))), (re, aI g 8 r1)] := S
                  refine lv_iload_n hx hb dX7_reaches_80 rfl (lv_at hl 2 rfl) ?_
                  refine lv_aload_n hx hb dX7_reaches_81 rfl (lv_at hl 4 rfl) ?_
                  refine top_get C S inX7_reaches_X7 rfl 0 rfl 15 (by decide) (by decide +kernel) rfl rfl dX7_reaches_82 ?_
                  refine lv_iload hx hb dX7_reaches_85 (lv_at hl 1 rfl) ?_
                  refine top_ild C S 2 rfl (j := i) rfl (by omega) (by decide) dX7_reaches_87 ?_
                  refine top_eq (y := nI (nu 2 j - nu 2 i)) pk_us ?_
                  refine lv_iadd hx hb dX7_reaches_88 ?_
                  refine top_eq (y := nI (x + (nu 2 j - nu 2 i))) (nI_add _ _) ?_
                  refine lv_istore_n (lv' := [(3, .int (nI (x + (nu 2 j - nu 2 i)))), (5, .int ((nI (nu 2 j)) - (nI (nu 2 i)))), (4, .int (nI i)), (2, .int (nI j)), (0, .ref M), (1, .int (nI pk))]) hx hb dX7_reaches_89 rfl hl (by decide) rfl (fun ls hl => ?_)
                  refine lv_aload_n hx hb dX7_reaches_90 rfl (lv_at hl 4 rfl) ?_
                  refine top_get C S inX7_reaches_X7 rfl 0 rfl 16 (by decide) (by decide +kernel) rfl rfl dX7_reaches_91 ?_
                  refine lv_iload hx hb dX7_reaches_94 (lv_at hl 2 rfl) ?_
                  refine lv_iload_n hx hb dX7_reaches_96 rfl (lv_at hl 0 rfl) ?_
                  refine top_ist C S 3 rfl (j := i) rfl (by omega) (by decide) dX7_reaches_97 (fun H locs S => ?_)
                  have S : ST g A ss H locs [(M, ob 7 [.ref nw, .ref dr, .ref pa, .int ypa, .ref im, .ref ke, .ref fl, .ref fq, .int yfa, .ref te, .int yty, .int yat, .int yst, .int yso, .int yva, .ref ni, .ref re, .int yab, .int ybl, .int yis, .int yra, .ref ma, .ref be]), (nw, aI g 41 gn), (ni, aI g 8 (upd n1 i (nI (nu 2 j - nu 2 i)))), (re, aI g 8 (upd r1 i (nI (x + (nu 2 j - nu 2 i)))))] := S
                  refine lv_iload hx hb dX7_reaches_98 (lv_at hl 2 rfl) ?_
                  refine lv_istore_n (lv' := [(2, .int (nI i)), (3, .int (nI (x + (nu 2 j - nu 2 i)))), (5, .int ((nI (nu 2 j)) - (nI (nu 2 i)))), (4, .int (nI i)), (0, .ref M), (1, .int (nI pk))]) hx hb dX7_reaches_100 rfl hl (by decide) rfl (fun ls hl => ?_)
                  refine lv_iinc (v := nI (i + 1)) (lv' := [(4, .int (nI (i + 1))), (2, .int (nI i)), (3, .int (nI (x + (nu 2 j - nu 2 i)))), (5, .int ((nI (nu 2 j)) - (nI (nu 2 i)))), (0, .ref M), (1, .int (nI pk))]) hx hb dX7_reaches_101 hl (k := 3) rfl (nI_add _ _) (by decide) rfl (fun ls hl => ?_)
                  refine lv_goto (tgt := 8) hx hb dX7_reaches_104 (by decide) ?_
                  exact ih8 (i + 1) (x + (nu 2 j - nu 2 i)) (some i) (upd n1 i (nI (nu 2 j - nu 2 i))) (upd r1 i (nI (x + (nu 2 j - nu 2 i)))) (by omega) (by first | assumption | omega) (by simp only [rs, ho, nipN, if_pos c_2]) (upd_tb (P := fun j => RC (nu 2) pk j) hR0 (by show _ = nI (rs (nu 2) pk (i + 1)).2; simp only [rs, ho, nipN, if_pos c_2])) (upd_tb (P := fun j => nipN (nu 2) (rs (nu 2) pk j).1 j) hN0 (by simp only [ho, nipN] <;> rfl)) H locs ls (ST.eq S (rfl)) (lv_sub hl [0, 2, 1, 4, 5] (rfl))
                · -- 70 F
                  refine lv_iconst (v := 0) hx hb dX7_reaches_73 (by decide) ?_
                  refine lv_goto (tgt := 79) hx hb dX7_reaches_74 (by decide) ?_
                  refine top_eq (y := nI (nu 2 j - nu 2 i)) (by rw [show nu 2 j - nu 2 i = 0 by have := mt (sub_lt_N (p := 0) (by omega) (by omega) (by decide)).mpr c_7; omega] <;> rfl) ?_
                  refine top_ist C S 2 rfl (j := i) rfl (by omega) (by decide) dX7_reaches_79 (fun H locs S => ?_)
                  have S : ST g A ss H locs [(M, ob 7 [.ref nw, .ref dr, .ref pa, .int ypa, .ref im, .ref ke, .ref fl, .ref fq, .int yfa, .ref te, .int yty, .int yat, .int yst, .int yso, .int yva, .ref ni, .ref re, .int yab, .int ybl, .int yis, .int yra, .ref ma, .ref be]), (nw, aI g 41 gn), (ni, aI g 8 (upd n1 i (nI (nu 2 j - nu 2 i)))), (re, aI g 8 r1)] := S
                  refine lv_iload_n hx hb dX7_reaches_80 rfl (lv_at hl 2 rfl) ?_
                  refine lv_aload_n hx hb dX7_reaches_81 rfl (lv_at hl 4 rfl) ?_
                  refine top_get C S inX7_reaches_X7 rfl 0 rfl 15 (by decide) (by decide +kernel) rfl rfl dX7_reaches_82 ?_
                  refine lv_iload hx hb dX7_reaches_85 (lv_at hl 1 rfl) ?_
                  refine top_ild C S 2 rfl (j := i) rfl (by omega) (by decide) dX7_reaches_87 ?_
                  refine top_eq (y := nI (nu 2 j - nu 2 i)) pk_us ?_
                  refine lv_iadd hx hb dX7_reaches_88 ?_
                  refine top_eq (y := nI (x + (nu 2 j - nu 2 i))) (nI_add _ _) ?_
                  refine lv_istore_n (lv' := [(3, .int (nI (x + (nu 2 j - nu 2 i)))), (5, .int ((nI (nu 2 j)) - (nI (nu 2 i)))), (4, .int (nI i)), (2, .int (nI j)), (0, .ref M), (1, .int (nI pk))]) hx hb dX7_reaches_89 rfl hl (by decide) rfl (fun ls hl => ?_)
                  refine lv_aload_n hx hb dX7_reaches_90 rfl (lv_at hl 4 rfl) ?_
                  refine top_get C S inX7_reaches_X7 rfl 0 rfl 16 (by decide) (by decide +kernel) rfl rfl dX7_reaches_91 ?_
                  refine lv_iload hx hb dX7_reaches_94 (lv_at hl 2 rfl) ?_
                  refine lv_iload_n hx hb dX7_reaches_96 rfl (lv_at hl 0 rfl) ?_
                  refine top_ist C S 3 rfl (j := i) rfl (by omega) (by decide) dX7_reaches_97 (fun H locs S => ?_)
                  have S : ST g A ss H locs [(M, ob 7 [.ref nw, .ref dr, .ref pa, .int ypa, .ref im, .ref ke, .ref fl, .ref fq, .int yfa, .ref te, .int yty, .int yat, .int yst, .int yso, .int yva, .ref ni, .ref re, .int yab, .int ybl, .int yis, .int yra, .ref ma, .ref be]), (nw, aI g 41 gn), (ni, aI g 8 (upd n1 i (nI (nu 2 j - nu 2 i)))), (re, aI g 8 (upd r1 i (nI (x + (nu 2 j - nu 2 i)))))] := S
                  refine lv_iload hx hb dX7_reaches_98 (lv_at hl 2 rfl) ?_
                  refine lv_istore_n (lv' := [(2, .int (nI i)), (3, .int (nI (x + (nu 2 j - nu 2 i)))), (5, .int ((nI (nu 2 j)) - (nI (nu 2 i)))), (4, .int (nI i)), (0, .ref M), (1, .int (nI pk))]) hx hb dX7_reaches_100 rfl hl (by decide) rfl (fun ls hl => ?_)
                  refine lv_iinc (v := nI (i + 1)) (lv' := [(4, .int (nI (i + 1))), (2, .int (nI i)), (3, .int (nI (x + (nu 2 j - nu 2 i)))), (5, .int ((nI (nu 2 j)) - (nI (nu 2 i)))), (0, .ref M), (1, .int (nI pk))]) hx hb dX7_reaches_101 hl (k := 3) rfl (nI_add _ _) (by decide) rfl (fun ls hl => ?_)
                  refine lv_goto (tgt := 8) hx hb dX7_reaches_104 (by decide) ?_
                  exact ih8 (i + 1) (x + (nu 2 j - nu 2 i)) (some i) (upd n1 i (nI (nu 2 j - nu 2 i))) (upd r1 i (nI (x + (nu 2 j - nu 2 i)))) (by omega) (by first | assumption | omega) (by simp only [rs, ho, nipN, if_pos c_2]) (upd_tb (P := fun j => RC (nu 2) pk j) hR0 (by show _ = nI (rs (nu 2) pk (i + 1)).2; simp only [rs, ho, nipN, if_pos c_2])) (upd_tb (P := fun j => nipN (nu 2) (rs (nu 2) pk j).1 j) hN0 (by simp only [ho, nipN] <;> rfl)) H locs ls (ST.eq S (rfl)) (lv_sub hl [0, 2, 1, 4, 5] (rfl))
              · -- 40 F
                exact absurd (Nat.zero_le _) c_6
            · -- 31 F
              exact absurd c_5 (nI_n9 (by omega))
  exact loop8 _ 0 0 none nf ref (Nat.lt_succ_self _) (by first | assumption | omega) (rfl) (fun j hj => absurd hj (Nat.not_lt_zero _)) (fun j hj => absurd hj (Nat.not_lt_zero _)) H locs ls (ST.eq S (rfl)) (lv_sub hl [0, 1, 2, 3, 4] (rfl))

theorem inX7_bends_X7 : ∀ w ∈ wsX70, w ∈ wsX7_bends := by decide +kernel
set_option maxRecDepth 100000 in
set_option maxHeartbeats 4000000 in
theorem kX7_bends (l : Launch) (g : GG) (M : Nat) (nw : Nat) (dr : Nat) (pa : Nat) (im : Nat) (ke : Nat) (fl : Nat) (fq : Nat) (te : Nat) (ni : Nat) (re : Nat) (ma : Nat) (be : Nat) (ypa : Int32) (yfa : Int32) (yty : Int32) (yat : Int32) (yst : Int32) (yso : Int32) (yva : Int32) (yab : Int32) (ybl : Int32) (yis : Int32) (yra : Int32) (gn : Nat → Int32) (n : Nat) (nu : Nat → Nat → Nat) (nf : Nat → Int32) (ref : Nat → Int32) (Rr : Nat → Nat) (pk : Nat) (b : Nat) (p : Nat) (hn : n ≤ 8) (hg0 : gn 0 = nI n) (hgn : ∀ a i, a < 4 → i < n → gn (5 * i + (a + 1)) = nI (nu a i)) (hst : ∀ i, i < n → 1 ≤ nu 1 i ∧ nu 1 i ≤ 9) (hca : ∀ i, i < n → nu 2 i ≤ 30) (hpk : pk < 512) (hb9 : b < 2 ^ n) (hsub : ∀ j, j < n → b.testBit j = true → pk.testBit j = true) (hRM : ∀ j, j < n → pk.testBit j = true → RC (nu 2) pk j = Rr j) (hRb : ∀ i, i < n → Rr i ≤ 240) (hp : p ≤ 999) : KV l g yX7_bends wsX7_bends 2 47 [.ref M, .int (nI pk), .int (nI b), .int (nI p)] [(M, ob 7 [.ref nw, .ref dr, .ref pa, .int ypa, .ref im, .ref ke, .ref fl, .ref fq, .int yfa, .ref te, .int yty, .int yat, .int yst, .int yso, .int yva, .ref ni, .ref re, .int yab, .int ybl, .int yis, .int yra, .ref ma, .ref be]), (nw, aI g 41 gn), (ni, aI g 8 nf), (re, aI g 8 ref)] (fun (w' : va_W) => ∃ (nf' : Nat → Int32), ∃ (ref' : Nat → Int32), (∀ j, j < n → pk.testBit j = true → ref' j = nI (Rr j)) ∧ w' = [(M, ob 7 [.ref nw, .ref dr, .ref pa, .int ypa, .ref im, .ref ke, .ref fl, .ref fq, .int yfa, .ref te, .int yty, .int yat, .int yst, .int yso, .int yva, .ref ni, .ref re, .int (nI (abN (nu 1) Rr b p n)), .int (nI (beN (nu 1) Rr b p n)), .int (bI (decide (0 < lowN (nu 1) Rr b p n))), .int (nI ((pr (nu 1) Rr b p n).1)), .ref ma, .ref be]), (nw, aI g 41 gn), (ni, aI g 8 nf'), (re, aI g 8 ref')]) := by
  refine kV_of (cc := cX7_bends) (maxL := 8) (by decide) rfl (Nat.le_of_ble_eq_true rfl) ?_
  intro pp ee ss mm bel mth cd A ls C S hr hl
  obtain ⟨hx, hb, hml, hown, hts⟩ := id C.1
  have hl : lv_has ls 8 [(0, .ref M), (1, .int (nI pk)), (2, .int (nI b)), (3, .int (nI p))] := hl
  obtain ⟨H, hH⟩ : ∃ H, H = ss.heap := ⟨_, rfl⟩
  obtain ⟨locs, hL0⟩ : ∃ L : List Loc, L = [] := ⟨_, rfl⟩
  rw [← hH, ← hL0] at S ⊢
  have hb8 : b < 256 := wlt hn hb9
  refine lv_aload_n hx hb dX7_bends_0 rfl (lv_at hl 0 rfl) ?_
  refine lv_iload_n hx hb dX7_bends_1 rfl (lv_at hl 1 rfl) ?_
  refine after_V (wc := [(M, ob 7 [.ref nw, .ref dr, .ref pa, .int ypa, .ref im, .ref ke, .ref fl, .ref fq, .int yfa, .ref te, .int yty, .int yat, .int yst, .int yso, .int yva, .ref ni, .ref re, .int yab, .int ybl, .int yis, .int yra, .ref ma, .ref be]), (nw, aI g 41 gn), (ni, aI g 8 nf), (re, aI g 8 ref)]) (y := yX7_reaches) C S (va_runV (As := [.int (nI pk)]) (rest := []) C.1 (kX7_reaches l g M nw dr pa im ke fl fq te ni re ma be ypa yfa yty yat yst yso yva yab ybl yis yra gn n nu nf ref pk (by first | assumption | omega) (by first | assumption | omega) (by first | assumption | omega) (by first | assumption | omega) (by first | assumption | omega) H.size) (cwV 1 hts gX7_bends_X7_reaches rfl rfl rfl (by decide +kernel) ⟨Nat.le_of_ble_eq_true rfl, Nat.le_of_ble_eq_true rfl⟩) (preV_at C S 0 rfl rfl [0, 1, 2, 3] rfl (by decide)) rfl rfl hl.1 rfl (lv_room (Nat.le_of_ble_eq_true rfl)) dX7_bends_2 ⟨Nat.le_of_ble_eq_true rfl, Nat.le_of_ble_eq_true rfl⟩) [0, 1, 2, 3] [] rfl (wr := []) rfl (by decide) (by decide) (fun w0 H locs hq S => ?_)
  obtain ⟨nf1, ref1, hRe0, hNi0, rfl⟩ := hq
  have S : ST g A ss H locs [(M, ob 7 [.ref nw, .ref dr, .ref pa, .int ypa, .ref im, .ref ke, .ref fl, .ref fq, .int yfa, .ref te, .int yty, .int yat, .int yst, .int yso, .int yva, .ref ni, .ref re, .int yab, .int ybl, .int yis, .int yra, .ref ma, .ref be]), (nw, aI g 41 gn), (ni, aI g 8 nf1), (re, aI g 8 ref1)] := S
  have hRe1 : ∀ j, j < n → pk.testBit j = true → ref1 j = nI (Rr j) := fun j9 h9 b9 => by rw [hRe0 j9 h9 b9, hRM j9 h9 b9]
  refine lv_aload_n hx hb dX7_bends_5 rfl (lv_at hl 0 rfl) ?_
  refine lv_iconst (v := 0) hx hb dX7_bends_6 (by decide) ?_
  refine top_put (ty := .int) C S inX7_bends_X7 tyX7 tyX7_ok nmX7 rfl 0 rfl 17 (by decide) (by decide +kernel) rfl rfl (tyX7_ok 17 (by decide)) rfl rfl (Nat.le_of_ble_eq_true rfl) dX7_bends_7 (fun H locs S => ?_)
  have S : ST g A ss H locs [(M, ob 7 [.ref nw, .ref dr, .ref pa, .int ypa, .ref im, .ref ke, .ref fl, .ref fq, .int yfa, .ref te, .int yty, .int yat, .int yst, .int yso, .int yva, .ref ni, .ref re, .int 0, .int ybl, .int yis, .int yra, .ref ma, .ref be]), (nw, aI g 41 gn), (ni, aI g 8 nf1), (re, aI g 8 ref1)] := S
  refine lv_aload_n hx hb dX7_bends_10 rfl (lv_at hl 0 rfl) ?_
  refine lv_iconst (v := 1) hx hb dX7_bends_11 (by decide) ?_
  refine top_put (ty := .int) C S inX7_bends_X7 tyX7 tyX7_ok nmX7 rfl 0 rfl 18 (by decide) (by decide +kernel) rfl rfl (tyX7_ok 18 (by decide)) rfl rfl (Nat.le_of_ble_eq_true rfl) dX7_bends_12 (fun H locs S => ?_)
  have S : ST g A ss H locs [(M, ob 7 [.ref nw, .ref dr, .ref pa, .int ypa, .ref im, .ref ke, .ref fl, .ref fq, .int yfa, .ref te, .int yty, .int yat, .int yst, .int yso, .int yva, .ref ni, .ref re, .int 0, .int 1, .int yis, .int yra, .ref ma, .ref be]), (nw, aI g 41 gn), (ni, aI g 8 nf1), (re, aI g 8 ref1)] := S
  refine lv_aload_n hx hb dX7_bends_15 rfl (lv_at hl 0 rfl) ?_
  refine lv_iconst (v := 0) hx hb dX7_bends_16 (by decide) ?_
  refine top_put (ty := .int) C S inX7_bends_X7 tyX7 tyX7_ok nmX7 rfl 0 rfl 20 (by decide) (by decide +kernel) rfl rfl (tyX7_ok 20 (by decide)) rfl rfl (Nat.le_of_ble_eq_true rfl) dX7_bends_17 (fun H locs S => ?_)
  have S : ST g A ss H locs [(M, ob 7 [.ref nw, .ref dr, .ref pa, .int ypa, .ref im, .ref ke, .ref fl, .ref fq, .int yfa, .ref te, .int yty, .int yat, .int yst, .int yso, .int yva, .ref ni, .ref re, .int 0, .int 1, .int yis, .int 0, .ref ma, .ref be]), (nw, aI g 41 gn), (ni, aI g 8 nf1), (re, aI g 8 ref1)] := S
  refine lv_aload_n hx hb dX7_bends_20 rfl (lv_at hl 0 rfl) ?_
  refine lv_iload_n hx hb dX7_bends_21 rfl (lv_at hl 3 rfl) ?_
  refine bn_zeq (tgt := 29) (a := p) hx hb rfl (by omega) dX7_bends_22 (by decide) (fun c_1 => ?_) (fun c_1 => ?_)
  · -- 22 T
    refine lv_iconst (v := 1) hx hb dX7_bends_29 (by decide) ?_
    refine lv_goto (tgt := 34) hx hb dX7_bends_30 (by decide) ?_
    refine top_eq (y := bI (decide (0 < lowN (nu 1) Rr b p n))) (by rw [decide_eq_true ((bent (fun i9 h9 => (hst i9 h9).1) hb9).mpr (Or.inl c_1))] <;> rfl) ?_
    refine top_put (ty := .boolean) C S inX7_bends_X7 tyX7 tyX7_ok nmX7 rfl 0 rfl 19 (by decide) (by decide +kernel) rfl rfl (tyX7_ok 19 (by decide)) (bI_nar _) (bI_fit _) (Nat.le_of_ble_eq_true rfl) dX7_bends_34 (fun H locs S => ?_)
    have S : ST g A ss H locs [(M, ob 7 [.ref nw, .ref dr, .ref pa, .int ypa, .ref im, .ref ke, .ref fl, .ref fq, .int yfa, .ref te, .int yty, .int yat, .int yst, .int yso, .int yva, .ref ni, .ref re, .int 0, .int 1, .int (bI (decide (0 < lowN (nu 1) Rr b p n))), .int 0, .ref ma, .ref be]), (nw, aI g 41 gn), (ni, aI g 8 nf1), (re, aI g 8 ref1)] := S
    refine lv_iconst (v := 0) hx hb dX7_bends_37 (by decide) ?_
    refine lv_istore (lv' := [(4, .int 0), (0, .ref M), (1, .int (nI pk)), (2, .int (nI b)), (3, .int (nI p))]) hx hb dX7_bends_38 hl (by decide) rfl (fun ls hl => ?_)
    refine lv_iconst (v := 0) hx hb dX7_bends_40 (by decide) ?_
    refine lv_istore (lv' := [(5, .int 0), (4, .int 0), (0, .ref M), (1, .int (nI pk)), (2, .int (nI b)), (3, .int (nI p))]) hx hb dX7_bends_41 hl (by decide) rfl (fun ls hl => ?_)
    refine lv_iconst (v := 0) hx hb dX7_bends_43 (by decide) ?_
    refine lv_istore (lv' := [(6, .int 0), (5, .int 0), (4, .int 0), (0, .ref M), (1, .int (nI pk)), (2, .int (nI b)), (3, .int (nI p))]) hx hb dX7_bends_44 hl (by decide) rfl (fun ls hl => ?_)
    have loop46 : ∀ (N0 : Nat) (i : Nat) (s : Nat) (m : Nat) (ab : Nat) (bl : Nat), n - i < N0 → (i ≤ n) → (pr (nu 1) Rr b p i = (s, m)) → (ab = if s = 0 then 0 else p + m) → (bl = if s = 0 then 1 else s) → ∀ (H : Heap) (locs : List Loc) (ls : Array Slot), ST g A ss H locs [(M, ob 7 [.ref nw, .ref dr, .ref pa, .int ypa, .ref im, .ref ke, .ref fl, .ref fq, .int yfa, .ref te, .int yty, .int yat, .int yst, .int yso, .int yva, .ref ni, .ref re, .int (nI ab), .int (nI bl), .int (bI (decide (0 < lowN (nu 1) Rr b p n))), .int (nI s), .ref ma, .ref be]), (nw, aI g 41 gn), (ni, aI g 8 nf1), (re, aI g 8 ref1)] → lv_has ls 8 [(6, .int (nI i)), (5, .int (nI s)), (4, .int (nI m)), (0, .ref M), (1, .int (nI pk)), (2, .int (nI b)), (3, .int (nI p))] → W pp l ee { frames := 2, cells := 0, slots := 0, locals := 47 } ss mm ([.ref M, .int (nI pk), .int (nI b), .int (nI p)] : List Value).toArray bel mth cd H locs 0 0 (QV bel ([.ref M, .int (nI pk), .int (nI b), .int (nI p)] : List Value).toArray ss g A (fun (w' : va_W) => ∃ (nf' : Nat → Int32), ∃ (ref' : Nat → Int32), (∀ j, j < n → pk.testBit j = true → ref' j = nI (Rr j)) ∧ w' = [(M, ob 7 [.ref nw, .ref dr, .ref pa, .int ypa, .ref im, .ref ke, .ref fl, .ref fq, .int yfa, .ref te, .int yty, .int yat, .int yst, .int yso, .int yva, .ref ni, .ref re, .int (nI (abN (nu 1) Rr b p n)), .int (nI (beN (nu 1) Rr b p n)), .int (bI (decide (0 < lowN (nu 1) Rr b p n))), .int (nI ((pr (nu 1) Rr b p n).1)), .ref ma, .ref be]), (nw, aI g 41 gn), (ni, aI g 8 nf'), (re, aI g 8 ref')])) (F0 mm 46 ls []) := by
      intro N0
      induction N0 with
      | zero => intro i s m ab bl hN; exact absurd hN (Nat.not_lt_zero _)
      | succ N0 ih46 =>
        intro i s m ab bl hN hi hpr hab hbl H locs ls S hl
        have hB := pr_le (b := b) (p := p) (fun i9 h9 => (hst i9 h9).2) hRb i hi
        rw [hpr] at hB
        have hB1 : s ≤ 9 * i := hB.1
        have hB2 : m ≤ 2160 * i := hB.2
        refine lv_iload hx hb dX7_bends_46 (lv_at hl 0 rfl) ?_
        refine lv_aload_n hx hb dX7_bends_48 rfl (lv_at hl 3 rfl) ?_
        refine top_get C S inX7_bends_X7 rfl 0 rfl 0 (by decide) (by decide +kernel) rfl rfl dX7_bends_49 ?_
        refine lv_iconst (v := 0) hx hb dX7_bends_52 (by decide) ?_
        refine top_ild C S 1 rfl (j := 0) rfl (by omega) (by decide) dX7_bends_53 ?_
        refine top_eq (y := nI n) hg0 ?_
        refine bn_ige (tgt := 162) (a := i) (b := n) hx hb rfl rfl (by omega) (by omega) dX7_bends_54 (by decide) (fun c_2 => ?_) (fun c_2 => ?_)
        · -- 54 T
          have hin : i = n := by omega
          rw [hin] at hpr
          have hA : abN (nu 1) Rr b p n = ab := by unfold abN; rw [hpr]; exact hab.symm
          have hBn : beN (nu 1) Rr b p n = bl := by unfold beN; rw [hpr]; exact hbl.symm
          have hP1 : (pr (nu 1) Rr b p n).1 = s := by rw [hpr]
          exact ret_V C S hr dX7_bends_162 ⟨nf1, ref1, (hRe1), (by rw [hA, hBn, hP1])⟩
        · -- 54 F
          have e1 := hRb i (by omega)
          have e2 := hst i (by omega)
          have e3 : Rr i * s ≤ 240 * 72 := Nat.mul_le_mul e1 (by omega)
          refine lv_iload_n hx hb dX7_bends_57 rfl (lv_at hl 6 rfl) ?_
          refine bn_zle (tgt := 162) (a := p) hx hb rfl (by omega) dX7_bends_58 (by decide) (fun c_3 => ?_) (fun c_3 => ?_)
          · -- 58 T
            have hp0 : p = 0 := by omega
            have f1 : pr (nu 1) Rr b p n = (0, 0) := by rw [hp0]; exact pr_p0 n
            have f2 : (s, m) = (0, 0) := by rw [← hpr, hp0]; exact pr_p0 i
            have f3 : s = 0 := congrArg Prod.fst f2
            have hA : abN (nu 1) Rr b p n = ab := by unfold abN; rw [f1, hab, f3] <;> rfl
            have hBn : beN (nu 1) Rr b p n = bl := by unfold beN; rw [f1, hbl, f3] <;> rfl
            have hP1 : (pr (nu 1) Rr b p n).1 = s := by rw [f1, f3]
            exact ret_V C S hr dX7_bends_162 ⟨nf1, ref1, (hRe1), (by rw [hA, hBn, hP1])⟩
          · -- 58 F
            refine lv_iload_n hx hb dX7_bends_61 rfl (lv_at hl 5 rfl) ?_
            refine lv_iload hx hb dX7_bends_62 (lv_at hl 0 rfl) ?_
            refine after_I (wc := []) (y := yX7_has) C S (va_runS (As := [.int (nI b), .int (nI i)]) (rest := []) C.1 (kX7_has l g b i (by first | assumption | omega) (by first | assumption | omega) H.size) (va_cwS 2 hts gX7_bends_X7_has rfl rfl rfl (by decide +kernel) ⟨Nat.le_of_ble_eq_true rfl, Nat.le_of_ble_eq_true rfl⟩) (preS_at C S [] rfl (by decide)) rfl rfl hl.1 rfl (lv_room (Nat.le_of_ble_eq_true rfl)) dX7_bends_64 ⟨Nat.le_of_ble_eq_true rfl, Nat.le_of_ble_eq_true rfl⟩) [] [0, 1, 2, 3] rfl (wr := [(M, ob 7 [.ref nw, .ref dr, .ref pa, .int ypa, .ref im, .ref ke, .ref fl, .ref fq, .int yfa, .ref te, .int yty, .int yat, .int yst, .int yso, .int yva, .ref ni, .ref re, .int (nI ab), .int (nI bl), .int (bI (decide (0 < lowN (nu 1) Rr b p n))), .int (nI s), .ref ma, .ref be]), (nw, aI g 41 gn), (ni, aI g 8 nf1), (re, aI g 8 ref1)]) rfl (by decide) (by decide) (fun r0 w0 H locs hq S => ?_)
            obtain ⟨rfl, rfl⟩ := hq
            have S : ST g A ss H locs [(M, ob 7 [.ref nw, .ref dr, .ref pa, .int ypa, .ref im, .ref ke, .ref fl, .ref fq, .int yfa, .ref te, .int yty, .int yat, .int yst, .int yso, .int yva, .ref ni, .ref re, .int (nI ab), .int (nI bl), .int (bI (decide (0 < lowN (nu 1) Rr b p n))), .int (nI s), .ref ma, .ref be]), (nw, aI g 41 gn), (ni, aI g 8 nf1), (re, aI g 8 ref1)] := S
            refine br_eqB (tgt := 96) hx hb dX7_bends_67 (by decide) (fun c_4 => ?_) (fun c_4 => ?_)
            · -- 67 T
              refine lv_iconst (v := 0) hx hb dX7_bends_96 (by decide) ?_
              refine lv_istore (lv' := [(7, .int 0), (6, .int (nI i)), (5, .int (nI s)), (4, .int (nI m)), (0, .ref M), (1, .int (nI pk)), (2, .int (nI b)), (3, .int (nI p))]) hx hb dX7_bends_97 hl (by decide) rfl (fun ls hl => ?_)
              refine lv_iload hx hb dX7_bends_99 (lv_at hl 0 rfl) ?_
              refine bn_zeq (tgt := 156) (a := 0) hx hb rfl (by omega) dX7_bends_101 (by decide) (fun c_5 => ?_) (fun c_5 => ?_)
              · -- 101 T
                refine lv_iinc (v := nI (i + 1)) (lv' := [(6, .int (nI (i + 1))), (7, .int 0), (5, .int (nI s)), (4, .int (nI m)), (0, .ref M), (1, .int (nI pk)), (2, .int (nI b)), (3, .int (nI p))]) hx hb dX7_bends_156 hl (k := 1) rfl (nI_add _ _) (by decide) rfl (fun ls hl => ?_)
                refine lv_goto (tgt := 46) hx hb dX7_bends_159 (by decide) ?_
                exact ih46 (i + 1) s m ab bl (by omega) (by first | assumption | omega) (by simp only [pr, hpr, if_neg (Bool.eq_false_iff.mp c_4)]) (hab) (hbl) H locs ls (ST.eq S (rfl)) (lv_sub hl [0, 2, 3, 4, 5, 6, 7] (rfl))
              · -- 101 F
                exact absurd c_5 (by decide)
            · -- 67 F
              have hbi := c_4
              refine lv_iload hx hb dX7_bends_70 (lv_at hl 1 rfl) ?_
              refine bn_zeq (tgt := 92) (a := s) hx hb rfl (by omega) dX7_bends_72 (by decide) (fun c_6 => ?_) (fun c_6 => ?_)
              · -- 72 T
                refine lv_iconst (v := 1) hx hb dX7_bends_92 (by decide) ?_
                refine lv_goto (tgt := 97) hx hb dX7_bends_93 (by decide) ?_
                refine lv_istore (lv' := [(7, .int 1), (6, .int (nI i)), (5, .int (nI s)), (4, .int (nI m)), (0, .ref M), (1, .int (nI pk)), (2, .int (nI b)), (3, .int (nI p))]) hx hb dX7_bends_97 hl (by decide) rfl (fun ls hl => ?_)
                refine lv_iload hx hb dX7_bends_99 (lv_at hl 0 rfl) ?_
                refine bn_zeq (tgt := 156) (a := 1) hx hb rfl (by omega) dX7_bends_101 (by decide) (fun c_7 => ?_) (fun c_7 => ?_)
                · -- 101 T
                  exact absurd c_7 (by decide)
                · -- 101 F
                  refine lv_iload hx hb dX7_bends_104 (lv_at hl 2 rfl) ?_
                  refine lv_aload_n hx hb dX7_bends_106 rfl (lv_at hl 4 rfl) ?_
                  refine lv_iload hx hb dX7_bends_107 (lv_at hl 1 rfl) ?_
                  refine lv_iconst (v := 2) hx hb dX7_bends_109 (by decide) ?_
                  refine after_I (wc := [(M, ob 7 [.ref nw, .ref dr, .ref pa, .int ypa, .ref im, .ref ke, .ref fl, .ref fq, .int yfa, .ref te, .int yty, .int yat, .int yst, .int yso, .int yva, .ref ni, .ref re, .int (nI ab), .int (nI bl), .int (bI (decide (0 < lowN (nu 1) Rr b p n))), .int (nI s), .ref ma, .ref be]), (nw, aI g 41 gn)]) (y := yX7_of) C S (va_runV (As := [.int (nI i), .int 2]) (rest := [.int (nI s)]) C.1 (kX7_of l g M nw dr pa im ke fl fq te ni re ma be ypa yfa yty yat yst yso yva (nI ab) (nI bl) (bI (decide (0 < lowN (nu 1) Rr b p n))) (nI s) gn i 2 (by first | assumption | omega) (by first | assumption | omega) H.size) (cwV 2 hts gX7_bends_X7_of rfl rfl rfl (by decide +kernel) ⟨Nat.le_of_ble_eq_true rfl, Nat.le_of_ble_eq_true rfl⟩) (preV_at C S 0 rfl rfl [0, 1] rfl (by decide)) rfl rfl hl.1 rfl (lv_room (Nat.le_of_ble_eq_true rfl)) dX7_bends_110 ⟨Nat.le_of_ble_eq_true rfl, Nat.le_of_ble_eq_true rfl⟩) [0, 1] [2, 3] rfl (wr := [(ni, aI g 8 nf1), (re, aI g 8 ref1)]) rfl (by decide) (by decide) (fun r0 w0 H locs hq S => ?_)
                  obtain ⟨rfl, rfl⟩ := hq
                  have S : ST g A ss H locs [(M, ob 7 [.ref nw, .ref dr, .ref pa, .int ypa, .ref im, .ref ke, .ref fl, .ref fq, .int yfa, .ref te, .int yty, .int yat, .int yst, .int yso, .int yva, .ref ni, .ref re, .int (nI ab), .int (nI bl), .int (bI (decide (0 < lowN (nu 1) Rr b p n))), .int (nI s), .ref ma, .ref be]), (nw, aI g 41 gn), (ni, aI g 8 nf1), (re, aI g 8 ref1)] := ST.sub S [2, 3, 0, 1] (by decide) rfl
                  refine top_eq (y := nI (nu 1 i)) (hgn 1 _ (by omega) (by omega)) ?_
                  refine lv_iadd hx hb dX7_bends_113 ?_
                  refine top_eq (y := nI (s + (nu 1 i))) (nI_add _ _) ?_
                  refine lv_istore (lv' := [(5, .int (nI (s + (nu 1 i)))), (7, .int 1), (6, .int (nI i)), (4, .int (nI m)), (0, .ref M), (1, .int (nI pk)), (2, .int (nI b)), (3, .int (nI p))]) hx hb dX7_bends_114 hl (by decide) rfl (fun ls hl => ?_)
                  refine lv_iload hx hb dX7_bends_116 (lv_at hl 3 rfl) ?_
                  refine lv_aload_n hx hb dX7_bends_118 rfl (lv_at hl 4 rfl) ?_
                  refine lv_iload hx hb dX7_bends_119 (lv_at hl 2 rfl) ?_
                  refine lv_iconst (v := 2) hx hb dX7_bends_121 (by decide) ?_
                  refine after_I (wc := [(M, ob 7 [.ref nw, .ref dr, .ref pa, .int ypa, .ref im, .ref ke, .ref fl, .ref fq, .int yfa, .ref te, .int yty, .int yat, .int yst, .int yso, .int yva, .ref ni, .ref re, .int (nI ab), .int (nI bl), .int (bI (decide (0 < lowN (nu 1) Rr b p n))), .int (nI s), .ref ma, .ref be]), (nw, aI g 41 gn)]) (y := yX7_of) C S (va_runV (As := [.int (nI i), .int 2]) (rest := [.int (nI m)]) C.1 (kX7_of l g M nw dr pa im ke fl fq te ni re ma be ypa yfa yty yat yst yso yva (nI ab) (nI bl) (bI (decide (0 < lowN (nu 1) Rr b p n))) (nI s) gn i 2 (by first | assumption | omega) (by first | assumption | omega) H.size) (cwV 2 hts gX7_bends_X7_of rfl rfl rfl (by decide +kernel) ⟨Nat.le_of_ble_eq_true rfl, Nat.le_of_ble_eq_true rfl⟩) (preV_at C S 0 rfl rfl [0, 1] rfl (by decide)) rfl rfl hl.1 rfl (lv_room (Nat.le_of_ble_eq_true rfl)) dX7_bends_122 ⟨Nat.le_of_ble_eq_true rfl, Nat.le_of_ble_eq_true rfl⟩) [0, 1] [2, 3] rfl (wr := [(ni, aI g 8 nf1), (re, aI g 8 ref1)]) rfl (by decide) (by decide) (fun r0 w0 H locs hq S => ?_)
                  obtain ⟨rfl, rfl⟩ := hq
                  have S : ST g A ss H locs [(M, ob 7 [.ref nw, .ref dr, .ref pa, .int ypa, .ref im, .ref ke, .ref fl, .ref fq, .int yfa, .ref te, .int yty, .int yat, .int yst, .int yso, .int yva, .ref ni, .ref re, .int (nI ab), .int (nI bl), .int (bI (decide (0 < lowN (nu 1) Rr b p n))), .int (nI s), .ref ma, .ref be]), (nw, aI g 41 gn), (ni, aI g 8 nf1), (re, aI g 8 ref1)] := ST.sub S [2, 3, 0, 1] (by decide) rfl
                  refine top_eq (y := nI (nu 1 i)) (hgn 1 _ (by omega) (by omega)) ?_
                  refine lv_aload_n hx hb dX7_bends_125 rfl (lv_at hl 4 rfl) ?_
                  refine top_get C S inX7_bends_X7 rfl 0 rfl 16 (by decide) (by decide +kernel) rfl rfl dX7_bends_126 ?_
                  refine lv_iload hx hb dX7_bends_129 (lv_at hl 2 rfl) ?_
                  refine top_ild C S 3 rfl (j := i) rfl (by omega) (by decide) dX7_bends_131 ?_
                  refine top_eq (y := nI (Rr i)) (hRe1 i (by omega) (hsub i (by omega) hbi)) ?_
                  refine lv_imul hx hb dX7_bends_132 ?_
                  refine top_eq (y := nI ((nu 1 i) * (Rr i))) (pk_mul _ _) ?_
                  refine lv_iadd hx hb dX7_bends_133 ?_
                  refine top_eq (y := nI (m + ((nu 1 i) * (Rr i)))) (nI_add _ _) ?_
                  refine lv_istore (lv' := [(4, .int (nI (m + ((nu 1 i) * (Rr i))))), (5, .int (nI (s + (nu 1 i)))), (7, .int 1), (6, .int (nI i)), (0, .ref M), (1, .int (nI pk)), (2, .int (nI b)), (3, .int (nI p))]) hx hb dX7_bends_134 hl (by decide) rfl (fun ls hl => ?_)
                  refine lv_aload_n hx hb dX7_bends_136 rfl (lv_at hl 4 rfl) ?_
                  refine lv_iload_n hx hb dX7_bends_137 rfl (lv_at hl 7 rfl) ?_
                  refine lv_iload hx hb dX7_bends_138 (lv_at hl 0 rfl) ?_
                  refine lv_iadd hx hb dX7_bends_140 ?_
                  refine top_eq (y := nI (p + (m + ((nu 1 i) * (Rr i))))) (nI_add _ _) ?_
                  refine top_put (ty := .int) C S inX7_bends_X7 tyX7 tyX7_ok nmX7 rfl 0 rfl 17 (by decide) (by decide +kernel) rfl rfl (tyX7_ok 17 (by decide)) rfl rfl (Nat.le_of_ble_eq_true rfl) dX7_bends_141 (fun H locs S => ?_)
                  have S : ST g A ss H locs [(M, ob 7 [.ref nw, .ref dr, .ref pa, .int ypa, .ref im, .ref ke, .ref fl, .ref fq, .int yfa, .ref te, .int yty, .int yat, .int yst, .int yso, .int yva, .ref ni, .ref re, .int (nI (p + (m + ((nu 1 i) * (Rr i))))), .int (nI bl), .int (bI (decide (0 < lowN (nu 1) Rr b p n))), .int (nI s), .ref ma, .ref be]), (nw, aI g 41 gn), (ni, aI g 8 nf1), (re, aI g 8 ref1)] := S
                  refine lv_aload_n hx hb dX7_bends_144 rfl (lv_at hl 4 rfl) ?_
                  refine lv_iload hx hb dX7_bends_145 (lv_at hl 1 rfl) ?_
                  refine top_put (ty := .int) C S inX7_bends_X7 tyX7 tyX7_ok nmX7 rfl 0 rfl 18 (by decide) (by decide +kernel) rfl rfl (tyX7_ok 18 (by decide)) rfl rfl (Nat.le_of_ble_eq_true rfl) dX7_bends_147 (fun H locs S => ?_)
                  have S : ST g A ss H locs [(M, ob 7 [.ref nw, .ref dr, .ref pa, .int ypa, .ref im, .ref ke, .ref fl, .ref fq, .int yfa, .ref te, .int yty, .int yat, .int yst, .int yso, .int yva, .ref ni, .ref re, .int (nI (p + (m + ((nu 1 i) * (Rr i))))), .int (nI (s + (nu 1 i))), .int (bI (decide (0 < lowN (nu 1) Rr b p n))), .int (nI s), .ref ma, .ref be]), (nw, aI g 41 gn), (ni, aI g 8 nf1), (re, aI g 8 ref1)] := S
                  refine lv_aload_n hx hb dX7_bends_150 rfl (lv_at hl 4 rfl) ?_
                  refine lv_iload hx hb dX7_bends_151 (lv_at hl 1 rfl) ?_
                  refine top_put (ty := .int) C S inX7_bends_X7 tyX7 tyX7_ok nmX7 rfl 0 rfl 20 (by decide) (by decide +kernel) rfl rfl (tyX7_ok 20 (by decide)) rfl rfl (Nat.le_of_ble_eq_true rfl) dX7_bends_153 (fun H locs S => ?_)
                  have S : ST g A ss H locs [(M, ob 7 [.ref nw, .ref dr, .ref pa, .int ypa, .ref im, .ref ke, .ref fl, .ref fq, .int yfa, .ref te, .int yty, .int yat, .int yst, .int yso, .int yva, .ref ni, .ref re, .int (nI (p + (m + ((nu 1 i) * (Rr i))))), .int (nI (s + (nu 1 i))), .int (bI (decide (0 < lowN (nu 1) Rr b p n))), .int (nI (s + (nu 1 i))), .ref ma, .ref be]), (nw, aI g 41 gn), (ni, aI g 8 nf1), (re, aI g 8 ref1)] := S
                  refine lv_iinc (v := nI (i + 1)) (lv' := [(6, .int (nI (i + 1))), (4, .int (nI (m + ((nu 1 i) * (Rr i))))), (5, .int (nI (s + (nu 1 i)))), (7, .int 1), (0, .ref M), (1, .int (nI pk)), (2, .int (nI b)), (3, .int (nI p))]) hx hb dX7_bends_156 hl (k := 3) rfl (nI_add _ _) (by decide) rfl (fun ls hl => ?_)
                  refine lv_goto (tgt := 46) hx hb dX7_bends_159 (by decide) ?_
                  exact ih46 (i + 1) (s + (nu 1 i)) (m + ((nu 1 i) * (Rr i))) (p + (m + ((nu 1 i) * (Rr i)))) (s + (nu 1 i)) (by omega) (by first | assumption | omega) (by simp only [pr, hpr, if_pos c_4, if_neg (fun q9 : p + m ≤ s * Rr i => by rw [c_6] at q9; omega)]) (by rw [if_neg (by omega)]) (by rw [if_neg (by omega)]) H locs ls (ST.eq S (rfl)) (lv_sub hl [0, 2, 1, 4, 5, 6, 7] (rfl))
              · -- 72 F
                refine lv_iload_n hx hb dX7_bends_75 rfl (lv_at hl 6 rfl) ?_
                refine lv_iload hx hb dX7_bends_76 (lv_at hl 2 rfl) ?_
                refine lv_iadd hx hb dX7_bends_78 ?_
                refine top_eq (y := nI (p + m)) (nI_add _ _) ?_
                refine lv_aload_n hx hb dX7_bends_79 rfl (lv_at hl 3 rfl) ?_
                refine top_get C S inX7_bends_X7 rfl 0 rfl 16 (by decide) (by decide +kernel) rfl rfl dX7_bends_80 ?_
                refine lv_iload hx hb dX7_bends_83 (lv_at hl 0 rfl) ?_
                refine top_ild C S 3 rfl (j := i) rfl (by omega) (by decide) dX7_bends_85 ?_
                refine top_eq (y := nI (Rr i)) (hRe1 i (by omega) (hsub i (by omega) hbi)) ?_
                refine lv_iload hx hb dX7_bends_86 (lv_at hl 1 rfl) ?_
                refine lv_imul hx hb dX7_bends_88 ?_
                refine top_eq (y := nI ((Rr i) * s)) (pk_mul _ _) ?_
                refine bn_ile (tgt := 96) (a := p + m) (b := (Rr i) * s) hx hb rfl rfl (by omega) (by omega) dX7_bends_89 (by decide) (fun c_8 => ?_) (fun c_8 => ?_)
                · -- 89 T
                  refine lv_iconst (v := 0) hx hb dX7_bends_96 (by decide) ?_
                  refine lv_istore (lv' := [(7, .int 0), (6, .int (nI i)), (5, .int (nI s)), (4, .int (nI m)), (0, .ref M), (1, .int (nI pk)), (2, .int (nI b)), (3, .int (nI p))]) hx hb dX7_bends_97 hl (by decide) rfl (fun ls hl => ?_)
                  refine lv_iload hx hb dX7_bends_99 (lv_at hl 0 rfl) ?_
                  refine bn_zeq (tgt := 156) (a := 0) hx hb rfl (by omega) dX7_bends_101 (by decide) (fun c_9 => ?_) (fun c_9 => ?_)
                  · -- 101 T
                    refine lv_iinc (v := nI (i + 1)) (lv' := [(6, .int (nI (i + 1))), (7, .int 0), (5, .int (nI s)), (4, .int (nI m)), (0, .ref M), (1, .int (nI pk)), (2, .int (nI b)), (3, .int (nI p))]) hx hb dX7_bends_156 hl (k := 1) rfl (nI_add _ _) (by decide) rfl (fun ls hl => ?_)
                    refine lv_goto (tgt := 46) hx hb dX7_bends_159 (by decide) ?_
                    exact ih46 (i + 1) s m ab bl (by omega) (by first | assumption | omega) (by simp only [pr, hpr, if_pos c_4, if_pos (show p + m ≤ s * Rr i by rw [Nat.mul_comm]; exact c_8)]) (hab) (hbl) H locs ls (ST.eq S (rfl)) (lv_sub hl [0, 2, 3, 4, 5, 6, 7] (rfl))
                  · -- 101 F
                    exact absurd c_9 (by decide)
                · -- 89 F
                  refine lv_iconst (v := 1) hx hb dX7_bends_92 (by decide) ?_
                  refine lv_goto (tgt := 97) hx hb dX7_bends_93 (by decide) ?_
                  refine lv_istore (lv' := [(7, .int 1), (6, .int (nI i)), (5, .int (nI s)), (4, .int (nI m)), (0, .ref M), (1, .int (nI pk)), (2, .int (nI b)), (3, .int (nI p))]) hx hb dX7_bends_97 hl (by decide) rfl (fun ls hl => ?_)
                  refine lv_iload hx hb dX7_bends_99 (lv_at hl 0 rfl) ?_
                  refine bn_zeq (tgt := 156) (a := 1) hx hb rfl (by omega) dX7_bends_101 (by decide) (fun c_10 => ?_) (fun c_10 => ?_)
                  · -- 101 T
                    exact absurd c_10 (by decide)
                  · -- 101 F
                    refine lv_iload hx hb dX7_bends_104 (lv_at hl 2 rfl) ?_
                    refine lv_aload_n hx hb dX7_bends_106 rfl (lv_at hl 4 rfl) ?_
                    refine lv_iload hx hb dX7_bends_107 (lv_at hl 1 rfl) ?_
                    refine lv_iconst (v := 2) hx hb dX7_bends_109 (by decide) ?_
                    refine after_I (wc := [(M, ob 7 [.ref nw, .ref dr, .ref pa, .int ypa, .ref im, .ref ke, .ref fl, .ref fq, .int yfa, .ref te, .int yty, .int yat, .int yst, .int yso, .int yva, .ref ni, .ref re, .int (nI ab), .int (nI bl), .int (bI (decide (0 < lowN (nu 1) Rr b p n))), .int (nI s), .ref ma, .ref be]), (nw, aI g 41 gn)]) (y := yX7_of) C S (va_runV (As := [.int (nI i), .int 2]) (rest := [.int (nI s)]) C.1 (kX7_of l g M nw dr pa im ke fl fq te ni re ma be ypa yfa yty yat yst yso yva (nI ab) (nI bl) (bI (decide (0 < lowN (nu 1) Rr b p n))) (nI s) gn i 2 (by first | assumption | omega) (by first | assumption | omega) H.size) (cwV 2 hts gX7_bends_X7_of rfl rfl rfl (by decide +kernel) ⟨Nat.le_of_ble_eq_true rfl, Nat.le_of_ble_eq_true rfl⟩) (preV_at C S 0 rfl rfl [0, 1] rfl (by decide)) rfl rfl hl.1 rfl (lv_room (Nat.le_of_ble_eq_true rfl)) dX7_bends_110 ⟨Nat.le_of_ble_eq_true rfl, Nat.le_of_ble_eq_true rfl⟩) [0, 1] [2, 3] rfl (wr := [(ni, aI g 8 nf1), (re, aI g 8 ref1)]) rfl (by decide) (by decide) (fun r0 w0 H locs hq S => ?_)
                    obtain ⟨rfl, rfl⟩ := hq
                    have S : ST g A ss H locs [(M, ob 7 [.ref nw, .ref dr, .ref pa, .int ypa, .ref im, .ref ke, .ref fl, .ref fq, .int yfa, .ref te, .int yty, .int yat, .int yst, .int yso, .int yva, .ref ni, .ref re, .int (nI ab), .int (nI bl), .int (bI (decide (0 < lowN (nu 1) Rr b p n))), .int (nI s), .ref ma, .ref be]), (nw, aI g 41 gn), (ni, aI g 8 nf1), (re, aI g 8 ref1)] := ST.sub S [2, 3, 0, 1] (by decide) rfl
                    refine top_eq (y := nI (nu 1 i)) (hgn 1 _ (by omega) (by omega)) ?_
                    refine lv_iadd hx hb dX7_bends_113 ?_
                    refine top_eq (y := nI (s + (nu 1 i))) (nI_add _ _) ?_
                    refine lv_istore (lv' := [(5, .int (nI (s + (nu 1 i)))), (7, .int 1), (6, .int (nI i)), (4, .int (nI m)), (0, .ref M), (1, .int (nI pk)), (2, .int (nI b)), (3, .int (nI p))]) hx hb dX7_bends_114 hl (by decide) rfl (fun ls hl => ?_)
                    refine lv_iload hx hb dX7_bends_116 (lv_at hl 3 rfl) ?_
                    refine lv_aload_n hx hb dX7_bends_118 rfl (lv_at hl 4 rfl) ?_
                    refine lv_iload hx hb dX7_bends_119 (lv_at hl 2 rfl) ?_
                    refine lv_iconst (v := 2) hx hb dX7_bends_121 (by decide) ?_
                    refine after_I (wc := [(M, ob 7 [.ref nw, .ref dr, .ref pa, .int ypa, .ref im, .ref ke, .ref fl, .ref fq, .int yfa, .ref te, .int yty, .int yat, .int yst, .int yso, .int yva, .ref ni, .ref re, .int (nI ab), .int (nI bl), .int (bI (decide (0 < lowN (nu 1) Rr b p n))), .int (nI s), .ref ma, .ref be]), (nw, aI g 41 gn)]) (y := yX7_of) C S (va_runV (As := [.int (nI i), .int 2]) (rest := [.int (nI m)]) C.1 (kX7_of l g M nw dr pa im ke fl fq te ni re ma be ypa yfa yty yat yst yso yva (nI ab) (nI bl) (bI (decide (0 < lowN (nu 1) Rr b p n))) (nI s) gn i 2 (by first | assumption | omega) (by first | assumption | omega) H.size) (cwV 2 hts gX7_bends_X7_of rfl rfl rfl (by decide +kernel) ⟨Nat.le_of_ble_eq_true rfl, Nat.le_of_ble_eq_true rfl⟩) (preV_at C S 0 rfl rfl [0, 1] rfl (by decide)) rfl rfl hl.1 rfl (lv_room (Nat.le_of_ble_eq_true rfl)) dX7_bends_122 ⟨Nat.le_of_ble_eq_true rfl, Nat.le_of_ble_eq_true rfl⟩) [0, 1] [2, 3] rfl (wr := [(ni, aI g 8 nf1), (re, aI g 8 ref1)]) rfl (by decide) (by decide) (fun r0 w0 H locs hq S => ?_)
                    obtain ⟨rfl, rfl⟩ := hq
                    have S : ST g A ss H locs [(M, ob 7 [.ref nw, .ref dr, .ref pa, .int ypa, .ref im, .ref ke, .ref fl, .ref fq, .int yfa, .ref te, .int yty, .int yat, .int yst, .int yso, .int yva, .ref ni, .ref re, .int (nI ab), .int (nI bl), .int (bI (decide (0 < lowN (nu 1) Rr b p n))), .int (nI s), .ref ma, .ref be]), (nw, aI g 41 gn), (ni, aI g 8 nf1), (re, aI g 8 ref1)] := ST.sub S [2, 3, 0, 1] (by decide) rfl
                    refine top_eq (y := nI (nu 1 i)) (hgn 1 _ (by omega) (by omega)) ?_
                    refine lv_aload_n hx hb dX7_bends_125 rfl (lv_at hl 4 rfl) ?_
                    refine top_get C S inX7_bends_X7 rfl 0 rfl 16 (by decide) (by decide +kernel) rfl rfl dX7_bends_126 ?_
                    refine lv_iload hx hb dX7_bends_129 (lv_at hl 2 rfl) ?_
                    refine top_ild C S 3 rfl (j := i) rfl (by omega) (by decide) dX7_bends_131 ?_
                    refine top_eq (y := nI (Rr i)) (hRe1 i (by omega) (hsub i (by omega) hbi)) ?_
                    refine lv_imul hx hb dX7_bends_132 ?_
                    refine top_eq (y := nI ((nu 1 i) * (Rr i))) (pk_mul _ _) ?_
                    refine lv_iadd hx hb dX7_bends_133 ?_
                    refine top_eq (y := nI (m + ((nu 1 i) * (Rr i)))) (nI_add _ _) ?_
                    refine lv_istore (lv' := [(4, .int (nI (m + ((nu 1 i) * (Rr i))))), (5, .int (nI (s + (nu 1 i)))), (7, .int 1), (6, .int (nI i)), (0, .ref M), (1, .int (nI pk)), (2, .int (nI b)), (3, .int (nI p))]) hx hb dX7_bends_134 hl (by decide) rfl (fun ls hl => ?_)
                    refine lv_aload_n hx hb dX7_bends_136 rfl (lv_at hl 4 rfl) ?_
                    refine lv_iload_n hx hb dX7_bends_137 rfl (lv_at hl 7 rfl) ?_
                    refine lv_iload hx hb dX7_bends_138 (lv_at hl 0 rfl) ?_
                    refine lv_iadd hx hb dX7_bends_140 ?_
                    refine top_eq (y := nI (p + (m + ((nu 1 i) * (Rr i))))) (nI_add _ _) ?_
                    refine top_put (ty := .int) C S inX7_bends_X7 tyX7 tyX7_ok nmX7 rfl 0 rfl 17 (by decide) (by decide +kernel) rfl rfl (tyX7_ok 17 (by decide)) rfl rfl (Nat.le_of_ble_eq_true rfl) dX7_bends_141 (fun H locs S => ?_)
                    have S : ST g A ss H locs [(M, ob 7 [.ref nw, .ref dr, .ref pa, .int ypa, .ref im, .ref ke, .ref fl, .ref fq, .int yfa, .ref te, .int yty, .int yat, .int yst, .int yso, .int yva, .ref ni, .ref re, .int (nI (p + (m + ((nu 1 i) * (Rr i))))), .int (nI bl), .int (bI (decide (0 < lowN (nu 1) Rr b p n))), .int (nI s), .ref ma, .ref be]), (nw, aI g 41 gn), (ni, aI g 8 nf1), (re, aI g 8 ref1)] := S
                    refine lv_aload_n hx hb dX7_bends_144 rfl (lv_at hl 4 rfl) ?_
                    refine lv_iload hx hb dX7_bends_145 (lv_at hl 1 rfl) ?_
                    refine top_put (ty := .int) C S inX7_bends_X7 tyX7 tyX7_ok nmX7 rfl 0 rfl 18 (by decide) (by decide +kernel) rfl rfl (tyX7_ok 18 (by decide)) rfl rfl (Nat.le_of_ble_eq_true rfl) dX7_bends_147 (fun H locs S => ?_)
                    have S : ST g A ss H locs [(M, ob 7 [.ref nw, .ref dr, .ref pa, .int ypa, .ref im, .ref ke, .ref fl, .ref fq, .int yfa, .ref te, .int yty, .int yat, .int yst, .int yso, .int yva, .ref ni, .ref re, .int (nI (p + (m + ((nu 1 i) * (Rr i))))), .int (nI (s + (nu 1 i))), .int (bI (decide (0 < lowN (nu 1) Rr b p n))), .int (nI s), .ref ma, .ref be]), (nw, aI g 41 gn), (ni, aI g 8 nf1), (re, aI g 8 ref1)] := S
                    refine lv_aload_n hx hb dX7_bends_150 rfl (lv_at hl 4 rfl) ?_
                    refine lv_iload hx hb dX7_bends_151 (lv_at hl 1 rfl) ?_
                    refine top_put (ty := .int) C S inX7_bends_X7 tyX7 tyX7_ok nmX7 rfl 0 rfl 20 (by decide) (by decide +kernel) rfl rfl (tyX7_ok 20 (by decide)) rfl rfl (Nat.le_of_ble_eq_true rfl) dX7_bends_153 (fun H locs S => ?_)
                    have S : ST g A ss H locs [(M, ob 7 [.ref nw, .ref dr, .ref pa, .int ypa, .ref im, .ref ke, .ref fl, .ref fq, .int yfa, .ref te, .int yty, .int yat, .int yst, .int yso, .int yva, .ref ni, .ref re, .int (nI (p + (m + ((nu 1 i) * (Rr i))))), .int (nI (s + (nu 1 i))), .int (bI (decide (0 < lowN (nu 1) Rr b p n))), .int (nI (s + (nu 1 i))), .ref ma, .ref be]), (nw, aI g 41 gn), (ni, aI g 8 nf1), (re, aI g 8 ref1)] := S
                    refine lv_iinc (v := nI (i + 1)) (lv' := [(6, .int (nI (i + 1))), (4, .int (nI (m + ((nu 1 i) * (Rr i))))), (5, .int (nI (s + (nu 1 i)))), (7, .int 1), (0, .ref M), (1, .int (nI pk)), (2, .int (nI b)), (3, .int (nI p))]) hx hb dX7_bends_156 hl (k := 3) rfl (nI_add _ _) (by decide) rfl (fun ls hl => ?_)
                    refine lv_goto (tgt := 46) hx hb dX7_bends_159 (by decide) ?_
                    exact ih46 (i + 1) (s + (nu 1 i)) (m + ((nu 1 i) * (Rr i))) (p + (m + ((nu 1 i) * (Rr i)))) (s + (nu 1 i)) (by omega) (by first | assumption | omega) (by simp only [pr, hpr, if_pos c_4, if_neg (fun q9 : p + m ≤ s * Rr i => c_8 (by rw [Nat.mul_comm]; exact q9))]) (by rw [if_neg (by omega)]) (by rw [if_neg (by omega)]) H locs ls (ST.eq S (rfl)) (lv_sub hl [0, 2, 1, 4, 5, 6, 7] (rfl))
    exact loop46 _ 0 0 0 0 1 (Nat.lt_succ_self _) (by first | assumption | omega) (rfl) (rfl) (rfl) H locs ls (ST.eq S (rfl)) (lv_sub hl [0, 1, 2, 3, 4, 5, 6] (rfl))
  · -- 22 F
    refine lv_iload_n hx hb dX7_bends_25 rfl (lv_at hl 2 rfl) ?_
    refine bn_zeq (tgt := 33) (a := b) hx hb rfl (by omega) dX7_bends_26 (by decide) (fun c_11 => ?_) (fun c_11 => ?_)
    · -- 26 T
      refine lv_iconst (v := 0) hx hb dX7_bends_33 (by decide) ?_
      refine top_eq (y := bI (decide (0 < lowN (nu 1) Rr b p n))) (by rw [decide_eq_false (fun q9 => by rcases (bent (fun i9 h9 => (hst i9 h9).1) hb9).mp q9 with z9 | z9; exact c_1 z9; exact z9 c_11)] <;> rfl) ?_
      refine top_put (ty := .boolean) C S inX7_bends_X7 tyX7 tyX7_ok nmX7 rfl 0 rfl 19 (by decide) (by decide +kernel) rfl rfl (tyX7_ok 19 (by decide)) (bI_nar _) (bI_fit _) (Nat.le_of_ble_eq_true rfl) dX7_bends_34 (fun H locs S => ?_)
      have S : ST g A ss H locs [(M, ob 7 [.ref nw, .ref dr, .ref pa, .int ypa, .ref im, .ref ke, .ref fl, .ref fq, .int yfa, .ref te, .int yty, .int yat, .int yst, .int yso, .int yva, .ref ni, .ref re, .int 0, .int 1, .int (bI (decide (0 < lowN (nu 1) Rr b p n))), .int 0, .ref ma, .ref be]), (nw, aI g 41 gn), (ni, aI g 8 nf1), (re, aI g 8 ref1)] := S
      refine lv_iconst (v := 0) hx hb dX7_bends_37 (by decide) ?_
      refine lv_istore (lv' := [(4, .int 0), (0, .ref M), (1, .int (nI pk)), (2, .int (nI b)), (3, .int (nI p))]) hx hb dX7_bends_38 hl (by decide) rfl (fun ls hl => ?_)
      refine lv_iconst (v := 0) hx hb dX7_bends_40 (by decide) ?_
      refine lv_istore (lv' := [(5, .int 0), (4, .int 0), (0, .ref M), (1, .int (nI pk)), (2, .int (nI b)), (3, .int (nI p))]) hx hb dX7_bends_41 hl (by decide) rfl (fun ls hl => ?_)
      refine lv_iconst (v := 0) hx hb dX7_bends_43 (by decide) ?_
      refine lv_istore (lv' := [(6, .int 0), (5, .int 0), (4, .int 0), (0, .ref M), (1, .int (nI pk)), (2, .int (nI b)), (3, .int (nI p))]) hx hb dX7_bends_44 hl (by decide) rfl (fun ls hl => ?_)
      have loop46 : ∀ (N0 : Nat) (i : Nat) (s : Nat) (m : Nat) (ab : Nat) (bl : Nat), n - i < N0 → (i ≤ n) → (pr (nu 1) Rr b p i = (s, m)) → (ab = if s = 0 then 0 else p + m) → (bl = if s = 0 then 1 else s) → ∀ (H : Heap) (locs : List Loc) (ls : Array Slot), ST g A ss H locs [(M, ob 7 [.ref nw, .ref dr, .ref pa, .int ypa, .ref im, .ref ke, .ref fl, .ref fq, .int yfa, .ref te, .int yty, .int yat, .int yst, .int yso, .int yva, .ref ni, .ref re, .int (nI ab), .int (nI bl), .int (bI (decide (0 < lowN (nu 1) Rr b p n))), .int (nI s), .ref ma, .ref be]), (nw, aI g 41 gn), (ni, aI g 8 nf1), (re, aI g 8 ref1)] → lv_has ls 8 [(6, .int (nI i)), (5, .int (nI s)), (4, .int (nI m)), (0, .ref M), (1, .int (nI pk)), (2, .int (nI b)), (3, .int (nI p))] → W pp l ee { frames := 2, cells := 0, slots := 0, locals := 47 } ss mm ([.ref M, .int (nI pk), .int (nI b), .int (nI p)] : List Value).toArray bel mth cd H locs 0 0 (QV bel ([.ref M, .int (nI pk), .int (nI b), .int (nI p)] : List Value).toArray ss g A (fun (w' : va_W) => ∃ (nf' : Nat → Int32), ∃ (ref' : Nat → Int32), (∀ j, j < n → pk.testBit j = true → ref' j = nI (Rr j)) ∧ w' = [(M, ob 7 [.ref nw, .ref dr, .ref pa, .int ypa, .ref im, .ref ke, .ref fl, .ref fq, .int yfa, .ref te, .int yty, .int yat, .int yst, .int yso, .int yva, .ref ni, .ref re, .int (nI (abN (nu 1) Rr b p n)), .int (nI (beN (nu 1) Rr b p n)), .int (bI (decide (0 < lowN (nu 1) Rr b p n))), .int (nI ((pr (nu 1) Rr b p n).1)), .ref ma, .ref be]), (nw, aI g 41 gn), (ni, aI g 8 nf'), (re, aI g 8 ref')])) (F0 mm 46 ls []) := by
        intro N0
        induction N0 with
        | zero => intro i s m ab bl hN; exact absurd hN (Nat.not_lt_zero _)
        | succ N0 ih46 =>
          intro i s m ab bl hN hi hpr hab hbl H locs ls S hl
          have hB := pr_le (b := b) (p := p) (fun i9 h9 => (hst i9 h9).2) hRb i hi
          rw [hpr] at hB
          have hB1 : s ≤ 9 * i := hB.1
          have hB2 : m ≤ 2160 * i := hB.2
          refine lv_iload hx hb dX7_bends_46 (lv_at hl 0 rfl) ?_
          refine lv_aload_n hx hb dX7_bends_48 rfl (lv_at hl 3 rfl) ?_
          refine top_get C S inX7_bends_X7 rfl 0 rfl 0 (by decide) (by decide +kernel) rfl rfl dX7_bends_49 ?_
          refine lv_iconst (v := 0) hx hb dX7_bends_52 (by decide) ?_
          refine top_ild C S 1 rfl (j := 0) rfl (by omega) (by decide) dX7_bends_53 ?_
          refine top_eq (y := nI n) hg0 ?_
          refine bn_ige (tgt := 162) (a := i) (b := n) hx hb rfl rfl (by omega) (by omega) dX7_bends_54 (by decide) (fun c_12 => ?_) (fun c_12 => ?_)
          · -- 54 T
            have hin : i = n := by omega
            rw [hin] at hpr
            have hA : abN (nu 1) Rr b p n = ab := by unfold abN; rw [hpr]; exact hab.symm
            have hBn : beN (nu 1) Rr b p n = bl := by unfold beN; rw [hpr]; exact hbl.symm
            have hP1 : (pr (nu 1) Rr b p n).1 = s := by rw [hpr]
            exact ret_V C S hr dX7_bends_162 ⟨nf1, ref1, (hRe1), (by rw [hA, hBn, hP1])⟩
          · -- 54 F
            have e1 := hRb i (by omega)
            have e2 := hst i (by omega)
            have e3 : Rr i * s ≤ 240 * 72 := Nat.mul_le_mul e1 (by omega)
            refine lv_iload_n hx hb dX7_bends_57 rfl (lv_at hl 6 rfl) ?_
            refine bn_zle (tgt := 162) (a := p) hx hb rfl (by omega) dX7_bends_58 (by decide) (fun c_13 => ?_) (fun c_13 => ?_)
            · -- 58 T
              have hp0 : p = 0 := by omega
              have f1 : pr (nu 1) Rr b p n = (0, 0) := by rw [hp0]; exact pr_p0 n
              have f2 : (s, m) = (0, 0) := by rw [← hpr, hp0]; exact pr_p0 i
              have f3 : s = 0 := congrArg Prod.fst f2
              have hA : abN (nu 1) Rr b p n = ab := by unfold abN; rw [f1, hab, f3] <;> rfl
              have hBn : beN (nu 1) Rr b p n = bl := by unfold beN; rw [f1, hbl, f3] <;> rfl
              have hP1 : (pr (nu 1) Rr b p n).1 = s := by rw [f1, f3]
              exact ret_V C S hr dX7_bends_162 ⟨nf1, ref1, (hRe1), (by rw [hA, hBn, hP1])⟩
            · -- 58 F
              refine lv_iload_n hx hb dX7_bends_61 rfl (lv_at hl 5 rfl) ?_
              refine lv_iload hx hb dX7_bends_62 (lv_at hl 0 rfl) ?_
              refine after_I (wc := []) (y := yX7_has) C S (va_runS (As := [.int (nI b), .int (nI i)]) (rest := []) C.1 (kX7_has l g b i (by first | assumption | omega) (by first | assumption | omega) H.size) (va_cwS 2 hts gX7_bends_X7_has rfl rfl rfl (by decide +kernel) ⟨Nat.le_of_ble_eq_true rfl, Nat.le_of_ble_eq_true rfl⟩) (preS_at C S [] rfl (by decide)) rfl rfl hl.1 rfl (lv_room (Nat.le_of_ble_eq_true rfl)) dX7_bends_64 ⟨Nat.le_of_ble_eq_true rfl, Nat.le_of_ble_eq_true rfl⟩) [] [0, 1, 2, 3] rfl (wr := [(M, ob 7 [.ref nw, .ref dr, .ref pa, .int ypa, .ref im, .ref ke, .ref fl, .ref fq, .int yfa, .ref te, .int yty, .int yat, .int yst, .int yso, .int yva, .ref ni, .ref re, .int (nI ab), .int (nI bl), .int (bI (decide (0 < lowN (nu 1) Rr b p n))), .int (nI s), .ref ma, .ref be]), (nw, aI g 41 gn), (ni, aI g 8 nf1), (re, aI g 8 ref1)]) rfl (by decide) (by decide) (fun r0 w0 H locs hq S => ?_)
              obtain ⟨rfl, rfl⟩ := hq
              have S : ST g A ss H locs [(M, ob 7 [.ref nw, .ref dr, .ref pa, .int ypa, .ref im, .ref ke, .ref fl, .ref fq, .int yfa, .ref te, .int yty, .int yat, .int yst, .int yso, .int yva, .ref ni, .ref re, .int (nI ab), .int (nI bl), .int (bI (decide (0 < lowN (nu 1) Rr b p n))), .int (nI s), .ref ma, .ref be]), (nw, aI g 41 gn), (ni, aI g 8 nf1), (re, aI g 8 ref1)] := S
              refine br_eqB (tgt := 96) hx hb dX7_bends_67 (by decide) (fun c_14 => ?_) (fun c_14 => ?_)
              · -- 67 T
                refine lv_iconst (v := 0) hx hb dX7_bends_96 (by decide) ?_
                refine lv_istore (lv' := [(7, .int 0), (6, .int (nI i)), (5, .int (nI s)), (4, .int (nI m)), (0, .ref M), (1, .int (nI pk)), (2, .int (nI b)), (3, .int (nI p))]) hx hb dX7_bends_97 hl (by decide) rfl (fun ls hl => ?_)
                refine lv_iload hx hb dX7_bends_99 (lv_at hl 0 rfl) ?_
                refine bn_zeq (tgt := 156) (a := 0) hx hb rfl (by omega) dX7_bends_101 (by decide) (fun c_15 => ?_) (fun c_15 => ?_)
                · -- 101 T
                  refine lv_iinc (v := nI (i + 1)) (lv' := [(6, .int (nI (i + 1))), (7, .int 0), (5, .int (nI s)), (4, .int (nI m)), (0, .ref M), (1, .int (nI pk)), (2, .int (nI b)), (3, .int (nI p))]) hx hb dX7_bends_156 hl (k := 1) rfl (nI_add _ _) (by decide) rfl (fun ls hl => ?_)
                  refine lv_goto (tgt := 46) hx hb dX7_bends_159 (by decide) ?_
                  exact ih46 (i + 1) s m ab bl (by omega) (by first | assumption | omega) (by simp only [pr, hpr, if_neg (Bool.eq_false_iff.mp c_14)]) (hab) (hbl) H locs ls (ST.eq S (rfl)) (lv_sub hl [0, 2, 3, 4, 5, 6, 7] (rfl))
                · -- 101 F
                  exact absurd c_15 (by decide)
              · -- 67 F
                have hbi := c_14
                refine lv_iload hx hb dX7_bends_70 (lv_at hl 1 rfl) ?_
                refine bn_zeq (tgt := 92) (a := s) hx hb rfl (by omega) dX7_bends_72 (by decide) (fun c_16 => ?_) (fun c_16 => ?_)
                · -- 72 T
                  refine lv_iconst (v := 1) hx hb dX7_bends_92 (by decide) ?_
                  refine lv_goto (tgt := 97) hx hb dX7_bends_93 (by decide) ?_
                  refine lv_istore (lv' := [(7, .int 1), (6, .int (nI i)), (5, .int (nI s)), (4, .int (nI m)), (0, .ref M), (1, .int (nI pk)), (2, .int (nI b)), (3, .int (nI p))]) hx hb dX7_bends_97 hl (by decide) rfl (fun ls hl => ?_)
                  refine lv_iload hx hb dX7_bends_99 (lv_at hl 0 rfl) ?_
                  refine bn_zeq (tgt := 156) (a := 1) hx hb rfl (by omega) dX7_bends_101 (by decide) (fun c_17 => ?_) (fun c_17 => ?_)
                  · -- 101 T
                    exact absurd c_17 (by decide)
                  · -- 101 F
                    refine lv_iload hx hb dX7_bends_104 (lv_at hl 2 rfl) ?_
                    refine lv_aload_n hx hb dX7_bends_106 rfl (lv_at hl 4 rfl) ?_
                    refine lv_iload hx hb dX7_bends_107 (lv_at hl 1 rfl) ?_
                    refine lv_iconst (v := 2) hx hb dX7_bends_109 (by decide) ?_
                    refine after_I (wc := [(M, ob 7 [.ref nw, .ref dr, .ref pa, .int ypa, .ref im, .ref ke, .ref fl, .ref fq, .int yfa, .ref te, .int yty, .int yat, .int yst, .int yso, .int yva, .ref ni, .ref re, .int (nI ab), .int (nI bl), .int (bI (decide (0 < lowN (nu 1) Rr b p n))), .int (nI s), .ref ma, .ref be]), (nw, aI g 41 gn)]) (y := yX7_of) C S (va_runV (As := [.int (nI i), .int 2]) (rest := [.int (nI s)]) C.1 (kX7_of l g M nw dr pa im ke fl fq te ni re ma be ypa yfa yty yat yst yso yva (nI ab) (nI bl) (bI (decide (0 < lowN (nu 1) Rr b p n))) (nI s) gn i 2 (by first | assumption | omega) (by first | assumption | omega) H.size) (cwV 2 hts gX7_bends_X7_of rfl rfl rfl (by decide +kernel) ⟨Nat.le_of_ble_eq_true rfl, Nat.le_of_ble_eq_true rfl⟩) (preV_at C S 0 rfl rfl [0, 1] rfl (by decide)) rfl rfl hl.1 rfl (lv_room (Nat.le_of_ble_eq_true rfl)) dX7_bends_110 ⟨Nat.le_of_ble_eq_true rfl, Nat.le_of_ble_eq_true rfl⟩) [0, 1] [2, 3] rfl (wr := [(ni, aI g 8 nf1), (re, aI g 8 ref1)]) rfl (by decide) (by decide) (fun r0 w0 H locs hq S => ?_)
                    obtain ⟨rfl, rfl⟩ := hq
                    have S : ST g A ss H locs [(M, ob 7 [.ref nw, .ref dr, .ref pa, .int ypa, .ref im, .ref ke, .ref fl, .ref fq, .int yfa, .ref te, .int yty, .int yat, .int yst, .int yso, .int yva, .ref ni, .ref re, .int (nI ab), .int (nI bl), .int (bI (decide (0 < lowN (nu 1) Rr b p n))), .int (nI s), .ref ma, .ref be]), (nw, aI g 41 gn), (ni, aI g 8 nf1), (re, aI g 8 ref1)] := ST.sub S [2, 3, 0, 1] (by decide) rfl
                    refine top_eq (y := nI (nu 1 i)) (hgn 1 _ (by omega) (by omega)) ?_
                    refine lv_iadd hx hb dX7_bends_113 ?_
                    refine top_eq (y := nI (s + (nu 1 i))) (nI_add _ _) ?_
                    refine lv_istore (lv' := [(5, .int (nI (s + (nu 1 i)))), (7, .int 1), (6, .int (nI i)), (4, .int (nI m)), (0, .ref M), (1, .int (nI pk)), (2, .int (nI b)), (3, .int (nI p))]) hx hb dX7_bends_114 hl (by decide) rfl (fun ls hl => ?_)
                    refine lv_iload hx hb dX7_bends_116 (lv_at hl 3 rfl) ?_
                    refine lv_aload_n hx hb dX7_bends_118 rfl (lv_at hl 4 rfl) ?_
                    refine lv_iload hx hb dX7_bends_119 (lv_at hl 2 rfl) ?_
                    refine lv_iconst (v := 2) hx hb dX7_bends_121 (by decide) ?_
                    refine after_I (wc := [(M, ob 7 [.ref nw, .ref dr, .ref pa, .int ypa, .ref im, .ref ke, .ref fl, .ref fq, .int yfa, .ref te, .int yty, .int yat, .int yst, .int yso, .int yva, .ref ni, .ref re, .int (nI ab), .int (nI bl), .int (bI (decide (0 < lowN (nu 1) Rr b p n))), .int (nI s), .ref ma, .ref be]), (nw, aI g 41 gn)]) (y := yX7_of) C S (va_runV (As := [.int (nI i), .int 2]) (rest := [.int (nI m)]) C.1 (kX7_of l g M nw dr pa im ke fl fq te ni re ma be ypa yfa yty yat yst yso yva (nI ab) (nI bl) (bI (decide (0 < lowN (nu 1) Rr b p n))) (nI s) gn i 2 (by first | assumption | omega) (by first | assumption | omega) H.size) (cwV 2 hts gX7_bends_X7_of rfl rfl rfl (by decide +kernel) ⟨Nat.le_of_ble_eq_true rfl, Nat.le_of_ble_eq_true rfl⟩) (preV_at C S 0 rfl rfl [0, 1] rfl (by decide)) rfl rfl hl.1 rfl (lv_room (Nat.le_of_ble_eq_true rfl)) dX7_bends_122 ⟨Nat.le_of_ble_eq_true rfl, Nat.le_of_ble_eq_true rfl⟩) [0, 1] [2, 3] rfl (wr := [(ni, aI g 8 nf1), (re, aI g 8 ref1)]) rfl (by decide) (by decide) (fun r0 w0 H locs hq S => ?_)
                    obtain ⟨rfl, rfl⟩ := hq
                    have S : ST g A ss H locs [(M, ob 7 [.ref nw, .ref dr, .ref pa, .int ypa, .ref im, .ref ke, .ref fl, .ref fq, .int yfa, .ref te, .int yty, .int yat, .int yst, .int yso, .int yva, .ref ni, .ref re, .int (nI ab), .int (nI bl), .int (bI (decide (0 < lowN (nu 1) Rr b p n))), .int (nI s), .ref ma, .ref be]), (nw, aI g 41 gn), (ni, aI g 8 nf1), (re, aI g 8 ref1)] := ST.sub S [2, 3, 0, 1] (by decide) rfl
                    refine top_eq (y := nI (nu 1 i)) (hgn 1 _ (by omega) (by omega)) ?_
                    refine lv_aload_n hx hb dX7_bends_125 rfl (lv_at hl 4 rfl) ?_
                    refine top_get C S inX7_bends_X7 rfl 0 rfl 16 (by decide) (by decide +kernel) rfl rfl dX7_bends_126 ?_
                    refine lv_iload hx hb dX7_bends_129 (lv_at hl 2 rfl) ?_
                    refine top_ild C S 3 rfl (j := i) rfl (by omega) (by decide) dX7_bends_131 ?_
                    refine top_eq (y := nI (Rr i)) (hRe1 i (by omega) (hsub i (by omega) hbi)) ?_
                    refine lv_imul hx hb dX7_bends_132 ?_
                    refine top_eq (y := nI ((nu 1 i) * (Rr i))) (pk_mul _ _) ?_
                    refine lv_iadd hx hb dX7_bends_133 ?_
                    refine top_eq (y := nI (m + ((nu 1 i) * (Rr i)))) (nI_add _ _) ?_
                    refine lv_istore (lv' := [(4, .int (nI (m + ((nu 1 i) * (Rr i))))), (5, .int (nI (s + (nu 1 i)))), (7, .int 1), (6, .int (nI i)), (0, .ref M), (1, .int (nI pk)), (2, .int (nI b)), (3, .int (nI p))]) hx hb dX7_bends_134 hl (by decide) rfl (fun ls hl => ?_)
                    refine lv_aload_n hx hb dX7_bends_136 rfl (lv_at hl 4 rfl) ?_
                    refine lv_iload_n hx hb dX7_bends_137 rfl (lv_at hl 7 rfl) ?_
                    refine lv_iload hx hb dX7_bends_138 (lv_at hl 0 rfl) ?_
                    refine lv_iadd hx hb dX7_bends_140 ?_
                    refine top_eq (y := nI (p + (m + ((nu 1 i) * (Rr i))))) (nI_add _ _) ?_
                    refine top_put (ty := .int) C S inX7_bends_X7 tyX7 tyX7_ok nmX7 rfl 0 rfl 17 (by decide) (by decide +kernel) rfl rfl (tyX7_ok 17 (by decide)) rfl rfl (Nat.le_of_ble_eq_true rfl) dX7_bends_141 (fun H locs S => ?_)
                    have S : ST g A ss H locs [(M, ob 7 [.ref nw, .ref dr, .ref pa, .int ypa, .ref im, .ref ke, .ref fl, .ref fq, .int yfa, .ref te, .int yty, .int yat, .int yst, .int yso, .int yva, .ref ni, .ref re, .int (nI (p + (m + ((nu 1 i) * (Rr i))))), .int (nI bl), .int (bI (decide (0 < lowN (nu 1) Rr b p n))), .int (nI s), .ref ma, .ref be]), (nw, aI g 41 gn), (ni, aI g 8 nf1), (re, aI g 8 ref1)] := S
                    refine lv_aload_n hx hb dX7_bends_144 rfl (lv_at hl 4 rfl) ?_
                    refine lv_iload hx hb dX7_bends_145 (lv_at hl 1 rfl) ?_
                    refine top_put (ty := .int) C S inX7_bends_X7 tyX7 tyX7_ok nmX7 rfl 0 rfl 18 (by decide) (by decide +kernel) rfl rfl (tyX7_ok 18 (by decide)) rfl rfl (Nat.le_of_ble_eq_true rfl) dX7_bends_147 (fun H locs S => ?_)
                    have S : ST g A ss H locs [(M, ob 7 [.ref nw, .ref dr, .ref pa, .int ypa, .ref im, .ref ke, .ref fl, .ref fq, .int yfa, .ref te, .int yty, .int yat, .int yst, .int yso, .int yva, .ref ni, .ref re, .int (nI (p + (m + ((nu 1 i) * (Rr i))))), .int (nI (s + (nu 1 i))), .int (bI (decide (0 < lowN (nu 1) Rr b p n))), .int (nI s), .ref ma, .ref be]), (nw, aI g 41 gn), (ni, aI g 8 nf1), (re, aI g 8 ref1)] := S
                    refine lv_aload_n hx hb dX7_bends_150 rfl (lv_at hl 4 rfl) ?_
                    refine lv_iload hx hb dX7_bends_151 (lv_at hl 1 rfl) ?_
                    refine top_put (ty := .int) C S inX7_bends_X7 tyX7 tyX7_ok nmX7 rfl 0 rfl 20 (by decide) (by decide +kernel) rfl rfl (tyX7_ok 20 (by decide)) rfl rfl (Nat.le_of_ble_eq_true rfl) dX7_bends_153 (fun H locs S => ?_)
                    have S : ST g A ss H locs [(M, ob 7 [.ref nw, .ref dr, .ref pa, .int ypa, .ref im, .ref ke, .ref fl, .ref fq, .int yfa, .ref te, .int yty, .int yat, .int yst, .int yso, .int yva, .ref ni, .ref re, .int (nI (p + (m + ((nu 1 i) * (Rr i))))), .int (nI (s + (nu 1 i))), .int (bI (decide (0 < lowN (nu 1) Rr b p n))), .int (nI (s + (nu 1 i))), .ref ma, .ref be]), (nw, aI g 41 gn), (ni, aI g 8 nf1), (re, aI g 8 ref1)] := S
                    refine lv_iinc (v := nI (i + 1)) (lv' := [(6, .int (nI (i + 1))), (4, .int (nI (m + ((nu 1 i) * (Rr i))))), (5, .int (nI (s + (nu 1 i)))), (7, .int 1), (0, .ref M), (1, .int (nI pk)), (2, .int (nI b)), (3, .int (nI p))]) hx hb dX7_bends_156 hl (k := 3) rfl (nI_add _ _) (by decide) rfl (fun ls hl => ?_)
                    refine lv_goto (tgt := 46) hx hb dX7_bends_159 (by decide) ?_
                    exact ih46 (i + 1) (s + (nu 1 i)) (m + ((nu 1 i) * (Rr i))) (p + (m + ((nu 1 i) * (Rr i)))) (s + (nu 1 i)) (by omega) (by first | assumption | omega) (by simp only [pr, hpr, if_pos c_14, if_neg (fun q9 : p + m ≤ s * Rr i => by rw [c_16] at q9; omega)]) (by rw [if_neg (by omega)]) (by rw [if_neg (by omega)]) H locs ls (ST.eq S (rfl)) (lv_sub hl [0, 2, 1, 4, 5, 6, 7] (rfl))
                · -- 72 F
                  refine lv_iload_n hx hb dX7_bends_75 rfl (lv_at hl 6 rfl) ?_
                  refine lv_iload hx hb dX7_bends_76 (lv_at hl 2 rfl) ?_
                  refine lv_iadd hx hb dX7_bends_78 ?_
                  refine top_eq (y := nI (p + m)) (nI_add _ _) ?_
                  refine lv_aload_n hx hb dX7_bends_79 rfl (lv_at hl 3 rfl) ?_
                  refine top_get C S inX7_bends_X7 rfl 0 rfl 16 (by decide) (by decide +kernel) rfl rfl dX7_bends_80 ?_
                  refine lv_iload hx hb dX7_bends_83 (lv_at hl 0 rfl) ?_
                  refine top_ild C S 3 rfl (j := i) rfl (by omega) (by decide) dX7_bends_85 ?_
                  refine top_eq (y := nI (Rr i)) (hRe1 i (by omega) (hsub i (by omega) hbi)) ?_
                  refine lv_iload hx hb dX7_bends_86 (lv_at hl 1 rfl) ?_
                  refine lv_imul hx hb dX7_bends_88 ?_
                  refine top_eq (y := nI ((Rr i) * s)) (pk_mul _ _) ?_
                  refine bn_ile (tgt := 96) (a := p + m) (b := (Rr i) * s) hx hb rfl rfl (by omega) (by omega) dX7_bends_89 (by decide) (fun c_18 => ?_) (fun c_18 => ?_)
                  · -- 89 T
                    refine lv_iconst (v := 0) hx hb dX7_bends_96 (by decide) ?_
                    refine lv_istore (lv' := [(7, .int 0), (6, .int (nI i)), (5, .int (nI s)), (4, .int (nI m)), (0, .ref M), (1, .int (nI pk)), (2, .int (nI b)), (3, .int (nI p))]) hx hb dX7_bends_97 hl (by decide) rfl (fun ls hl => ?_)
                    refine lv_iload hx hb dX7_bends_99 (lv_at hl 0 rfl) ?_
                    refine bn_zeq (tgt := 156) (a := 0) hx hb rfl (by omega) dX7_bends_101 (by decide) (fun c_19 => ?_) (fun c_19 => ?_)
                    · -- 101 T
                      refine lv_iinc (v := nI (i + 1)) (lv' := [(6, .int (nI (i + 1))), (7, .int 0), (5, .int (nI s)), (4, .int (nI m)), (0, .ref M), (1, .int (nI pk)), (2, .int (nI b)), (3, .int (nI p))]) hx hb dX7_bends_156 hl (k := 1) rfl (nI_add _ _) (by decide) rfl (fun ls hl => ?_)
                      refine lv_goto (tgt := 46) hx hb dX7_bends_159 (by decide) ?_
                      exact ih46 (i + 1) s m ab bl (by omega) (by first | assumption | omega) (by simp only [pr, hpr, if_pos c_14, if_pos (show p + m ≤ s * Rr i by rw [Nat.mul_comm]; exact c_18)]) (hab) (hbl) H locs ls (ST.eq S (rfl)) (lv_sub hl [0, 2, 3, 4, 5, 6, 7] (rfl))
                    · -- 101 F
                      exact absurd c_19 (by decide)
                  · -- 89 F
                    refine lv_iconst (v := 1) hx hb dX7_bends_92 (by decide) ?_
                    refine lv_goto (tgt := 97) hx hb dX7_bends_93 (by decide) ?_
                    refine lv_istore (lv' := [(7, .int 1), (6, .int (nI i)), (5, .int (nI s)), (4, .int (nI m)), (0, .ref M), (1, .int (nI pk)), (2, .int (nI b)), (3, .int (nI p))]) hx hb dX7_bends_97 hl (by decide) rfl (fun ls hl => ?_)
                    refine lv_iload hx hb dX7_bends_99 (lv_at hl 0 rfl) ?_
                    refine bn_zeq (tgt := 156) (a := 1) hx hb rfl (by omega) dX7_bends_101 (by decide) (fun c_20 => ?_) (fun c_20 => ?_)
                    · -- 101 T
                      exact absurd c_20 (by decide)
                    · -- 101 F
                      refine lv_iload hx hb dX7_bends_104 (lv_at hl 2 rfl) ?_
                      refine lv_aload_n hx hb dX7_bends_106 rfl (lv_at hl 4 rfl) ?_
                      refine lv_iload hx hb dX7_bends_107 (lv_at hl 1 rfl) ?_
                      refine lv_iconst (v := 2) hx hb dX7_bends_109 (by decide) ?_
                      refine after_I (wc := [(M, ob 7 [.ref nw, .ref dr, .ref pa, .int ypa, .ref im, .ref ke, .ref fl, .ref fq, .int yfa, .ref te, .int yty, .int yat, .int yst, .int yso, .int yva, .ref ni, .ref re, .int (nI ab), .int (nI bl), .int (bI (decide (0 < lowN (nu 1) Rr b p n))), .int (nI s), .ref ma, .ref be]), (nw, aI g 41 gn)]) (y := yX7_of) C S (va_runV (As := [.int (nI i), .int 2]) (rest := [.int (nI s)]) C.1 (kX7_of l g M nw dr pa im ke fl fq te ni re ma be ypa yfa yty yat yst yso yva (nI ab) (nI bl) (bI (decide (0 < lowN (nu 1) Rr b p n))) (nI s) gn i 2 (by first | assumption | omega) (by first | assumption | omega) H.size) (cwV 2 hts gX7_bends_X7_of rfl rfl rfl (by decide +kernel) ⟨Nat.le_of_ble_eq_true rfl, Nat.le_of_ble_eq_true rfl⟩) (preV_at C S 0 rfl rfl [0, 1] rfl (by decide)) rfl rfl hl.1 rfl (lv_room (Nat.le_of_ble_eq_true rfl)) dX7_bends_110 ⟨Nat.le_of_ble_eq_true rfl, Nat.le_of_ble_eq_true rfl⟩) [0, 1] [2, 3] rfl (wr := [(ni, aI g 8 nf1), (re, aI g 8 ref1)]) rfl (by decide) (by decide) (fun r0 w0 H locs hq S => ?_)
                      obtain ⟨rfl, rfl⟩ := hq
                      have S : ST g A ss H locs [(M, ob 7 [.ref nw, .ref dr, .ref pa, .int ypa, .ref im, .ref ke, .ref fl, .ref fq, .int yfa, .ref te, .int yty, .int yat, .int yst, .int yso, .int yva, .ref ni, .ref re, .int (nI ab), .int (nI bl), .int (bI (decide (0 < lowN (nu 1) Rr b p n))), .int (nI s), .ref ma, .ref be]), (nw, aI g 41 gn), (ni, aI g 8 nf1), (re, aI g 8 ref1)] := ST.sub S [2, 3, 0, 1] (by decide) rfl
                      refine top_eq (y := nI (nu 1 i)) (hgn 1 _ (by omega) (by omega)) ?_
                      refine lv_iadd hx hb dX7_bends_113 ?_
                      refine top_eq (y := nI (s + (nu 1 i))) (nI_add _ _) ?_
                      refine lv_istore (lv' := [(5, .int (nI (s + (nu 1 i)))), (7, .int 1), (6, .int (nI i)), (4, .int (nI m)), (0, .ref M), (1, .int (nI pk)), (2, .int (nI b)), (3, .int (nI p))]) hx hb dX7_bends_114 hl (by decide) rfl (fun ls hl => ?_)
                      refine lv_iload hx hb dX7_bends_116 (lv_at hl 3 rfl) ?_
                      refine lv_aload_n hx hb dX7_bends_118 rfl (lv_at hl 4 rfl) ?_
                      refine lv_iload hx hb dX7_bends_119 (lv_at hl 2 rfl) ?_
                      refine lv_iconst (v := 2) hx hb dX7_bends_121 (by decide) ?_
                      refine after_I (wc := [(M, ob 7 [.ref nw, .ref dr, .ref pa, .int ypa, .ref im, .ref ke, .ref fl, .ref fq, .int yfa, .ref te, .int yty, .int yat, .int yst, .int yso, .int yva, .ref ni, .ref re, .int (nI ab), .int (nI bl), .int (bI (decide (0 < lowN (nu 1) Rr b p n))), .int (nI s), .ref ma, .ref be]), (nw, aI g 41 gn)]) (y := yX7_of) C S (va_runV (As := [.int (nI i), .int 2]) (rest := [.int (nI m)]) C.1 (kX7_of l g M nw dr pa im ke fl fq te ni re ma be ypa yfa yty yat yst yso yva (nI ab) (nI bl) (bI (decide (0 < lowN (nu 1) Rr b p n))) (nI s) gn i 2 (by first | assumption | omega) (by first | assumption | omega) H.size) (cwV 2 hts gX7_bends_X7_of rfl rfl rfl (by decide +kernel) ⟨Nat.le_of_ble_eq_true rfl, Nat.le_of_ble_eq_true rfl⟩) (preV_at C S 0 rfl rfl [0, 1] rfl (by decide)) rfl rfl hl.1 rfl (lv_room (Nat.le_of_ble_eq_true rfl)) dX7_bends_122 ⟨Nat.le_of_ble_eq_true rfl, Nat.le_of_ble_eq_true rfl⟩) [0, 1] [2, 3] rfl (wr := [(ni, aI g 8 nf1), (re, aI g 8 ref1)]) rfl (by decide) (by decide) (fun r0 w0 H locs hq S => ?_)
                      obtain ⟨rfl, rfl⟩ := hq
                      have S : ST g A ss H locs [(M, ob 7 [.ref nw, .ref dr, .ref pa, .int ypa, .ref im, .ref ke, .ref fl, .ref fq, .int yfa, .ref te, .int yty, .int yat, .int yst, .int yso, .int yva, .ref ni, .ref re, .int (nI ab), .int (nI bl), .int (bI (decide (0 < lowN (nu 1) Rr b p n))), .int (nI s), .ref ma, .ref be]), (nw, aI g 41 gn), (ni, aI g 8 nf1), (re, aI g 8 ref1)] := ST.sub S [2, 3, 0, 1] (by decide) rfl
                      refine top_eq (y := nI (nu 1 i)) (hgn 1 _ (by omega) (by omega)) ?_
                      refine lv_aload_n hx hb dX7_bends_125 rfl (lv_at hl 4 rfl) ?_
                      refine top_get C S inX7_bends_X7 rfl 0 rfl 16 (by decide) (by decide +kernel) rfl rfl dX7_bends_126 ?_
                      refine lv_iload hx hb dX7_bends_129 (lv_at hl 2 rfl) ?_
                      refine top_ild C S 3 rfl (j := i) rfl (by omega) (by decide) dX7_bends_131 ?_
                      refine top_eq (y := nI (Rr i)) (hRe1 i (by omega) (hsub i (by omega) hbi)) ?_
                      refine lv_imul hx hb dX7_bends_132 ?_
                      refine top_eq (y := nI ((nu 1 i) * (Rr i))) (pk_mul _ _) ?_
                      refine lv_iadd hx hb dX7_bends_133 ?_
                      refine top_eq (y := nI (m + ((nu 1 i) * (Rr i)))) (nI_add _ _) ?_
                      refine lv_istore (lv' := [(4, .int (nI (m + ((nu 1 i) * (Rr i))))), (5, .int (nI (s + (nu 1 i)))), (7, .int 1), (6, .int (nI i)), (0, .ref M), (1, .int (nI pk)), (2, .int (nI b)), (3, .int (nI p))]) hx hb dX7_bends_134 hl (by decide) rfl (fun ls hl => ?_)
                      refine lv_aload_n hx hb dX7_bends_136 rfl (lv_at hl 4 rfl) ?_
                      refine lv_iload_n hx hb dX7_bends_137 rfl (lv_at hl 7 rfl) ?_
                      refine lv_iload hx hb dX7_bends_138 (lv_at hl 0 rfl) ?_
                      refine lv_iadd hx hb dX7_bends_140 ?_
                      refine top_eq (y := nI (p + (m + ((nu 1 i) * (Rr i))))) (nI_add _ _) ?_
                      refine top_put (ty := .int) C S inX7_bends_X7 tyX7 tyX7_ok nmX7 rfl 0 rfl 17 (by decide) (by decide +kernel) rfl rfl (tyX7_ok 17 (by decide)) rfl rfl (Nat.le_of_ble_eq_true rfl) dX7_bends_141 (fun H locs S => ?_)
                      have S : ST g A ss H locs [(M, ob 7 [.ref nw, .ref dr, .ref pa, .int ypa, .ref im, .ref ke, .ref fl, .ref fq, .int yfa, .ref te, .int yty, .int yat, .int yst, .int yso, .int yva, .ref ni, .ref re, .int (nI (p + (m + ((nu 1 i) * (Rr i))))), .int (nI bl), .int (bI (decide (0 < lowN (nu 1) Rr b p n))), .int (nI s), .ref ma, .ref be]), (nw, aI g 41 gn), (ni, aI g 8 nf1), (re, aI g 8 ref1)] := S
                      refine lv_aload_n hx hb dX7_bends_144 rfl (lv_at hl 4 rfl) ?_
                      refine lv_iload hx hb dX7_bends_145 (lv_at hl 1 rfl) ?_
                      refine top_put (ty := .int) C S inX7_bends_X7 tyX7 tyX7_ok nmX7 rfl 0 rfl 18 (by decide) (by decide +kernel) rfl rfl (tyX7_ok 18 (by decide)) rfl rfl (Nat.le_of_ble_eq_true rfl) dX7_bends_147 (fun H locs S => ?_)
                      have S : ST g A ss H locs [(M, ob 7 [.ref nw, .ref dr, .ref pa, .int ypa, .ref im, .ref ke, .ref fl, .ref fq, .int yfa, .ref te, .int yty, .int yat, .int yst, .int yso, .int yva, .ref ni, .ref re, .int (nI (p + (m + ((nu 1 i) * (Rr i))))), .int (nI (s + (nu 1 i))), .int (bI (decide (0 < lowN (nu 1) Rr b p n))), .int (nI s), .ref ma, .ref be]), (nw, aI g 41 gn), (ni, aI g 8 nf1), (re, aI g 8 ref1)] := S
                      refine lv_aload_n hx hb dX7_bends_150 rfl (lv_at hl 4 rfl) ?_
                      refine lv_iload hx hb dX7_bends_151 (lv_at hl 1 rfl) ?_
                      refine top_put (ty := .int) C S inX7_bends_X7 tyX7 tyX7_ok nmX7 rfl 0 rfl 20 (by decide) (by decide +kernel) rfl rfl (tyX7_ok 20 (by decide)) rfl rfl (Nat.le_of_ble_eq_true rfl) dX7_bends_153 (fun H locs S => ?_)
                      have S : ST g A ss H locs [(M, ob 7 [.ref nw, .ref dr, .ref pa, .int ypa, .ref im, .ref ke, .ref fl, .ref fq, .int yfa, .ref te, .int yty, .int yat, .int yst, .int yso, .int yva, .ref ni, .ref re, .int (nI (p + (m + ((nu 1 i) * (Rr i))))), .int (nI (s + (nu 1 i))), .int (bI (decide (0 < lowN (nu 1) Rr b p n))), .int (nI (s + (nu 1 i))), .ref ma, .ref be]), (nw, aI g 41 gn), (ni, aI g 8 nf1), (re, aI g 8 ref1)] := S
                      refine lv_iinc (v := nI (i + 1)) (lv' := [(6, .int (nI (i + 1))), (4, .int (nI (m + ((nu 1 i) * (Rr i))))), (5, .int (nI (s + (nu 1 i)))), (7, .int 1), (0, .ref M), (1, .int (nI pk)), (2, .int (nI b)), (3, .int (nI p))]) hx hb dX7_bends_156 hl (k := 3) rfl (nI_add _ _) (by decide) rfl (fun ls hl => ?_)
                      refine lv_goto (tgt := 46) hx hb dX7_bends_159 (by decide) ?_
                      exact ih46 (i + 1) (s + (nu 1 i)) (m + ((nu 1 i) * (Rr i))) (p + (m + ((nu 1 i) * (Rr i)))) (s + (nu 1 i)) (by omega) (by first | assumption | omega) (by simp only [pr, hpr, if_pos c_14, if_neg (fun q9 : p + m ≤ s * Rr i => c_18 (by rw [Nat.mul_comm]; exact q9))]) (by rw [if_neg (by omega)]) (by rw [if_neg (by omega)]) H locs ls (ST.eq S (rfl)) (lv_sub hl [0, 2, 1, 4, 5, 6, 7] (rfl))
      exact loop46 _ 0 0 0 0 1 (Nat.lt_succ_self _) (by first | assumption | omega) (rfl) (rfl) (rfl) H locs ls (ST.eq S (rfl)) (lv_sub hl [0, 1, 2, 3, 4, 5, 6] (rfl))
    · -- 26 F
      refine lv_iconst (v := 1) hx hb dX7_bends_29 (by decide) ?_
      refine lv_goto (tgt := 34) hx hb dX7_bends_30 (by decide) ?_
      refine top_eq (y := bI (decide (0 < lowN (nu 1) Rr b p n))) (by rw [decide_eq_true ((bent (fun i9 h9 => (hst i9 h9).1) hb9).mpr (Or.inr c_11))] <;> rfl) ?_
      refine top_put (ty := .boolean) C S inX7_bends_X7 tyX7 tyX7_ok nmX7 rfl 0 rfl 19 (by decide) (by decide +kernel) rfl rfl (tyX7_ok 19 (by decide)) (bI_nar _) (bI_fit _) (Nat.le_of_ble_eq_true rfl) dX7_bends_34 (fun H locs S => ?_)
      have S : ST g A ss H locs [(M, ob 7 [.ref nw, .ref dr, .ref pa, .int ypa, .ref im, .ref ke, .ref fl, .ref fq, .int yfa, .ref te, .int yty, .int yat, .int yst, .int yso, .int yva, .ref ni, .ref re, .int 0, .int 1, .int (bI (decide (0 < lowN (nu 1) Rr b p n))), .int 0, .ref ma, .ref be]), (nw, aI g 41 gn), (ni, aI g 8 nf1), (re, aI g 8 ref1)] := S
      refine lv_iconst (v := 0) hx hb dX7_bends_37 (by decide) ?_
      refine lv_istore (lv' := [(4, .int 0), (0, .ref M), (1, .int (nI pk)), (2, .int (nI b)), (3, .int (nI p))]) hx hb dX7_bends_38 hl (by decide) rfl (fun ls hl => ?_)
      refine lv_iconst (v := 0) hx hb dX7_bends_40 (by decide) ?_
      refine lv_istore (lv' := [(5, .int 0), (4, .int 0), (0, .ref M), (1, .int (nI pk)), (2, .int (nI b)), (3, .int (nI p))]) hx hb dX7_bends_41 hl (by decide) rfl (fun ls hl => ?_)
      refine lv_iconst (v := 0) hx hb dX7_bends_43 (by decide) ?_
      refine lv_istore (lv' := [(6, .int 0), (5, .int 0), (4, .int 0), (0, .ref M), (1, .int (nI pk)), (2, .int (nI b)), (3, .int (nI p))]) hx hb dX7_bends_44 hl (by decide) rfl (fun ls hl => ?_)
      have loop46 : ∀ (N0 : Nat) (i : Nat) (s : Nat) (m : Nat) (ab : Nat) (bl : Nat), n - i < N0 → (i ≤ n) → (pr (nu 1) Rr b p i = (s, m)) → (ab = if s = 0 then 0 else p + m) → (bl = if s = 0 then 1 else s) → ∀ (H : Heap) (locs : List Loc) (ls : Array Slot), ST g A ss H locs [(M, ob 7 [.ref nw, .ref dr, .ref pa, .int ypa, .ref im, .ref ke, .ref fl, .ref fq, .int yfa, .ref te, .int yty, .int yat, .int yst, .int yso, .int yva, .ref ni, .ref re, .int (nI ab), .int (nI bl), .int (bI (decide (0 < lowN (nu 1) Rr b p n))), .int (nI s), .ref ma, .ref be]), (nw, aI g 41 gn), (ni, aI g 8 nf1), (re, aI g 8 ref1)] → lv_has ls 8 [(6, .int (nI i)), (5, .int (nI s)), (4, .int (nI m)), (0, .ref M), (1, .int (nI pk)), (2, .int (nI b)), (3, .int (nI p))] → W pp l ee { frames := 2, cells := 0, slots := 0, locals := 47 } ss mm ([.ref M, .int (nI pk), .int (nI b), .int (nI p)] : List Value).toArray bel mth cd H locs 0 0 (QV bel ([.ref M, .int (nI pk), .int (nI b), .int (nI p)] : List Value).toArray ss g A (fun (w' : va_W) => ∃ (nf' : Nat → Int32), ∃ (ref' : Nat → Int32), (∀ j, j < n → pk.testBit j = true → ref' j = nI (Rr j)) ∧ w' = [(M, ob 7 [.ref nw, .ref dr, .ref pa, .int ypa, .ref im, .ref ke, .ref fl, .ref fq, .int yfa, .ref te, .int yty, .int yat, .int yst, .int yso, .int yva, .ref ni, .ref re, .int (nI (abN (nu 1) Rr b p n)), .int (nI (beN (nu 1) Rr b p n)), .int (bI (decide (0 < lowN (nu 1) Rr b p n))), .int (nI ((pr (nu 1) Rr b p n).1)), .ref ma, .ref be]), (nw, aI g 41 gn), (ni, aI g 8 nf'), (re, aI g 8 ref')])) (F0 mm 46 ls []) := by
        intro N0
        induction N0 with
        | zero => intro i s m ab bl hN; exact absurd hN (Nat.not_lt_zero _)
        | succ N0 ih46 =>
          intro i s m ab bl hN hi hpr hab hbl H locs ls S hl
          have hB := pr_le (b := b) (p := p) (fun i9 h9 => (hst i9 h9).2) hRb i hi
          rw [hpr] at hB
          have hB1 : s ≤ 9 * i := hB.1
          have hB2 : m ≤ 2160 * i := hB.2
          refine lv_iload hx hb dX7_bends_46 (lv_at hl 0 rfl) ?_
          refine lv_aload_n hx hb dX7_bends_48 rfl (lv_at hl 3 rfl) ?_
          refine top_get C S inX7_bends_X7 rfl 0 rfl 0 (by decide) (by decide +kernel) rfl rfl dX7_bends_49 ?_
          refine lv_iconst (v := 0) hx hb dX7_bends_52 (by decide) ?_
          refine top_ild C S 1 rfl (j := 0) rfl (by omega) (by decide) dX7_bends_53 ?_
          refine top_eq (y := nI n) hg0 ?_
          refine bn_ige (tgt := 162) (a := i) (b := n) hx hb rfl rfl (by omega) (by omega) dX7_bends_54 (by decide) (fun c_21 => ?_) (fun c_21 => ?_)
          · -- 54 T
            have hin : i = n := by omega
            rw [hin] at hpr
            have hA : abN (nu 1) Rr b p n = ab := by unfold abN; rw [hpr]; exact hab.symm
            have hBn : beN (nu 1) Rr b p n = bl := by unfold beN; rw [hpr]; exact hbl.symm
            have hP1 : (pr (nu 1) Rr b p n).1 = s := by rw [hpr]
            exact ret_V C S hr dX7_bends_162 ⟨nf1, ref1, (hRe1), (by rw [hA, hBn, hP1])⟩
          · -- 54 F
            have e1 := hRb i (by omega)
            have e2 := hst i (by omega)
            have e3 : Rr i * s ≤ 240 * 72 := Nat.mul_le_mul e1 (by omega)
            refine lv_iload_n hx hb dX7_bends_57 rfl (lv_at hl 6 rfl) ?_
            refine bn_zle (tgt := 162) (a := p) hx hb rfl (by omega) dX7_bends_58 (by decide) (fun c_22 => ?_) (fun c_22 => ?_)
            · -- 58 T
              have hp0 : p = 0 := by omega
              have f1 : pr (nu 1) Rr b p n = (0, 0) := by rw [hp0]; exact pr_p0 n
              have f2 : (s, m) = (0, 0) := by rw [← hpr, hp0]; exact pr_p0 i
              have f3 : s = 0 := congrArg Prod.fst f2
              have hA : abN (nu 1) Rr b p n = ab := by unfold abN; rw [f1, hab, f3] <;> rfl
              have hBn : beN (nu 1) Rr b p n = bl := by unfold beN; rw [f1, hbl, f3] <;> rfl
              have hP1 : (pr (nu 1) Rr b p n).1 = s := by rw [f1, f3]
              exact ret_V C S hr dX7_bends_162 ⟨nf1, ref1, (hRe1), (by rw [hA, hBn, hP1])⟩
            · -- 58 F
              refine lv_iload_n hx hb dX7_bends_61 rfl (lv_at hl 5 rfl) ?_
              refine lv_iload hx hb dX7_bends_62 (lv_at hl 0 rfl) ?_
              refine after_I (wc := []) (y := yX7_has) C S (va_runS (As := [.int (nI b), .int (nI i)]) (rest := []) C.1 (kX7_has l g b i (by first | assumption | omega) (by first | assumption | omega) H.size) (va_cwS 2 hts gX7_bends_X7_has rfl rfl rfl (by decide +kernel) ⟨Nat.le_of_ble_eq_true rfl, Nat.le_of_ble_eq_true rfl⟩) (preS_at C S [] rfl (by decide)) rfl rfl hl.1 rfl (lv_room (Nat.le_of_ble_eq_true rfl)) dX7_bends_64 ⟨Nat.le_of_ble_eq_true rfl, Nat.le_of_ble_eq_true rfl⟩) [] [0, 1, 2, 3] rfl (wr := [(M, ob 7 [.ref nw, .ref dr, .ref pa, .int ypa, .ref im, .ref ke, .ref fl, .ref fq, .int yfa, .ref te, .int yty, .int yat, .int yst, .int yso, .int yva, .ref ni, .ref re, .int (nI ab), .int (nI bl), .int (bI (decide (0 < lowN (nu 1) Rr b p n))), .int (nI s), .ref ma, .ref be]), (nw, aI g 41 gn), (ni, aI g 8 nf1), (re, aI g 8 ref1)]) rfl (by decide) (by decide) (fun r0 w0 H locs hq S => ?_)
              obtain ⟨rfl, rfl⟩ := hq
              have S : ST g A ss H locs [(M, ob 7 [.ref nw, .ref dr, .ref pa, .int ypa, .ref im, .ref ke, .ref fl, .ref fq, .int yfa, .ref te, .int yty, .int yat, .int yst, .int yso, .int yva, .ref ni, .ref re, .int (nI ab), .int (nI bl), .int (bI (decide (0 < lowN (nu 1) Rr b p n))), .int (nI s), .ref ma, .ref be]), (nw, aI g 41 gn), (ni, aI g 8 nf1), (re, aI g 8 ref1)] := S
              refine br_eqB (tgt := 96) hx hb dX7_bends_67 (by decide) (fun c_23 => ?_) (fun c_23 => ?_)
              · -- 67 T
                refine lv_iconst (v := 0) hx hb dX7_bends_96 (by decide) ?_
                refine lv_istore (lv' := [(7, .int 0), (6, .int (nI i)), (5, .int (nI s)), (4, .int (nI m)), (0, .ref M), (1, .int (nI pk)), (2, .int (nI b)), (3, .int (nI p))]) hx hb dX7_bends_97 hl (by decide) rfl (fun ls hl => ?_)
                refine lv_iload hx hb dX7_bends_99 (lv_at hl 0 rfl) ?_
                refine bn_zeq (tgt := 156) (a := 0) hx hb rfl (by omega) dX7_bends_101 (by decide) (fun c_24 => ?_) (fun c_24 => ?_)
                · -- 101 T
                  refine lv_iinc (v := nI (i + 1)) (lv' := [(6, .int (nI (i + 1))), (7, .int 0), (5, .int (nI s)), (4, .int (nI m)), (0, .ref M), (1, .int (nI pk)), (2, .int (nI b)), (3, .int (nI p))]) hx hb dX7_bends_156 hl (k := 1) rfl (nI_add _ _) (by decide) rfl (fun ls hl => ?_)
                  refine lv_goto (tgt := 46) hx hb dX7_bends_159 (by decide) ?_
                  exact ih46 (i + 1) s m ab bl (by omega) (by first | assumption | omega) (by simp only [pr, hpr, if_neg (Bool.eq_false_iff.mp c_23)]) (hab) (hbl) H locs ls (ST.eq S (rfl)) (lv_sub hl [0, 2, 3, 4, 5, 6, 7] (rfl))
                · -- 101 F
                  exact absurd c_24 (by decide)
              · -- 67 F
                have hbi := c_23
                refine lv_iload hx hb dX7_bends_70 (lv_at hl 1 rfl) ?_
                refine bn_zeq (tgt := 92) (a := s) hx hb rfl (by omega) dX7_bends_72 (by decide) (fun c_25 => ?_) (fun c_25 => ?_)
                · -- 72 T
                  refine lv_iconst (v := 1) hx hb dX7_bends_92 (by decide) ?_
                  refine lv_goto (tgt := 97) hx hb dX7_bends_93 (by decide) ?_
                  refine lv_istore (lv' := [(7, .int 1), (6, .int (nI i)), (5, .int (nI s)), (4, .int (nI m)), (0, .ref M), (1, .int (nI pk)), (2, .int (nI b)), (3, .int (nI p))]) hx hb dX7_bends_97 hl (by decide) rfl (fun ls hl => ?_)
                  refine lv_iload hx hb dX7_bends_99 (lv_at hl 0 rfl) ?_
                  refine bn_zeq (tgt := 156) (a := 1) hx hb rfl (by omega) dX7_bends_101 (by decide) (fun c_26 => ?_) (fun c_26 => ?_)
                  · -- 101 T
                    exact absurd c_26 (by decide)
                  · -- 101 F
                    refine lv_iload hx hb dX7_bends_104 (lv_at hl 2 rfl) ?_
                    refine lv_aload_n hx hb dX7_bends_106 rfl (lv_at hl 4 rfl) ?_
                    refine lv_iload hx hb dX7_bends_107 (lv_at hl 1 rfl) ?_
                    refine lv_iconst (v := 2) hx hb dX7_bends_109 (by decide) ?_
                    refine after_I (wc := [(M, ob 7 [.ref nw, .ref dr, .ref pa, .int ypa, .ref im, .ref ke, .ref fl, .ref fq, .int yfa, .ref te, .int yty, .int yat, .int yst, .int yso, .int yva, .ref ni, .ref re, .int (nI ab), .int (nI bl), .int (bI (decide (0 < lowN (nu 1) Rr b p n))), .int (nI s), .ref ma, .ref be]), (nw, aI g 41 gn)]) (y := yX7_of) C S (va_runV (As := [.int (nI i), .int 2]) (rest := [.int (nI s)]) C.1 (kX7_of l g M nw dr pa im ke fl fq te ni re ma be ypa yfa yty yat yst yso yva (nI ab) (nI bl) (bI (decide (0 < lowN (nu 1) Rr b p n))) (nI s) gn i 2 (by first | assumption | omega) (by first | assumption | omega) H.size) (cwV 2 hts gX7_bends_X7_of rfl rfl rfl (by decide +kernel) ⟨Nat.le_of_ble_eq_true rfl, Nat.le_of_ble_eq_true rfl⟩) (preV_at C S 0 rfl rfl [0, 1] rfl (by decide)) rfl rfl hl.1 rfl (lv_room (Nat.le_of_ble_eq_true rfl)) dX7_bends_110 ⟨Nat.le_of_ble_eq_true rfl, Nat.le_of_ble_eq_true rfl⟩) [0, 1] [2, 3] rfl (wr := [(ni, aI g 8 nf1), (re, aI g 8 ref1)]) rfl (by decide) (by decide) (fun r0 w0 H locs hq S => ?_)
                    obtain ⟨rfl, rfl⟩ := hq
                    have S : ST g A ss H locs [(M, ob 7 [.ref nw, .ref dr, .ref pa, .int ypa, .ref im, .ref ke, .ref fl, .ref fq, .int yfa, .ref te, .int yty, .int yat, .int yst, .int yso, .int yva, .ref ni, .ref re, .int (nI ab), .int (nI bl), .int (bI (decide (0 < lowN (nu 1) Rr b p n))), .int (nI s), .ref ma, .ref be]), (nw, aI g 41 gn), (ni, aI g 8 nf1), (re, aI g 8 ref1)] := ST.sub S [2, 3, 0, 1] (by decide) rfl
                    refine top_eq (y := nI (nu 1 i)) (hgn 1 _ (by omega) (by omega)) ?_
                    refine lv_iadd hx hb dX7_bends_113 ?_
                    refine top_eq (y := nI (s + (nu 1 i))) (nI_add _ _) ?_
                    refine lv_istore (lv' := [(5, .int (nI (s + (nu 1 i)))), (7, .int 1), (6, .int (nI i)), (4, .int (nI m)), (0, .ref M), (1, .int (nI pk)), (2, .int (nI b)), (3, .int (nI p))]) hx hb dX7_bends_114 hl (by decide) rfl (fun ls hl => ?_)
                    refine lv_iload hx hb dX7_bends_116 (lv_at hl 3 rfl) ?_
                    refine lv_aload_n hx hb dX7_bends_118 rfl (lv_at hl 4 rfl) ?_
                    refine lv_iload hx hb dX7_bends_119 (lv_at hl 2 rfl) ?_
                    refine lv_iconst (v := 2) hx hb dX7_bends_121 (by decide) ?_
                    refine after_I (wc := [(M, ob 7 [.ref nw, .ref dr, .ref pa, .int ypa, .ref im, .ref ke, .ref fl, .ref fq, .int yfa, .ref te, .int yty, .int yat, .int yst, .int yso, .int yva, .ref ni, .ref re, .int (nI ab), .int (nI bl), .int (bI (decide (0 < lowN (nu 1) Rr b p n))), .int (nI s), .ref ma, .ref be]), (nw, aI g 41 gn)]) (y := yX7_of) C S (va_runV (As := [.int (nI i), .int 2]) (rest := [.int (nI m)]) C.1 (kX7_of l g M nw dr pa im ke fl fq te ni re ma be ypa yfa yty yat yst yso yva (nI ab) (nI bl) (bI (decide (0 < lowN (nu 1) Rr b p n))) (nI s) gn i 2 (by first | assumption | omega) (by first | assumption | omega) H.size) (cwV 2 hts gX7_bends_X7_of rfl rfl rfl (by decide +kernel) ⟨Nat.le_of_ble_eq_true rfl, Nat.le_of_ble_eq_true rfl⟩) (preV_at C S 0 rfl rfl [0, 1] rfl (by decide)) rfl rfl hl.1 rfl (lv_room (Nat.le_of_ble_eq_true rfl)) dX7_bends_122 ⟨Nat.le_of_ble_eq_true rfl, Nat.le_of_ble_eq_true rfl⟩) [0, 1] [2, 3] rfl (wr := [(ni, aI g 8 nf1), (re, aI g 8 ref1)]) rfl (by decide) (by decide) (fun r0 w0 H locs hq S => ?_)
                    obtain ⟨rfl, rfl⟩ := hq
                    have S : ST g A ss H locs [(M, ob 7 [.ref nw, .ref dr, .ref pa, .int ypa, .ref im, .ref ke, .ref fl, .ref fq, .int yfa, .ref te, .int yty, .int yat, .int yst, .int yso, .int yva, .ref ni, .ref re, .int (nI ab), .int (nI bl), .int (bI (decide (0 < lowN (nu 1) Rr b p n))), .int (nI s), .ref ma, .ref be]), (nw, aI g 41 gn), (ni, aI g 8 nf1), (re, aI g 8 ref1)] := ST.sub S [2, 3, 0, 1] (by decide) rfl
                    refine top_eq (y := nI (nu 1 i)) (hgn 1 _ (by omega) (by omega)) ?_
                    refine lv_aload_n hx hb dX7_bends_125 rfl (lv_at hl 4 rfl) ?_
                    refine top_get C S inX7_bends_X7 rfl 0 rfl 16 (by decide) (by decide +kernel) rfl rfl dX7_bends_126 ?_
                    refine lv_iload hx hb dX7_bends_129 (lv_at hl 2 rfl) ?_
                    refine top_ild C S 3 rfl (j := i) rfl (by omega) (by decide) dX7_bends_131 ?_
                    refine top_eq (y := nI (Rr i)) (hRe1 i (by omega) (hsub i (by omega) hbi)) ?_
                    refine lv_imul hx hb dX7_bends_132 ?_
                    refine top_eq (y := nI ((nu 1 i) * (Rr i))) (pk_mul _ _) ?_
                    refine lv_iadd hx hb dX7_bends_133 ?_
                    refine top_eq (y := nI (m + ((nu 1 i) * (Rr i)))) (nI_add _ _) ?_
                    refine lv_istore (lv' := [(4, .int (nI (m + ((nu 1 i) * (Rr i))))), (5, .int (nI (s + (nu 1 i)))), (7, .int 1), (6, .int (nI i)), (0, .ref M), (1, .int (nI pk)), (2, .int (nI b)), (3, .int (nI p))]) hx hb dX7_bends_134 hl (by decide) rfl (fun ls hl => ?_)
                    refine lv_aload_n hx hb dX7_bends_136 rfl (lv_at hl 4 rfl) ?_
                    refine lv_iload_n hx hb dX7_bends_137 rfl (lv_at hl 7 rfl) ?_
                    refine lv_iload hx hb dX7_bends_138 (lv_at hl 0 rfl) ?_
                    refine lv_iadd hx hb dX7_bends_140 ?_
                    refine top_eq (y := nI (p + (m + ((nu 1 i) * (Rr i))))) (nI_add _ _) ?_
                    refine top_put (ty := .int) C S inX7_bends_X7 tyX7 tyX7_ok nmX7 rfl 0 rfl 17 (by decide) (by decide +kernel) rfl rfl (tyX7_ok 17 (by decide)) rfl rfl (Nat.le_of_ble_eq_true rfl) dX7_bends_141 (fun H locs S => ?_)
                    have S : ST g A ss H locs [(M, ob 7 [.ref nw, .ref dr, .ref pa, .int ypa, .ref im, .ref ke, .ref fl, .ref fq, .int yfa, .ref te, .int yty, .int yat, .int yst, .int yso, .int yva, .ref ni, .ref re, .int (nI (p + (m + ((nu 1 i) * (Rr i))))), .int (nI bl), .int (bI (decide (0 < lowN (nu 1) Rr b p n))), .int (nI s), .ref ma, .ref be]), (nw, aI g 41 gn), (ni, aI g 8 nf1), (re, aI g 8 ref1)] := S
                    refine lv_aload_n hx hb dX7_bends_144 rfl (lv_at hl 4 rfl) ?_
                    refine lv_iload hx hb dX7_bends_145 (lv_at hl 1 rfl) ?_
                    refine top_put (ty := .int) C S inX7_bends_X7 tyX7 tyX7_ok nmX7 rfl 0 rfl 18 (by decide) (by decide +kernel) rfl rfl (tyX7_ok 18 (by decide)) rfl rfl (Nat.le_of_ble_eq_true rfl) dX7_bends_147 (fun H locs S => ?_)
                    have S : ST g A ss H locs [(M, ob 7 [.ref nw, .ref dr, .ref pa, .int ypa, .ref im, .ref ke, .ref fl, .ref fq, .int yfa, .ref te, .int yty, .int yat, .int yst, .int yso, .int yva, .ref ni, .ref re, .int (nI (p + (m + ((nu 1 i) * (Rr i))))), .int (nI (s + (nu 1 i))), .int (bI (decide (0 < lowN (nu 1) Rr b p n))), .int (nI s), .ref ma, .ref be]), (nw, aI g 41 gn), (ni, aI g 8 nf1), (re, aI g 8 ref1)] := S
                    refine lv_aload_n hx hb dX7_bends_150 rfl (lv_at hl 4 rfl) ?_
                    refine lv_iload hx hb dX7_bends_151 (lv_at hl 1 rfl) ?_
                    refine top_put (ty := .int) C S inX7_bends_X7 tyX7 tyX7_ok nmX7 rfl 0 rfl 20 (by decide) (by decide +kernel) rfl rfl (tyX7_ok 20 (by decide)) rfl rfl (Nat.le_of_ble_eq_true rfl) dX7_bends_153 (fun H locs S => ?_)
                    have S : ST g A ss H locs [(M, ob 7 [.ref nw, .ref dr, .ref pa, .int ypa, .ref im, .ref ke, .ref fl, .ref fq, .int yfa, .ref te, .int yty, .int yat, .int yst, .int yso, .int yva, .ref ni, .ref re, .int (nI (p + (m + ((nu 1 i) * (Rr i))))), .int (nI (s + (nu 1 i))), .int (bI (decide (0 < lowN (nu 1) Rr b p n))), .int (nI (s + (nu 1 i))), .ref ma, .ref be]), (nw, aI g 41 gn), (ni, aI g 8 nf1), (re, aI g 8 ref1)] := S
                    refine lv_iinc (v := nI (i + 1)) (lv' := [(6, .int (nI (i + 1))), (4, .int (nI (m + ((nu 1 i) * (Rr i))))), (5, .int (nI (s + (nu 1 i)))), (7, .int 1), (0, .ref M), (1, .int (nI pk)), (2, .int (nI b)), (3, .int (nI p))]) hx hb dX7_bends_156 hl (k := 3) rfl (nI_add _ _) (by decide) rfl (fun ls hl => ?_)
                    refine lv_goto (tgt := 46) hx hb dX7_bends_159 (by decide) ?_
                    exact ih46 (i + 1) (s + (nu 1 i)) (m + ((nu 1 i) * (Rr i))) (p + (m + ((nu 1 i) * (Rr i)))) (s + (nu 1 i)) (by omega) (by first | assumption | omega) (by simp only [pr, hpr, if_pos c_23, if_neg (fun q9 : p + m ≤ s * Rr i => by rw [c_25] at q9; omega)]) (by rw [if_neg (by omega)]) (by rw [if_neg (by omega)]) H locs ls (ST.eq S (rfl)) (lv_sub hl [0, 2, 1, 4, 5, 6, 7] (rfl))
                · -- 72 F
                  refine lv_iload_n hx hb dX7_bends_75 rfl (lv_at hl 6 rfl) ?_
                  refine lv_iload hx hb dX7_bends_76 (lv_at hl 2 rfl) ?_
                  refine lv_iadd hx hb dX7_bends_78 ?_
                  refine top_eq (y := nI (p + m)) (nI_add _ _) ?_
                  refine lv_aload_n hx hb dX7_bends_79 rfl (lv_at hl 3 rfl) ?_
                  refine top_get C S inX7_bends_X7 rfl 0 rfl 16 (by decide) (by decide +kernel) rfl rfl dX7_bends_80 ?_
                  refine lv_iload hx hb dX7_bends_83 (lv_at hl 0 rfl) ?_
                  refine top_ild C S 3 rfl (j := i) rfl (by omega) (by decide) dX7_bends_85 ?_
                  refine top_eq (y := nI (Rr i)) (hRe1 i (by omega) (hsub i (by omega) hbi)) ?_
                  refine lv_iload hx hb dX7_bends_86 (lv_at hl 1 rfl) ?_
                  refine lv_imul hx hb dX7_bends_88 ?_
                  refine top_eq (y := nI ((Rr i) * s)) (pk_mul _ _) ?_
                  refine bn_ile (tgt := 96) (a := p + m) (b := (Rr i) * s) hx hb rfl rfl (by omega) (by omega) dX7_bends_89 (by decide) (fun c_27 => ?_) (fun c_27 => ?_)
                  · -- 89 T
                    refine lv_iconst (v := 0) hx hb dX7_bends_96 (by decide) ?_
                    refine lv_istore (lv' := [(7, .int 0), (6, .int (nI i)), (5, .int (nI s)), (4, .int (nI m)), (0, .ref M), (1, .int (nI pk)), (2, .int (nI b)), (3, .int (nI p))]) hx hb dX7_bends_97 hl (by decide) rfl (fun ls hl => ?_)
                    refine lv_iload hx hb dX7_bends_99 (lv_at hl 0 rfl) ?_
                    refine bn_zeq (tgt := 156) (a := 0) hx hb rfl (by omega) dX7_bends_101 (by decide) (fun c_28 => ?_) (fun c_28 => ?_)
                    · -- 101 T
                      refine lv_iinc (v := nI (i + 1)) (lv' := [(6, .int (nI (i + 1))), (7, .int 0), (5, .int (nI s)), (4, .int (nI m)), (0, .ref M), (1, .int (nI pk)), (2, .int (nI b)), (3, .int (nI p))]) hx hb dX7_bends_156 hl (k := 1) rfl (nI_add _ _) (by decide) rfl (fun ls hl => ?_)
                      refine lv_goto (tgt := 46) hx hb dX7_bends_159 (by decide) ?_
                      exact ih46 (i + 1) s m ab bl (by omega) (by first | assumption | omega) (by simp only [pr, hpr, if_pos c_23, if_pos (show p + m ≤ s * Rr i by rw [Nat.mul_comm]; exact c_27)]) (hab) (hbl) H locs ls (ST.eq S (rfl)) (lv_sub hl [0, 2, 3, 4, 5, 6, 7] (rfl))
                    · -- 101 F
                      exact absurd c_28 (by decide)
                  · -- 89 F
                    refine lv_iconst (v := 1) hx hb dX7_bends_92 (by decide) ?_
                    refine lv_goto (tgt := 97) hx hb dX7_bends_93 (by decide) ?_
                    refine lv_istore (lv' := [(7, .int 1), (6, .int (nI i)), (5, .int (nI s)), (4, .int (nI m)), (0, .ref M), (1, .int (nI pk)), (2, .int (nI b)), (3, .int (nI p))]) hx hb dX7_bends_97 hl (by decide) rfl (fun ls hl => ?_)
                    refine lv_iload hx hb dX7_bends_99 (lv_at hl 0 rfl) ?_
                    refine bn_zeq (tgt := 156) (a := 1) hx hb rfl (by omega) dX7_bends_101 (by decide) (fun c_29 => ?_) (fun c_29 => ?_)
                    · -- 101 T
                      exact absurd c_29 (by decide)
                    · -- 101 F
                      refine lv_iload hx hb dX7_bends_104 (lv_at hl 2 rfl) ?_
                      refine lv_aload_n hx hb dX7_bends_106 rfl (lv_at hl 4 rfl) ?_
                      refine lv_iload hx hb dX7_bends_107 (lv_at hl 1 rfl) ?_
                      refine lv_iconst (v := 2) hx hb dX7_bends_109 (by decide) ?_
                      refine after_I (wc := [(M, ob 7 [.ref nw, .ref dr, .ref pa, .int ypa, .ref im, .ref ke, .ref fl, .ref fq, .int yfa, .ref te, .int yty, .int yat, .int yst, .int yso, .int yva, .ref ni, .ref re, .int (nI ab), .int (nI bl), .int (bI (decide (0 < lowN (nu 1) Rr b p n))), .int (nI s), .ref ma, .ref be]), (nw, aI g 41 gn)]) (y := yX7_of) C S (va_runV (As := [.int (nI i), .int 2]) (rest := [.int (nI s)]) C.1 (kX7_of l g M nw dr pa im ke fl fq te ni re ma be ypa yfa yty yat yst yso yva (nI ab) (nI bl) (bI (decide (0 < lowN (nu 1) Rr b p n))) (nI s) gn i 2 (by first | assumption | omega) (by first | assumption | omega) H.size) (cwV 2 hts gX7_bends_X7_of rfl rfl rfl (by decide +kernel) ⟨Nat.le_of_ble_eq_true rfl, Nat.le_of_ble_eq_true rfl⟩) (preV_at C S 0 rfl rfl [0, 1] rfl (by decide)) rfl rfl hl.1 rfl (lv_room (Nat.le_of_ble_eq_true rfl)) dX7_bends_110 ⟨Nat.le_of_ble_eq_true rfl, Nat.le_of_ble_eq_true rfl⟩) [0, 1] [2, 3] rfl (wr := [(ni, aI g 8 nf1), (re, aI g 8 ref1)]) rfl (by decide) (by decide) (fun r0 w0 H locs hq S => ?_)
                      obtain ⟨rfl, rfl⟩ := hq
                      have S : ST g A ss H locs [(M, ob 7 [.ref nw, .ref dr, .ref pa, .int ypa, .ref im, .ref ke, .ref fl, .ref fq, .int yfa, .ref te, .int yty, .int yat, .int yst, .int yso, .int yva, .ref ni, .ref re, .int (nI ab), .int (nI bl), .int (bI (decide (0 < lowN (nu 1) Rr b p n))), .int (nI s), .ref ma, .ref be]), (nw, aI g 41 gn), (ni, aI g 8 nf1), (re, aI g 8 ref1)] := ST.sub S [2, 3, 0, 1] (by decide) rfl
                      refine top_eq (y := nI (nu 1 i)) (hgn 1 _ (by omega) (by omega)) ?_
                      refine lv_iadd hx hb dX7_bends_113 ?_
                      refine top_eq (y := nI (s + (nu 1 i))) (nI_add _ _) ?_
                      refine lv_istore (lv' := [(5, .int (nI (s + (nu 1 i)))), (7, .int 1), (6, .int (nI i)), (4, .int (nI m)), (0, .ref M), (1, .int (nI pk)), (2, .int (nI b)), (3, .int (nI p))]) hx hb dX7_bends_114 hl (by decide) rfl (fun ls hl => ?_)
                      refine lv_iload hx hb dX7_bends_116 (lv_at hl 3 rfl) ?_
                      refine lv_aload_n hx hb dX7_bends_118 rfl (lv_at hl 4 rfl) ?_
                      refine lv_iload hx hb dX7_bends_119 (lv_at hl 2 rfl) ?_
                      refine lv_iconst (v := 2) hx hb dX7_bends_121 (by decide) ?_
                      refine after_I (wc := [(M, ob 7 [.ref nw, .ref dr, .ref pa, .int ypa, .ref im, .ref ke, .ref fl, .ref fq, .int yfa, .ref te, .int yty, .int yat, .int yst, .int yso, .int yva, .ref ni, .ref re, .int (nI ab), .int (nI bl), .int (bI (decide (0 < lowN (nu 1) Rr b p n))), .int (nI s), .ref ma, .ref be]), (nw, aI g 41 gn)]) (y := yX7_of) C S (va_runV (As := [.int (nI i), .int 2]) (rest := [.int (nI m)]) C.1 (kX7_of l g M nw dr pa im ke fl fq te ni re ma be ypa yfa yty yat yst yso yva (nI ab) (nI bl) (bI (decide (0 < lowN (nu 1) Rr b p n))) (nI s) gn i 2 (by first | assumption | omega) (by first | assumption | omega) H.size) (cwV 2 hts gX7_bends_X7_of rfl rfl rfl (by decide +kernel) ⟨Nat.le_of_ble_eq_true rfl, Nat.le_of_ble_eq_true rfl⟩) (preV_at C S 0 rfl rfl [0, 1] rfl (by decide)) rfl rfl hl.1 rfl (lv_room (Nat.le_of_ble_eq_true rfl)) dX7_bends_122 ⟨Nat.le_of_ble_eq_true rfl, Nat.le_of_ble_eq_true rfl⟩) [0, 1] [2, 3] rfl (wr := [(ni, aI g 8 nf1), (re, aI g 8 ref1)]) rfl (by decide) (by decide) (fun r0 w0 H locs hq S => ?_)
                      obtain ⟨rfl, rfl⟩ := hq
                      have S : ST g A ss H locs [(M, ob 7 [.ref nw, .ref dr, .ref pa, .int ypa, .ref im, .ref ke, .ref fl, .ref fq, .int yfa, .ref te, .int yty, .int yat, .int yst, .int yso, .int yva, .ref ni, .ref re, .int (nI ab), .int (nI bl), .int (bI (decide (0 < lowN (nu 1) Rr b p n))), .int (nI s), .ref ma, .ref be]), (nw, aI g 41 gn), (ni, aI g 8 nf1), (re, aI g 8 ref1)] := ST.sub S [2, 3, 0, 1] (by decide) rfl
                      refine top_eq (y := nI (nu 1 i)) (hgn 1 _ (by omega) (by omega)) ?_
                      refine lv_aload_n hx hb dX7_bends_125 rfl (lv_at hl 4 rfl) ?_
                      refine top_get C S inX7_bends_X7 rfl 0 rfl 16 (by decide) (by decide +kernel) rfl rfl dX7_bends_126 ?_
                      refine lv_iload hx hb dX7_bends_129 (lv_at hl 2 rfl) ?_
                      refine top_ild C S 3 rfl (j := i) rfl (by omega) (by decide) dX7_bends_131 ?_
                      refine top_eq (y := nI (Rr i)) (hRe1 i (by omega) (hsub i (by omega) hbi)) ?_
                      refine lv_imul hx hb dX7_bends_132 ?_
                      refine top_eq (y := nI ((nu 1 i) * (Rr i))) (pk_mul _ _) ?_
                      refine lv_iadd hx hb dX7_bends_133 ?_
                      refine top_eq (y := nI (m + ((nu 1 i) * (Rr i)))) (nI_add _ _) ?_
                      refine lv_istore (lv' := [(4, .int (nI (m + ((nu 1 i) * (Rr i))))), (5, .int (nI (s + (nu 1 i)))), (7, .int 1), (6, .int (nI i)), (0, .ref M), (1, .int (nI pk)), (2, .int (nI b)), (3, .int (nI p))]) hx hb dX7_bends_134 hl (by decide) rfl (fun ls hl => ?_)
                      refine lv_aload_n hx hb dX7_bends_136 rfl (lv_at hl 4 rfl) ?_
                      refine lv_iload_n hx hb dX7_bends_137 rfl (lv_at hl 7 rfl) ?_
                      refine lv_iload hx hb dX7_bends_138 (lv_at hl 0 rfl) ?_
                      refine lv_iadd hx hb dX7_bends_140 ?_
                      refine top_eq (y := nI (p + (m + ((nu 1 i) * (Rr i))))) (nI_add _ _) ?_
                      refine top_put (ty := .int) C S inX7_bends_X7 tyX7 tyX7_ok nmX7 rfl 0 rfl 17 (by decide) (by decide +kernel) rfl rfl (tyX7_ok 17 (by decide)) rfl rfl (Nat.le_of_ble_eq_true rfl) dX7_bends_141 (fun H locs S => ?_)
                      have S : ST g A ss H locs [(M, ob 7 [.ref nw, .ref dr, .ref pa, .int ypa, .ref im, .ref ke, .ref fl, .ref fq, .int yfa, .ref te, .int yty, .int yat, .int yst, .int yso, .int yva, .ref ni, .ref re, .int (nI (p + (m + ((nu 1 i) * (Rr i))))), .int (nI bl), .int (bI (decide (0 < lowN (nu 1) Rr b p n))), .int (nI s), .ref ma, .ref be]), (nw, aI g 41 gn), (ni, aI g 8 nf1), (re, aI g 8 ref1)] := S
                      refine lv_aload_n hx hb dX7_bends_144 rfl (lv_at hl 4 rfl) ?_
                      refine lv_iload hx hb dX7_bends_145 (lv_at hl 1 rfl) ?_
                      refine top_put (ty := .int) C S inX7_bends_X7 tyX7 tyX7_ok nmX7 rfl 0 rfl 18 (by decide) (by decide +kernel) rfl rfl (tyX7_ok 18 (by decide)) rfl rfl (Nat.le_of_ble_eq_true rfl) dX7_bends_147 (fun H locs S => ?_)
                      have S : ST g A ss H locs [(M, ob 7 [.ref nw, .ref dr, .ref pa, .int ypa, .ref im, .ref ke, .ref fl, .ref fq, .int yfa, .ref te, .int yty, .int yat, .int yst, .int yso, .int yva, .ref ni, .ref re, .int (nI (p + (m + ((nu 1 i) * (Rr i))))), .int (nI (s + (nu 1 i))), .int (bI (decide (0 < lowN (nu 1) Rr b p n))), .int (nI s), .ref ma, .ref be]), (nw, aI g 41 gn), (ni, aI g 8 nf1), (re, aI g 8 ref1)] := S
                      refine lv_aload_n hx hb dX7_bends_150 rfl (lv_at hl 4 rfl) ?_
                      refine lv_iload hx hb dX7_bends_151 (lv_at hl 1 rfl) ?_
                      refine top_put (ty := .int) C S inX7_bends_X7 tyX7 tyX7_ok nmX7 rfl 0 rfl 20 (by decide) (by decide +kernel) rfl rfl (tyX7_ok 20 (by decide)) rfl rfl (Nat.le_of_ble_eq_true rfl) dX7_bends_153 (fun H locs S => ?_)
                      have S : ST g A ss H locs [(M, ob 7 [.ref nw, .ref dr, .ref pa, .int ypa, .ref im, .ref ke, .ref fl, .ref fq, .int yfa, .ref te, .int yty, .int yat, .int yst, .int yso, .int yva, .ref ni, .ref re, .int (nI (p + (m + ((nu 1 i) * (Rr i))))), .int (nI (s + (nu 1 i))), .int (bI (decide (0 < lowN (nu 1) Rr b p n))), .int (nI (s + (nu 1 i))), .ref ma, .ref be]), (nw, aI g 41 gn), (ni, aI g 8 nf1), (re, aI g 8 ref1)] := S
                      refine lv_iinc (v := nI (i + 1)) (lv' := [(6, .int (nI (i + 1))), (4, .int (nI (m + ((nu 1 i) * (Rr i))))), (5, .int (nI (s + (nu 1 i)))), (7, .int 1), (0, .ref M), (1, .int (nI pk)), (2, .int (nI b)), (3, .int (nI p))]) hx hb dX7_bends_156 hl (k := 3) rfl (nI_add _ _) (by decide) rfl (fun ls hl => ?_)
                      refine lv_goto (tgt := 46) hx hb dX7_bends_159 (by decide) ?_
                      exact ih46 (i + 1) (s + (nu 1 i)) (m + ((nu 1 i) * (Rr i))) (p + (m + ((nu 1 i) * (Rr i)))) (s + (nu 1 i)) (by omega) (by first | assumption | omega) (by simp only [pr, hpr, if_pos c_23, if_neg (fun q9 : p + m ≤ s * Rr i => c_27 (by rw [Nat.mul_comm]; exact q9))]) (by rw [if_neg (by omega)]) (by rw [if_neg (by omega)]) H locs ls (ST.eq S (rfl)) (lv_sub hl [0, 2, 1, 4, 5, 6, 7] (rfl))
      exact loop46 _ 0 0 0 0 1 (Nat.lt_succ_self _) (by first | assumption | omega) (rfl) (rfl) (rfl) H locs ls (ST.eq S (rfl)) (lv_sub hl [0, 1, 2, 3, 4, 5, 6] (rfl))
