theorem inX6_knee_X2 : ∀ w ∈ wsX20, w ∈ wsX6_knee := by decide +kernel
theorem inX6_knee_X3 : ∀ w ∈ wsX30, w ∈ wsX6_knee := by decide +kernel
theorem inX6_knee_X6 : ∀ w ∈ wsX60, w ∈ wsX6_knee := by decide +kernel
set_option maxRecDepth 100000 in
set_option maxHeartbeats 4000000 in
theorem kX6_knee (l : Launch) (g : GG) (O : Nat) (dh : Nat) (th : Nat) (HH : Nat) (IM : Nat) (SG : Nat) (ca : Nat) (h : Nat) (q : Nat) (f : Nat → Int32) (n : Nat) (ww : Nat) (nu : Nat → Nat → Nat) (P : Nat) (ra : Nat) (sa : Nat) (ta : Nat) (rf : Nat → Int32) (sf : Nat → Int32) (tf : Nat → Int32) (p1 : Int32) (p2 : Int32) (p3 : Int32) (p4 : Int32) (p5 : Int32) (x : Int32) (hn1 : 1 ≤ n) (hn : n ≤ 8) (hww : ww < 256) (hf : ∀ a i, a < 4 → i < n → f (a * 8 + i) = nI (nu a i)) (hB : HB nu n) : KI l g yX6_knee wsX6_knee 4 91 [.ref O, .int x] [(O, ob 6 [.ref h, .ref dh, .ref th, .ref HH, .ref IM, .ref SG, .ref P, .ref ca]), (h, ob 2 [.ref q, .int (nI n), .int (nI ww)]), (q, aI g 32 f), (P, ob 3 [.ref ra, .ref sa, .ref ta, .int p1, .int p2, .int p3, .int p4, .int p5]), (ra, aI g 8 rf), (sa, aI g 8 sf), (ta, aI g 8 tf)] (fun (r : Int32) (w' : va_W) => r = (kneeS nu n ww x) ∧ ∃ (z1' : Int32), ∃ (z2' : Int32), ∃ (z3' : Int32), ∃ (z4' : Int32), ∃ (z5' : Int32), ∃ (rf' : Nat → Int32), ∃ (sf' : Nat → Int32), ∃ (tf' : Nat → Int32), w' = [(O, ob 6 [.ref h, .ref dh, .ref th, .ref HH, .ref IM, .ref SG, .ref P, .ref ca]), (h, ob 2 [.ref q, .int (nI n), .int (nI ww)]), (q, aI g 32 f), (P, ob 3 [.ref ra, .ref sa, .ref ta, .int z1', .int z2', .int z3', .int z4', .int z5']), (ra, aI g 8 rf'), (sa, aI g 8 sf'), (ta, aI g 8 tf')]) := by
  refine kI_of (cc := cX6_knee) (maxL := 6) (by decide) rfl (Nat.le_of_ble_eq_true rfl) ?_
  intro pp ee ss mm bel mth cd A ls C S hr hl
  obtain ⟨hx, hb, hml, hown, hts⟩ := id C.1
  have hl : lv_has ls 6 [(0, .ref O), (1, .int x)] := hl
  obtain ⟨H, hH⟩ : ∃ H, H = ss.heap := ⟨_, rfl⟩
  obtain ⟨locs, hL0⟩ : ∃ L : List Loc, L = [] := ⟨_, rfl⟩
  rw [← hH, ← hL0] at S ⊢
  have hca : ∀ i, i < n → nu 2 i ≤ 30 := fun i9 h9 => (hB i9 h9).2.2.1
  have hSb : ∀ i, i < n → nu 1 i ≤ 9 := fun i9 h9 => (hB i9 h9).2.1.2
  have hTb : ∀ i, i < n → nu 3 i ≤ 99 := fun i9 h9 => (hB i9 h9).2.2.2.2
  have hRb : ∀ i, i < n → R0 nu i ≤ 240 := RC_le hn hca
  refine lv_iload_n hx hb dX6_knee_0 rfl (lv_at hl 1 rfl) ?_
  refine lv_iconst (v := (-1)) hx hb dX6_knee_1 (by decide) ?_
  refine lv_icmp_ge (tgt := 7) hx hb dX6_knee_2 (by decide) (fun c_1 => ?_) (fun c_1 => ?_)
  · -- 2 T
    have hm1 := c_1
    refine lv_aload_n hx hb dX6_knee_7 rfl (lv_at hl 0 rfl) ?_
    refine lv_aload_n hx hb dX6_knee_8 rfl (lv_at hl 0 rfl) ?_
    refine top_get C S inX6_knee_X6 rfl 0 rfl 0 (by decide) (by decide +kernel) rfl rfl dX6_knee_9 ?_
    refine top_getN C S inX6_knee_X2 rfl 1 rfl 2 (by decide) (by decide +kernel) rfl dX6_knee_12 ?_
    refine after_V (wc := [(O, ob 6 [.ref h, .ref dh, .ref th, .ref HH, .ref IM, .ref SG, .ref P, .ref ca]), (h, ob 2 [.ref q, .int (nI n), .int (nI ww)]), (q, aI g 32 f), (P, ob 3 [.ref ra, .ref sa, .ref ta, .int p1, .int p2, .int p3, .int p4, .int p5]), (ra, aI g 8 rf), (sa, aI g 8 sf), (ta, aI g 8 tf)]) (y := yX6_stackAll) C S (va_runV (As := [.int (nI ww)]) (rest := []) C.1 (kX6_stackAll l g O dh th HH IM SG ca h q f n ww nu P ra sa ta rf sf tf p1 p2 p3 p4 p5 ww (by first | assumption | omega) (by first | assumption | omega) (by first | assumption | omega) hww H.size) (cwV 1 hts gX6_knee_X6_stackAll rfl rfl rfl (by decide +kernel) ⟨Nat.le_of_ble_eq_true rfl, Nat.le_of_ble_eq_true rfl⟩) (preV_at C S 0 rfl rfl [0, 1, 2, 3, 4, 5, 6] rfl (by decide)) rfl rfl hl.1 rfl (lv_room (Nat.le_of_ble_eq_true rfl)) dX6_knee_15 ⟨Nat.le_of_ble_eq_true rfl, Nat.le_of_ble_eq_true rfl⟩) [0, 1, 2, 3, 4, 5, 6] [] rfl (wr := []) rfl (by decide) (by decide) (fun w0 H locs hq S => ?_)
    obtain ⟨rf1, sf1, tf1, hR1, hS1, hT1, rfl⟩ := hq
    have S : ST g A ss H locs [(O, ob 6 [.ref h, .ref dh, .ref th, .ref HH, .ref IM, .ref SG, .ref P, .ref ca]), (h, ob 2 [.ref q, .int (nI n), .int (nI ww)]), (q, aI g 32 f), (P, ob 3 [.ref ra, .ref sa, .ref ta, .int (nI n), .int (nI ww), .int p3, .int p4, .int p5]), (ra, aI g 8 rf1), (sa, aI g 8 sf1), (ta, aI g 8 tf1)] := S
    refine lv_iconst (v := 0) hx hb dX6_knee_18 (by decide) ?_
    refine lv_istore_n (lv' := [(2, .int 0), (0, .ref O), (1, .int x)]) hx hb dX6_knee_19 rfl hl (by decide) rfl (fun ls hl => ?_)
    refine lv_iconst (v := 0) hx hb dX6_knee_20 (by decide) ?_
    refine lv_istore_n (lv' := [(3, .int 0), (2, .int 0), (0, .ref O), (1, .int x)]) hx hb dX6_knee_21 rfl hl (by decide) rfl (fun ls hl => ?_)
    refine lv_iconst (v := 0) hx hb dX6_knee_22 (by decide) ?_
    refine lv_istore (lv' := [(4, .int 0), (3, .int 0), (2, .int 0), (0, .ref O), (1, .int x)]) hx hb dX6_knee_23 hl (by decide) rfl (fun ls hl => ?_)
    have loop25 : ∀ (N0 : Nat) (i : Nat) (k0 : Nat) (l0 : Nat), n - i < N0 → (i ≤ n) → (kn (ldN nu n ww) i = (k0, l0)) → (¬ x = (-1) → kth (ldN nu n ww) x.toNatClampNeg i = none) → (l0 ≤ 20000) → ∀ (H : Heap) (locs : List Loc) (ls : Array Slot), ST g A ss H locs [(O, ob 6 [.ref h, .ref dh, .ref th, .ref HH, .ref IM, .ref SG, .ref P, .ref ca]), (h, ob 2 [.ref q, .int (nI n), .int (nI ww)]), (q, aI g 32 f), (P, ob 3 [.ref ra, .ref sa, .ref ta, .int (nI n), .int (nI ww), .int p3, .int p4, .int p5]), (ra, aI g 8 rf1), (sa, aI g 8 sf1), (ta, aI g 8 tf1)] → lv_has ls 6 [(4, .int (nI i)), (3, .int (nI l0)), (2, .int (nI k0)), (0, .ref O), (1, .int x)] → W pp l ee { frames := 4, cells := 0, slots := 0, locals := 91 } ss mm ([.ref O, .int x] : List Value).toArray bel mth cd H locs 0 0 (QI bel ([.ref O, .int x] : List Value).toArray ss g A (fun (r : Int32) (w' : va_W) => r = (kneeS nu n ww x) ∧ ∃ (z1' : Int32), ∃ (z2' : Int32), ∃ (z3' : Int32), ∃ (z4' : Int32), ∃ (z5' : Int32), ∃ (rf' : Nat → Int32), ∃ (sf' : Nat → Int32), ∃ (tf' : Nat → Int32), w' = [(O, ob 6 [.ref h, .ref dh, .ref th, .ref HH, .ref IM, .ref SG, .ref P, .ref ca]), (h, ob 2 [.ref q, .int (nI n), .int (nI ww)]), (q, aI g 32 f), (P, ob 3 [.ref ra, .ref sa, .ref ta, .int z1', .int z2', .int z3', .int z4', .int z5']), (ra, aI g 8 rf'), (sa, aI g 8 sf'), (ta, aI g 8 tf')])) (F0 mm 25 ls []) := by
      intro N0
      induction N0 with
      | zero => intro i k0 l0 hN; exact absurd hN (Nat.not_lt_zero _)
      | succ N0 ih25 =>
        intro i k0 l0 hN hi hk0 hno hl0 H locs ls S hl
        have hk9 : k0 ≤ i := by have := kn_le (ld := ldN nu n ww) i; rw [hk0] at this; exact this
        refine lv_iload hx hb dX6_knee_25 (lv_at hl 0 rfl) ?_
        refine lv_aload_n hx hb dX6_knee_27 rfl (lv_at hl 3 rfl) ?_
        refine top_get C S inX6_knee_X6 rfl 0 rfl 0 (by decide) (by decide +kernel) rfl rfl dX6_knee_28 ?_
        refine top_getN C S inX6_knee_X2 rfl 1 rfl 1 (by decide) (by decide +kernel) rfl dX6_knee_31 ?_
        refine bn_ige (tgt := 98) (a := i) (b := n) hx hb rfl rfl (by omega) (by omega) dX6_knee_34 (by decide) (fun c_2 => ?_) (fun c_2 => ?_)
        · -- 34 T
          have hin : i = n := by omega
          rw [hin] at hk0 hno
          refine lv_iload_n hx hb dX6_knee_98 rfl (lv_at hl 4 rfl) ?_
          refine lv_iconst (v := (-1)) hx hb dX6_knee_99 (by decide) ?_
          refine lv_icmp_ne (tgt := 107) hx hb dX6_knee_100 (by decide) (fun c_3 => ?_) (fun c_3 => ?_)
          · -- 100 T
            refine lv_bipush (v := (-9)) hx hb dX6_knee_107 (by decide) ?_
            exact ret_I C S hr dX6_knee_109 ⟨((knee_none hm1 c_3 (hno c_3)).symm), (nI n), (nI ww), p3, p4, p5, rf1, sf1, tf1, (rfl)⟩
          · -- 100 F
            refine lv_iload_n hx hb dX6_knee_103 rfl (lv_at hl 2 rfl) ?_
            refine lv_goto (tgt := 109) hx hb dX6_knee_104 (by decide) ?_
            exact ret_I C S hr dX6_knee_109 ⟨(by rw [c_3, knee_all, hk0]), (nI n), (nI ww), p3, p4, p5, rf1, sf1, tf1, (rfl)⟩
        · -- 34 F
          have hin : i < n := by omega
          refine lv_aload_n hx hb dX6_knee_37 rfl (lv_at hl 3 rfl) ?_
          refine top_get C S inX6_knee_X6 rfl 0 rfl 0 (by decide) (by decide +kernel) rfl rfl dX6_knee_38 ?_
          refine lv_iload hx hb dX6_knee_41 (lv_at hl 0 rfl) ?_
          refine after_I (wc := [(h, ob 2 [.ref q, .int (nI n), .int (nI ww)]), (q, aI g 32 f)]) (y := yX2_isWhole) C S (va_runV (As := [.int (nI i)]) (rest := []) C.1 (kX2_isWhole l g h q f n ww i (by first | assumption | omega) (by first | assumption | omega) H.size) (cwV 1 hts gX6_knee_X2_isWhole rfl rfl rfl (by decide +kernel) ⟨Nat.le_of_ble_eq_true rfl, Nat.le_of_ble_eq_true rfl⟩) (preV_at C S 1 rfl rfl [1, 2] rfl (by decide)) rfl rfl hl.1 rfl (lv_room (Nat.le_of_ble_eq_true rfl)) dX6_knee_43 ⟨Nat.le_of_ble_eq_true rfl, Nat.le_of_ble_eq_true rfl⟩) [1, 2] [0, 3, 4, 5, 6] rfl (wr := [(O, ob 6 [.ref h, .ref dh, .ref th, .ref HH, .ref IM, .ref SG, .ref P, .ref ca]), (P, ob 3 [.ref ra, .ref sa, .ref ta, .int (nI n), .int (nI ww), .int p3, .int p4, .int p5]), (ra, aI g 8 rf1), (sa, aI g 8 sf1), (ta, aI g 8 tf1)]) rfl (by decide) (by decide) (fun r0 w0 H locs hq S => ?_)
          obtain ⟨rfl, rfl⟩ := hq
          have S : ST g A ss H locs [(O, ob 6 [.ref h, .ref dh, .ref th, .ref HH, .ref IM, .ref SG, .ref P, .ref ca]), (h, ob 2 [.ref q, .int (nI n), .int (nI ww)]), (q, aI g 32 f), (P, ob 3 [.ref ra, .ref sa, .ref ta, .int (nI n), .int (nI ww), .int p3, .int p4, .int p5]), (ra, aI g 8 rf1), (sa, aI g 8 sf1), (ta, aI g 8 tf1)] := ST.sub S [0, 5, 6, 1, 2, 3, 4] (by decide) rfl
          refine br_eqB (tgt := 69) hx hb dX6_knee_46 (by decide) (fun c_4 => ?_) (fun c_4 => ?_)
          · -- 46 T
            refine lv_iconst (v := 0) hx hb dX6_knee_69 (by decide) ?_
            refine top_eq (y := nI (ldN nu n ww i)) (by rw [show ldN nu n ww i = 0 by simp only [ldN, if_neg (Bool.eq_false_iff.mp c_4)]]; rfl) ?_
            have hld : ldN nu n ww i ≤ 20000 := ld_le hn hSb hRb hin
            refine lv_istore (lv' := [(5, .int (nI (ldN nu n ww i))), (4, .int (nI i)), (3, .int (nI l0)), (2, .int (nI k0)), (0, .ref O), (1, .int x)]) hx hb dX6_knee_70 hl (by decide) rfl (fun ls hl => ?_)
            refine lv_iload hx hb dX6_knee_72 (lv_at hl 0 rfl) ?_
            refine lv_iload_n hx hb dX6_knee_74 rfl (lv_at hl 2 rfl) ?_
            refine bn_ile (tgt := 92) (a := ldN nu n ww i) (b := l0) hx hb rfl rfl (by omega) (by omega) dX6_knee_75 (by decide) (fun c_5 => ?_) (fun c_5 => ?_)
            · -- 75 T
              refine lv_iinc (v := nI (i + 1)) (lv' := [(4, .int (nI (i + 1))), (5, .int (nI (ldN nu n ww i))), (3, .int (nI l0)), (2, .int (nI k0)), (0, .ref O), (1, .int x)]) hx hb dX6_knee_92 hl (k := 1) rfl (nI_add _ _) (by decide) rfl (fun ls hl => ?_)
              refine lv_goto (tgt := 25) hx hb dX6_knee_95 (by decide) ?_
              exact ih25 (i + 1) k0 l0 (by omega) (by first | assumption | omega) (by simp only [kn, hk0, if_pos c_5]) (fun h9 => by simp only [kth, hk0, if_pos c_5]; exact hno h9) (by first | assumption | omega) H locs ls (ST.eq S (rfl)) (lv_sub hl [0, 2, 3, 4, 5] (rfl))
            · -- 75 F
              refine lv_iload_n hx hb dX6_knee_78 rfl (lv_at hl 3 rfl) ?_
              refine lv_iload_n hx hb dX6_knee_79 rfl (lv_at hl 5 rfl) ?_
              refine lv_icmp_ne (tgt := 86) hx hb dX6_knee_80 (by decide) (fun c_6 => ?_) (fun c_6 => ?_)
              · -- 80 T
                refine lv_iinc (v := nI (k0 + 1)) (lv' := [(2, .int (nI (k0 + 1))), (5, .int (nI (ldN nu n ww i))), (4, .int (nI i)), (3, .int (nI l0)), (0, .ref O), (1, .int x)]) hx hb dX6_knee_86 hl (k := 3) rfl (nI_add _ _) (by decide) rfl (fun ls hl => ?_)
                refine lv_iload hx hb dX6_knee_89 (lv_at hl 1 rfl) ?_
                refine lv_istore_n (lv' := [(3, .int (nI (ldN nu n ww i))), (2, .int (nI (k0 + 1))), (5, .int (nI (ldN nu n ww i))), (4, .int (nI i)), (0, .ref O), (1, .int x)]) hx hb dX6_knee_91 rfl hl (by decide) rfl (fun ls hl => ?_)
                refine lv_iinc (v := nI (i + 1)) (lv' := [(4, .int (nI (i + 1))), (3, .int (nI (ldN nu n ww i))), (2, .int (nI (k0 + 1))), (5, .int (nI (ldN nu n ww i))), (0, .ref O), (1, .int x)]) hx hb dX6_knee_92 hl (k := 3) rfl (nI_add _ _) (by decide) rfl (fun ls hl => ?_)
                refine lv_goto (tgt := 25) hx hb dX6_knee_95 (by decide) ?_
                exact ih25 (i + 1) (k0 + 1) (ldN nu n ww i) (by omega) (by first | assumption | omega) (by simp only [kn, hk0, if_neg c_5]) (fun h9 => by simp only [kth, hk0, if_neg c_5, if_neg (fun q9 : k0 = x.toNatClampNeg => c_6 (by rw [q9]; exact (nm_clamp hm1 h9).symm))]; exact hno h9) (by first | assumption | omega) H locs ls (ST.eq S (rfl)) (lv_sub hl [0, 1, 2, 4, 5] (rfl))
              · -- 80 F
                refine lv_iload hx hb dX6_knee_83 (lv_at hl 0 rfl) ?_
                exact ret_I C S hr dX6_knee_85 ⟨(by rw [← c_6]; exact (knee_hit hk0 hin hn c_5).symm), (nI n), (nI ww), p3, p4, p5, rf1, sf1, tf1, (rfl)⟩
          · -- 46 F
            refine lv_aload_n hx hb dX6_knee_49 rfl (lv_at hl 3 rfl) ?_
            refine top_get C S inX6_knee_X6 rfl 0 rfl 6 (by decide) (by decide +kernel) rfl rfl dX6_knee_50 ?_
            refine lv_aload_n hx hb dX6_knee_53 rfl (lv_at hl 3 rfl) ?_
            refine top_get C S inX6_knee_X6 rfl 0 rfl 6 (by decide) (by decide +kernel) rfl rfl dX6_knee_54 ?_
            refine top_getN C S inX6_knee_X3 rfl 3 rfl 0 (by decide) (by decide +kernel) rfl dX6_knee_57 ?_
            refine lv_iload hx hb dX6_knee_60 (lv_at hl 0 rfl) ?_
            refine top_ild C S 4 rfl (j := i) rfl (by omega) (by decide) dX6_knee_62 ?_
            refine top_eq (y := nI (R0 nu i)) (hR1 _ (by omega)) ?_
            refine after_I (wc := [(P, ob 3 [.ref ra, .ref sa, .ref ta, .int (nI n), .int (nI ww), .int p3, .int p4, .int p5]), (ra, aI g 8 rf1), (sa, aI g 8 sf1), (ta, aI g 8 tf1)]) (y := yX3_loadAt) C S (va_runV (As := [.int (nI (R0 nu i))]) (rest := []) C.1 (kX3_loadAt l g P ra sa ta rf1 sf1 tf1 n ww p3 p4 p5 (R0 nu) (nu 1) (nu 3) (R0 nu i) (by first | assumption | omega) (by first | assumption | omega) (by first | assumption | omega) (by first | assumption | omega) (by first | assumption | omega) (by first | assumption | omega) (by first | assumption | omega) (by first | assumption | omega) (hRb _ (by omega)) H.size) (cwV 1 hts gX6_knee_X3_loadAt rfl rfl rfl (by decide +kernel) ⟨Nat.le_of_ble_eq_true rfl, Nat.le_of_ble_eq_true rfl⟩) (preV_at C S 3 rfl rfl [3, 4, 5, 6] rfl (by decide)) rfl rfl hl.1 rfl (lv_room (Nat.le_of_ble_eq_true rfl)) dX6_knee_63 ⟨Nat.le_of_ble_eq_true rfl, Nat.le_of_ble_eq_true rfl⟩) [3, 4, 5, 6] [0, 1, 2] rfl (wr := [(O, ob 6 [.ref h, .ref dh, .ref th, .ref HH, .ref IM, .ref SG, .ref P, .ref ca]), (h, ob 2 [.ref q, .int (nI n), .int (nI ww)]), (q, aI g 32 f)]) rfl (by decide) (by decide) (fun r0 w0 H locs hq S => ?_)
            obtain ⟨rfl, rfl⟩ := hq
            have S : ST g A ss H locs [(O, ob 6 [.ref h, .ref dh, .ref th, .ref HH, .ref IM, .ref SG, .ref P, .ref ca]), (h, ob 2 [.ref q, .int (nI n), .int (nI ww)]), (q, aI g 32 f), (P, ob 3 [.ref ra, .ref sa, .ref ta, .int (nI n), .int (nI ww), .int p3, .int p4, .int p5]), (ra, aI g 8 rf1), (sa, aI g 8 sf1), (ta, aI g 8 tf1)] := S
            refine lv_goto (tgt := 70) hx hb dX6_knee_66 (by decide) ?_
            refine top_eq (y := nI (ldN nu n ww i)) (by simp only [ldN, if_pos c_4]) ?_
            have hld : ldN nu n ww i ≤ 20000 := ld_le hn hSb hRb hin
            refine lv_istore (lv' := [(5, .int (nI (ldN nu n ww i))), (4, .int (nI i)), (3, .int (nI l0)), (2, .int (nI k0)), (0, .ref O), (1, .int x)]) hx hb dX6_knee_70 hl (by decide) rfl (fun ls hl => ?_)
            refine lv_iload hx hb dX6_knee_72 (lv_at hl 0 rfl) ?_
            refine lv_iload_n hx hb dX6_knee_74 rfl (lv_at hl 2 rfl) ?_
            refine bn_ile (tgt := 92) (a := ldN nu n ww i) (b := l0) hx hb rfl rfl (by omega) (by omega) dX6_knee_75 (by decide) (fun c_7 => ?_) (fun c_7 => ?_)
            · -- 75 T
              refine lv_iinc (v := nI (i + 1)) (lv' := [(4, .int (nI (i + 1))), (5, .int (nI (ldN nu n ww i))), (3, .int (nI l0)), (2, .int (nI k0)), (0, .ref O), (1, .int x)]) hx hb dX6_knee_92 hl (k := 1) rfl (nI_add _ _) (by decide) rfl (fun ls hl => ?_)
              refine lv_goto (tgt := 25) hx hb dX6_knee_95 (by decide) ?_
              exact ih25 (i + 1) k0 l0 (by omega) (by first | assumption | omega) (by simp only [kn, hk0, if_pos c_7]) (fun h9 => by simp only [kth, hk0, if_pos c_7]; exact hno h9) (by first | assumption | omega) H locs ls (ST.eq S (rfl)) (lv_sub hl [0, 2, 3, 4, 5] (rfl))
            · -- 75 F
              refine lv_iload_n hx hb dX6_knee_78 rfl (lv_at hl 3 rfl) ?_
              refine lv_iload_n hx hb dX6_knee_79 rfl (lv_at hl 5 rfl) ?_
              refine lv_icmp_ne (tgt := 86) hx hb dX6_knee_80 (by decide) (fun c_8 => ?_) (fun c_8 => ?_)
              · -- 80 T
                refine lv_iinc (v := nI (k0 + 1)) (lv' := [(2, .int (nI (k0 + 1))), (5, .int (nI (ldN nu n ww i))), (4, .int (nI i)), (3, .int (nI l0)), (0, .ref O), (1, .int x)]) hx hb dX6_knee_86 hl (k := 3) rfl (nI_add _ _) (by decide) rfl (fun ls hl => ?_)
                refine lv_iload hx hb dX6_knee_89 (lv_at hl 1 rfl) ?_
                refine lv_istore_n (lv' := [(3, .int (nI (ldN nu n ww i))), (2, .int (nI (k0 + 1))), (5, .int (nI (ldN nu n ww i))), (4, .int (nI i)), (0, .ref O), (1, .int x)]) hx hb dX6_knee_91 rfl hl (by decide) rfl (fun ls hl => ?_)
                refine lv_iinc (v := nI (i + 1)) (lv' := [(4, .int (nI (i + 1))), (3, .int (nI (ldN nu n ww i))), (2, .int (nI (k0 + 1))), (5, .int (nI (ldN nu n ww i))), (0, .ref O), (1, .int x)]) hx hb dX6_knee_92 hl (k := 3) rfl (nI_add _ _) (by decide) rfl (fun ls hl => ?_)
                refine lv_goto (tgt := 25) hx hb dX6_knee_95 (by decide) ?_
                exact ih25 (i + 1) (k0 + 1) (ldN nu n ww i) (by omega) (by first | assumption | omega) (by simp only [kn, hk0, if_neg c_7]) (fun h9 => by simp only [kth, hk0, if_neg c_7, if_neg (fun q9 : k0 = x.toNatClampNeg => c_8 (by rw [q9]; exact (nm_clamp hm1 h9).symm))]; exact hno h9) (by first | assumption | omega) H locs ls (ST.eq S (rfl)) (lv_sub hl [0, 1, 2, 4, 5] (rfl))
              · -- 80 F
                refine lv_iload hx hb dX6_knee_83 (lv_at hl 0 rfl) ?_
                exact ret_I C S hr dX6_knee_85 ⟨(by rw [← c_8]; exact (knee_hit hk0 hin hn c_7).symm), (nI n), (nI ww), p3, p4, p5, rf1, sf1, tf1, (rfl)⟩
    exact loop25 _ 0 0 0 (Nat.lt_succ_self _) (by first | assumption | omega) (rfl) (fun _ => rfl) (by first | assumption | omega) H locs ls (ST.eq S (rfl)) (lv_sub hl [0, 1, 2, 3, 4] (rfl))
  · -- 2 F
    refine lv_iconst (v := (-1)) hx hb dX6_knee_5 (by decide) ?_
    exact ret_I C S hr dX6_knee_6 ⟨((knee_bad c_1).symm), p1, p2, p3, p4, p5, rf, sf, tf, (rfl)⟩

theorem inX6_fewestThatHold_X2 : ∀ w ∈ wsX20, w ∈ wsX6_fewestThatHold := by decide +kernel
theorem inX6_fewestThatHold_X6 : ∀ w ∈ wsX60, w ∈ wsX6_fewestThatHold := by decide +kernel
set_option maxRecDepth 100000 in
set_option maxHeartbeats 4000000 in
theorem kX6_fewestThatHold (l : Launch) (g : GG) (O : Nat) (dh : Nat) (th : Nat) (HH : Nat) (IM : Nat) (SG : Nat) (ca : Nat) (h : Nat) (q : Nat) (f : Nat → Int32) (n : Nat) (ww : Nat) (nu : Nat → Nat → Nat) (P : Nat) (ra : Nat) (sa : Nat) (ta : Nat) (rf : Nat → Int32) (sf : Nat → Int32) (tf : Nat → Int32) (p1 : Int32) (p2 : Int32) (p3 : Int32) (p4 : Int32) (p5 : Int32) (p : Nat) (d : Nat) (hn1 : 1 ≤ n) (hn : n ≤ 8) (hww : ww < 256) (hf : ∀ a i, a < 4 → i < n → f (a * 8 + i) = nI (nu a i)) (hB : HB nu n) (hp : p < 1000) (hd : d < 100) : KI l g yX6_fewestThatHold wsX6_fewestThatHold 5 109 [.ref O, .int (nI p), .int (nI d)] [(O, ob 6 [.ref h, .ref dh, .ref th, .ref HH, .ref IM, .ref SG, .ref P, .ref ca]), (h, ob 2 [.ref q, .int (nI n), .int (nI ww)]), (q, aI g 32 f), (P, ob 3 [.ref ra, .ref sa, .ref ta, .int p1, .int p2, .int p3, .int p4, .int p5]), (ra, aI g 8 rf), (sa, aI g 8 sf), (ta, aI g 8 tf)] (fun (r : Int32) (w' : va_W) => r = (nI (chB (mayB ww) (okP nu n p d) 255)) ∧ ∃ (z1' : Int32), ∃ (z2' : Int32), ∃ (z3' : Int32), ∃ (z4' : Int32), ∃ (z5' : Int32), ∃ (rf' : Nat → Int32), ∃ (sf' : Nat → Int32), ∃ (tf' : Nat → Int32), w' = [(O, ob 6 [.ref h, .ref dh, .ref th, .ref HH, .ref IM, .ref SG, .ref P, .ref ca]), (h, ob 2 [.ref q, .int (nI n), .int (nI ww)]), (q, aI g 32 f), (P, ob 3 [.ref ra, .ref sa, .ref ta, .int z1', .int z2', .int z3', .int z4', .int z5']), (ra, aI g 8 rf'), (sa, aI g 8 sf'), (ta, aI g 8 tf')]) := by
  refine kI_of (cc := cX6_fewestThatHold) (maxL := 7) (by decide) rfl (Nat.le_of_ble_eq_true rfl) ?_
  intro pp ee ss mm bel mth cd A ls C S hr hl
  obtain ⟨hx, hb, hml, hown, hts⟩ := id C.1
  have hl : lv_has ls 7 [(0, .ref O), (1, .int (nI p)), (2, .int (nI d))] := hl
  obtain ⟨H, hH⟩ : ∃ H, H = ss.heap := ⟨_, rfl⟩
  obtain ⟨locs, hL0⟩ : ∃ L : List Loc, L = [] := ⟨_, rfl⟩
  rw [← hH, ← hL0] at S ⊢
  have hca : ∀ i, i < n → nu 2 i ≤ 30 := fun i9 h9 => (hB i9 h9).2.2.1
  have hSb : ∀ i, i < n → nu 1 i ≤ 9 := fun i9 h9 => (hB i9 h9).2.1.2
  have hTb : ∀ i, i < n → nu 3 i ≤ 99 := fun i9 h9 => (hB i9 h9).2.2.2.2
  have hRb : ∀ i, i < n → R0 nu i ≤ 240 := RC_le hn hca
  refine lv_aload_n hx hb dX6_fewestThatHold_0 rfl (lv_at hl 0 rfl) ?_
  refine top_get C S inX6_fewestThatHold_X6 rfl 0 rfl 0 (by decide) (by decide +kernel) rfl rfl dX6_fewestThatHold_1 ?_
  refine top_getN C S inX6_fewestThatHold_X2 rfl 1 rfl 2 (by decide) (by decide +kernel) rfl dX6_fewestThatHold_4 ?_
  refine lv_aload_n hx hb dX6_fewestThatHold_7 rfl (lv_at hl 0 rfl) ?_
  refine top_get C S inX6_fewestThatHold_X6 rfl 0 rfl 0 (by decide) (by decide +kernel) rfl rfl dX6_fewestThatHold_8 ?_
  refine top_getN C S inX6_fewestThatHold_X2 rfl 1 rfl 2 (by decide) (by decide +kernel) rfl dX6_fewestThatHold_11 ?_
  refine lv_ineg hx hb dX6_fewestThatHold_14 ?_
  refine lv_iand hx hb dX6_fewestThatHold_15 ?_
  refine lv_istore_n (lv' := [(3, .int ((nI ww) &&& (-(nI ww)))), (0, .ref O), (1, .int (nI p)), (2, .int (nI d))]) hx hb dX6_fewestThatHold_16 rfl hl (by decide) rfl (fun ls hl => ?_)
  refine lv_iconst (v := 0) hx hb dX6_fewestThatHold_17 (by decide) ?_
  refine lv_istore (lv' := [(4, .int 0), (3, .int ((nI ww) &&& (-(nI ww)))), (0, .ref O), (1, .int (nI p)), (2, .int (nI d))]) hx hb dX6_fewestThatHold_18 hl (by decide) rfl (fun ls hl => ?_)
  refine lv_iconst (v := 1) hx hb dX6_fewestThatHold_20 (by decide) ?_
  refine lv_istore (lv' := [(5, .int 1), (4, .int 0), (3, .int ((nI ww) &&& (-(nI ww)))), (0, .ref O), (1, .int (nI p)), (2, .int (nI d))]) hx hb dX6_fewestThatHold_21 hl (by decide) rfl (fun ls hl => ?_)
  have loop23 : ∀ (N0 : Nat) (j : Nat) (bst : Nat) (z1 : Int32) (z2 : Int32) (z3 : Int32) (z4 : Int32) (z5 : Int32) (r1 : Nat → Int32) (s1 : Nat → Int32) (t1 : Nat → Int32), 255 - j < N0 → (j ≤ 255) → (bst = chB (mayB ww) (okP nu n p d) j) → ∀ (H : Heap) (locs : List Loc) (ls : Array Slot), ST g A ss H locs [(O, ob 6 [.ref h, .ref dh, .ref th, .ref HH, .ref IM, .ref SG, .ref P, .ref ca]), (h, ob 2 [.ref q, .int (nI n), .int (nI ww)]), (q, aI g 32 f), (P, ob 3 [.ref ra, .ref sa, .ref ta, .int z1, .int z2, .int z3, .int z4, .int z5]), (ra, aI g 8 r1), (sa, aI g 8 s1), (ta, aI g 8 t1)] → lv_has ls 7 [(5, .int (nI (j + 1))), (4, .int (nI bst)), (3, .int ((nI ww) &&& (-(nI ww)))), (0, .ref O), (1, .int (nI p)), (2, .int (nI d))] → W pp l ee { frames := 5, cells := 0, slots := 0, locals := 109 } ss mm ([.ref O, .int (nI p), .int (nI d)] : List Value).toArray bel mth cd H locs 0 0 (QI bel ([.ref O, .int (nI p), .int (nI d)] : List Value).toArray ss g A (fun (r : Int32) (w' : va_W) => r = (nI (chB (mayB ww) (okP nu n p d) 255)) ∧ ∃ (z1' : Int32), ∃ (z2' : Int32), ∃ (z3' : Int32), ∃ (z4' : Int32), ∃ (z5' : Int32), ∃ (rf' : Nat → Int32), ∃ (sf' : Nat → Int32), ∃ (tf' : Nat → Int32), w' = [(O, ob 6 [.ref h, .ref dh, .ref th, .ref HH, .ref IM, .ref SG, .ref P, .ref ca]), (h, ob 2 [.ref q, .int (nI n), .int (nI ww)]), (q, aI g 32 f), (P, ob 3 [.ref ra, .ref sa, .ref ta, .int z1', .int z2', .int z3', .int z4', .int z5']), (ra, aI g 8 rf'), (sa, aI g 8 sf'), (ta, aI g 8 tf')])) (F0 mm 23 ls []) := by
    intro N0
    induction N0 with
    | zero => intro j bst z1 z2 z3 z4 z5 r1 s1 t1 hN; exact absurd hN (Nat.not_lt_zero _)
    | succ N0 ih23 =>
      intro j bst z1 z2 z3 z4 z5 r1 s1 t1 hN hj hb0 H locs ls S hl
      have hbl : bst ≤ j := by rw [hb0]; exact chB_le j
      have hq1 := pop_le (j + 1)
      have hq2 := pop_le bst
      refine lv_iload hx hb dX6_fewestThatHold_23 (lv_at hl 0 rfl) ?_
      refine lv_sipush (v := 255) hx hb dX6_fewestThatHold_25 (by decide) ?_
      refine bn_igt (tgt := 120) (a := j + 1) (b := 255) hx hb rfl rfl (by omega) (by omega) dX6_fewestThatHold_28 (by decide) (fun c_1 => ?_) (fun c_1 => ?_)
      · -- 28 T
        refine lv_iload hx hb dX6_fewestThatHold_120 (lv_at hl 1 rfl) ?_
        exact ret_I C S hr dX6_fewestThatHold_122 ⟨(by rw [hb0, show j = 255 by omega]), z1, z2, z3, z4, z5, r1, s1, t1, (rfl)⟩
      · -- 28 F
        refine lv_iload hx hb dX6_fewestThatHold_31 (lv_at hl 0 rfl) ?_
        refine lv_aload_n hx hb dX6_fewestThatHold_33 rfl (lv_at hl 3 rfl) ?_
        refine top_get C S inX6_fewestThatHold_X6 rfl 0 rfl 0 (by decide) (by decide +kernel) rfl rfl dX6_fewestThatHold_34 ?_
        refine top_getN C S inX6_fewestThatHold_X2 rfl 1 rfl 2 (by decide) (by decide +kernel) rfl dX6_fewestThatHold_37 ?_
        refine lv_iconst (v := (-1)) hx hb dX6_fewestThatHold_40 (by decide) ?_
        refine lv_ixor hx hb dX6_fewestThatHold_41 ?_
        refine lv_iand hx hb dX6_fewestThatHold_42 ?_
        refine lv_if_ne (tgt := 57) hx hb dX6_fewestThatHold_43 (by decide) (fun c_2 => ?_) (fun c_2 => ?_)
        · -- 43 T
          refine lv_iconst (v := 0) hx hb dX6_fewestThatHold_57 (by decide) ?_
          refine lv_istore (lv' := [(6, .int 0), (5, .int (nI (j + 1))), (4, .int (nI bst)), (3, .int ((nI ww) &&& (-(nI ww)))), (0, .ref O), (1, .int (nI p)), (2, .int (nI d))]) hx hb dX6_fewestThatHold_58 hl (by decide) rfl (fun ls hl => ?_)
          refine lv_iload hx hb dX6_fewestThatHold_60 (lv_at hl 0 rfl) ?_
          refine bn_zeq (tgt := 114) (a := 0) hx hb rfl (by omega) dX6_fewestThatHold_62 (by decide) (fun c_3 => ?_) (fun c_3 => ?_)
          · -- 62 T
            refine lv_iinc (v := nI ((j + 1) + 1)) (lv' := [(5, .int (nI ((j + 1) + 1))), (6, .int 0), (4, .int (nI bst)), (3, .int ((nI ww) &&& (-(nI ww)))), (0, .ref O), (1, .int (nI p)), (2, .int (nI d))]) hx hb dX6_fewestThatHold_114 hl (k := 1) rfl (nI_add _ _) (by decide) rfl (fun ls hl => ?_)
            refine lv_goto (tgt := 23) hx hb dX6_fewestThatHold_117 (by decide) ?_
            exact ih23 (j + 1) bst z1 z2 z3 z4 z5 r1 s1 t1 (by omega) (by first | assumption | omega) (by simp only [chB, ← hb0, mayB, if_neg c_1, if_neg c_2, if_pos c_3, if_true, if_false, Bool.false_eq_true, reduceIte]) H locs ls (ST.eq S (rfl)) (lv_sub hl [0, 2, 3, 4, 5, 6] (rfl))
          · -- 62 F
            exact absurd c_3 (by decide)
        · -- 43 F
          refine lv_iload hx hb dX6_fewestThatHold_46 (lv_at hl 0 rfl) ?_
          refine lv_iload_n hx hb dX6_fewestThatHold_48 rfl (lv_at hl 2 rfl) ?_
          refine lv_iand hx hb dX6_fewestThatHold_49 ?_
          refine lv_if_eq (tgt := 57) hx hb dX6_fewestThatHold_50 (by decide) (fun c_4 => ?_) (fun c_4 => ?_)
          · -- 50 T
            refine lv_iconst (v := 0) hx hb dX6_fewestThatHold_57 (by decide) ?_
            refine lv_istore (lv' := [(6, .int 0), (5, .int (nI (j + 1))), (4, .int (nI bst)), (3, .int ((nI ww) &&& (-(nI ww)))), (0, .ref O), (1, .int (nI p)), (2, .int (nI d))]) hx hb dX6_fewestThatHold_58 hl (by decide) rfl (fun ls hl => ?_)
            refine lv_iload hx hb dX6_fewestThatHold_60 (lv_at hl 0 rfl) ?_
            refine bn_zeq (tgt := 114) (a := 0) hx hb rfl (by omega) dX6_fewestThatHold_62 (by decide) (fun c_5 => ?_) (fun c_5 => ?_)
            · -- 62 T
              refine lv_iinc (v := nI ((j + 1) + 1)) (lv' := [(5, .int (nI ((j + 1) + 1))), (6, .int 0), (4, .int (nI bst)), (3, .int ((nI ww) &&& (-(nI ww)))), (0, .ref O), (1, .int (nI p)), (2, .int (nI d))]) hx hb dX6_fewestThatHold_114 hl (k := 1) rfl (nI_add _ _) (by decide) rfl (fun ls hl => ?_)
              refine lv_goto (tgt := 23) hx hb dX6_fewestThatHold_117 (by decide) ?_
              exact ih23 (j + 1) bst z1 z2 z3 z4 z5 r1 s1 t1 (by omega) (by first | assumption | omega) (by simp only [chB, ← hb0, mayB, if_neg c_1, if_pos c_2, if_pos c_4, if_pos c_5, if_true, if_false, Bool.false_eq_true, reduceIte]) H locs ls (ST.eq S (rfl)) (lv_sub hl [0, 2, 3, 4, 5, 6] (rfl))
            · -- 62 F
              exact absurd c_5 (by decide)
          · -- 50 F
            refine lv_iconst (v := 1) hx hb dX6_fewestThatHold_53 (by decide) ?_
            refine lv_goto (tgt := 58) hx hb dX6_fewestThatHold_54 (by decide) ?_
            refine lv_istore (lv' := [(6, .int 1), (5, .int (nI (j + 1))), (4, .int (nI bst)), (3, .int ((nI ww) &&& (-(nI ww)))), (0, .ref O), (1, .int (nI p)), (2, .int (nI d))]) hx hb dX6_fewestThatHold_58 hl (by decide) rfl (fun ls hl => ?_)
            refine lv_iload hx hb dX6_fewestThatHold_60 (lv_at hl 0 rfl) ?_
            refine bn_zeq (tgt := 114) (a := 1) hx hb rfl (by omega) dX6_fewestThatHold_62 (by decide) (fun c_6 => ?_) (fun c_6 => ?_)
            · -- 62 T
              exact absurd c_6 (by decide)
            · -- 62 F
              refine lv_iload hx hb dX6_fewestThatHold_65 (lv_at hl 2 rfl) ?_
              refine bn_zeq (tgt := 83) (a := bst) hx hb rfl (by omega) dX6_fewestThatHold_67 (by decide) (fun c_7 => ?_) (fun c_7 => ?_)
              · -- 67 T
                refine lv_aload_n hx hb dX6_fewestThatHold_83 rfl (lv_at hl 4 rfl) ?_
                refine top_get C S inX6_fewestThatHold_X6 rfl 0 rfl 6 (by decide) (by decide +kernel) rfl rfl dX6_fewestThatHold_84 ?_
                refine lv_aload_n hx hb dX6_fewestThatHold_87 rfl (lv_at hl 4 rfl) ?_
                refine top_get C S inX6_fewestThatHold_X6 rfl 0 rfl 0 (by decide) (by decide +kernel) rfl rfl dX6_fewestThatHold_88 ?_
                refine lv_iload hx hb dX6_fewestThatHold_91 (lv_at hl 1 rfl) ?_
                refine lv_iload hx hb dX6_fewestThatHold_93 (lv_at hl 1 rfl) ?_
                refine after_V (wc := [(P, ob 3 [.ref ra, .ref sa, .ref ta, .int z1, .int z2, .int z3, .int z4, .int z5]), (ra, aI g 8 r1), (sa, aI g 8 s1), (ta, aI g 8 t1), (h, ob 2 [.ref q, .int (nI n), .int (nI ww)]), (q, aI g 32 f)]) (y := yX3_stack) C S (va_runV (As := [.ref h, .int (nI (j + 1)), .int (nI (j + 1))]) (rest := []) C.1 (kX3_stack l g P ra sa ta r1 s1 t1 z1 z2 z3 z4 z5 h q f n ww nu (j + 1) (j + 1) (by first | assumption | omega) (by omega) (by omega) (by first | assumption | omega) (by first | assumption | omega) H.size) (cwV 3 hts gX6_fewestThatHold_X3_stack rfl rfl rfl (by decide +kernel) ⟨Nat.le_of_ble_eq_true rfl, Nat.le_of_ble_eq_true rfl⟩) (preV_at C S 3 rfl rfl [3, 4, 5, 6, 1, 2] rfl (by decide)) rfl rfl hl.1 rfl (lv_room (Nat.le_of_ble_eq_true rfl)) dX6_fewestThatHold_95 ⟨Nat.le_of_ble_eq_true rfl, Nat.le_of_ble_eq_true rfl⟩) [3, 4, 5, 6, 1, 2] [0] rfl (wr := [(O, ob 6 [.ref h, .ref dh, .ref th, .ref HH, .ref IM, .ref SG, .ref P, .ref ca])]) rfl (by decide) (by decide) (fun w0 H locs hq S => ?_)
                obtain ⟨rf1, sf1, tf1, hR1, hS1, hT1, rfl⟩ := hq
                have S : ST g A ss H locs [(O, ob 6 [.ref h, .ref dh, .ref th, .ref HH, .ref IM, .ref SG, .ref P, .ref ca]), (h, ob 2 [.ref q, .int (nI n), .int (nI ww)]), (q, aI g 32 f), (P, ob 3 [.ref ra, .ref sa, .ref ta, .int (nI n), .int (nI ((j + 1) &&& (j + 1))), .int z3, .int z4, .int z5]), (ra, aI g 8 rf1), (sa, aI g 8 sf1), (ta, aI g 8 tf1)] := ST.sub S [0, 5, 6, 1, 2, 3, 4] (by decide) rfl
                rw [Nat.and_self] at S
                have S : ST g A ss H locs [(O, ob 6 [.ref h, .ref dh, .ref th, .ref HH, .ref IM, .ref SG, .ref P, .ref ca]), (h, ob 2 [.ref q, .int (nI n), .int (nI ww)]), (q, aI g 32 f), (P, ob 3 [.ref ra, .ref sa, .ref ta, .int (nI n), .int (nI (j + 1)), .int z3, .int z4, .int z5]), (ra, aI g 8 rf1), (sa, aI g 8 sf1), (ta, aI g 8 tf1)] := S
                refine lv_aload_n hx hb dX6_fewestThatHold_98 rfl (lv_at hl 4 rfl) ?_
                refine top_get C S inX6_fewestThatHold_X6 rfl 0 rfl 6 (by decide) (by decide +kernel) rfl rfl dX6_fewestThatHold_99 ?_
                refine lv_iload_n hx hb dX6_fewestThatHold_102 rfl (lv_at hl 5 rfl) ?_
                refine lv_iload_n hx hb dX6_fewestThatHold_103 rfl (lv_at hl 6 rfl) ?_
                refine after_I (wc := [(P, ob 3 [.ref ra, .ref sa, .ref ta, .int (nI n), .int (nI (j + 1)), .int z3, .int z4, .int z5]), (ra, aI g 8 rf1), (sa, aI g 8 sf1), (ta, aI g 8 tf1)]) (y := yX3_bearsWithin) C S (va_runV (As := [.int (nI p), .int (nI d)]) (rest := []) C.1 (kX3_bearsWithin l g P ra sa ta rf1 sf1 tf1 n (j + 1) z3 z4 z5 (RC (nu 2) (j + 1)) (nu 1) (nu 3) p d (by first | assumption | omega) (by omega) (by first | assumption | omega) (by first | assumption | omega) (by first | assumption | omega) (RC_le hn hca) (by first | assumption | omega) (by first | assumption | omega) (by omega) (by omega) H.size) (cwV 2 hts gX6_fewestThatHold_X3_bearsWithin rfl rfl rfl (by decide +kernel) ⟨Nat.le_of_ble_eq_true rfl, Nat.le_of_ble_eq_true rfl⟩) (preV_at C S 3 rfl rfl [3, 4, 5, 6] rfl (by decide)) rfl rfl hl.1 rfl (lv_room (Nat.le_of_ble_eq_true rfl)) dX6_fewestThatHold_104 ⟨Nat.le_of_ble_eq_true rfl, Nat.le_of_ble_eq_true rfl⟩) [3, 4, 5, 6] [0, 1, 2] rfl (wr := [(O, ob 6 [.ref h, .ref dh, .ref th, .ref HH, .ref IM, .ref SG, .ref P, .ref ca]), (h, ob 2 [.ref q, .int (nI n), .int (nI ww)]), (q, aI g 32 f)]) rfl (by decide) (by decide) (fun r0 w0 H locs hq S => ?_)
                obtain ⟨rfl, u'_8, l'_9, v'_10, rfl⟩ := hq
                have S : ST g A ss H locs [(O, ob 6 [.ref h, .ref dh, .ref th, .ref HH, .ref IM, .ref SG, .ref P, .ref ca]), (h, ob 2 [.ref q, .int (nI n), .int (nI ww)]), (q, aI g 32 f), (P, ob 3 [.ref ra, .ref sa, .ref ta, .int (nI n), .int (nI (j + 1)), .int u'_8, .int l'_9, .int v'_10]), (ra, aI g 8 rf1), (sa, aI g 8 sf1), (ta, aI g 8 tf1)] := S
                refine top_eq (y := bI (okP nu n p d (j + 1))) rfl ?_
                refine br_eqB (tgt := 114) hx hb dX6_fewestThatHold_107 (by decide) (fun c_11 => ?_) (fun c_11 => ?_)
                · -- 107 T
                  refine lv_iinc (v := nI ((j + 1) + 1)) (lv' := [(5, .int (nI ((j + 1) + 1))), (6, .int 1), (4, .int (nI bst)), (3, .int ((nI ww) &&& (-(nI ww)))), (0, .ref O), (1, .int (nI p)), (2, .int (nI d))]) hx hb dX6_fewestThatHold_114 hl (k := 1) rfl (nI_add _ _) (by decide) rfl (fun ls hl => ?_)
                  refine lv_goto (tgt := 23) hx hb dX6_fewestThatHold_117 (by decide) ?_
                  exact ih23 (j + 1) bst (nI n) (nI (j + 1)) u'_8 l'_9 v'_10 rf1 sf1 tf1 (by omega) (by first | assumption | omega) (by simp only [chB, ← hb0, mayB, if_neg c_1, if_pos c_2, if_neg c_4, if_neg c_6, if_pos c_7, if_neg (Bool.eq_false_iff.mp c_11), if_true, if_false, Bool.false_eq_true, reduceIte]) H locs ls (ST.eq S (rfl)) (lv_sub hl [0, 2, 3, 4, 5, 6] (rfl))
                · -- 107 F
                  refine lv_iload hx hb dX6_fewestThatHold_110 (lv_at hl 1 rfl) ?_
                  refine lv_istore (lv' := [(4, .int (nI (j + 1))), (6, .int 1), (5, .int (nI (j + 1))), (3, .int ((nI ww) &&& (-(nI ww)))), (0, .ref O), (1, .int (nI p)), (2, .int (nI d))]) hx hb dX6_fewestThatHold_112 hl (by decide) rfl (fun ls hl => ?_)
                  refine lv_iinc (v := nI ((j + 1) + 1)) (lv' := [(5, .int (nI ((j + 1) + 1))), (4, .int (nI (j + 1))), (6, .int 1), (3, .int ((nI ww) &&& (-(nI ww)))), (0, .ref O), (1, .int (nI p)), (2, .int (nI d))]) hx hb dX6_fewestThatHold_114 hl (k := 2) rfl (nI_add _ _) (by decide) rfl (fun ls hl => ?_)
                  refine lv_goto (tgt := 23) hx hb dX6_fewestThatHold_117 (by decide) ?_
                  exact ih23 (j + 1) (j + 1) (nI n) (nI (j + 1)) u'_8 l'_9 v'_10 rf1 sf1 tf1 (by omega) (by first | assumption | omega) (by simp only [chB, ← hb0, mayB, if_neg c_1, if_pos c_2, if_neg c_4, if_neg c_6, if_pos c_7, if_pos c_11, if_true, if_false, Bool.false_eq_true, reduceIte]) H locs ls (ST.eq S (rfl)) (lv_sub hl [0, 1, 3, 4, 5, 6] (rfl))
              · -- 67 F
                refine lv_iload hx hb dX6_fewestThatHold_70 (lv_at hl 1 rfl) ?_
                refine after_I (wc := []) (y := yJ6_bitCount_0f7a4) C S (va_runS (As := [.int (nI (j + 1))]) (rest := []) C.1 (kJ6_bitCount_0f7a4 l g (j + 1) (by first | assumption | omega) H.size) (va_cwS 1 hts gX6_fewestThatHold_J6_bitCount_0f7a4 rfl rfl rfl (by decide +kernel) ⟨Nat.le_of_ble_eq_true rfl, Nat.le_of_ble_eq_true rfl⟩) (preS_at C S [] rfl (by decide)) rfl rfl hl.1 rfl (lv_room (Nat.le_of_ble_eq_true rfl)) dX6_fewestThatHold_72 ⟨Nat.le_of_ble_eq_true rfl, Nat.le_of_ble_eq_true rfl⟩) [] [0, 1, 2, 3, 4, 5, 6] rfl (wr := [(O, ob 6 [.ref h, .ref dh, .ref th, .ref HH, .ref IM, .ref SG, .ref P, .ref ca]), (h, ob 2 [.ref q, .int (nI n), .int (nI ww)]), (q, aI g 32 f), (P, ob 3 [.ref ra, .ref sa, .ref ta, .int z1, .int z2, .int z3, .int z4, .int z5]), (ra, aI g 8 r1), (sa, aI g 8 s1), (ta, aI g 8 t1)]) rfl (by decide) (by decide) (fun r0 w0 H locs hq S => ?_)
                obtain ⟨rfl, rfl⟩ := hq
                have S : ST g A ss H locs [(O, ob 6 [.ref h, .ref dh, .ref th, .ref HH, .ref IM, .ref SG, .ref P, .ref ca]), (h, ob 2 [.ref q, .int (nI n), .int (nI ww)]), (q, aI g 32 f), (P, ob 3 [.ref ra, .ref sa, .ref ta, .int z1, .int z2, .int z3, .int z4, .int z5]), (ra, aI g 8 r1), (sa, aI g 8 s1), (ta, aI g 8 t1)] := S
                refine lv_iload hx hb dX6_fewestThatHold_75 (lv_at hl 2 rfl) ?_
                refine after_I (wc := []) (y := yJ6_bitCount_0f7a4) C S (va_runS (As := [.int (nI bst)]) (rest := [.int (nI (pop (j + 1)))]) C.1 (kJ6_bitCount_0f7a4 l g bst (by first | assumption | omega) H.size) (va_cwS 1 hts gX6_fewestThatHold_J6_bitCount_0f7a4 rfl rfl rfl (by decide +kernel) ⟨Nat.le_of_ble_eq_true rfl, Nat.le_of_ble_eq_true rfl⟩) (preS_at C S [] rfl (by decide)) rfl rfl hl.1 rfl (lv_room (Nat.le_of_ble_eq_true rfl)) dX6_fewestThatHold_77 ⟨Nat.le_of_ble_eq_true rfl, Nat.le_of_ble_eq_true rfl⟩) [] [0, 1, 2, 3, 4, 5, 6] rfl (wr := [(O, ob 6 [.ref h, .ref dh, .ref th, .ref HH, .ref IM, .ref SG, .ref P, .ref ca]), (h, ob 2 [.ref q, .int (nI n), .int (nI ww)]), (q, aI g 32 f), (P, ob 3 [.ref ra, .ref sa, .ref ta, .int z1, .int z2, .int z3, .int z4, .int z5]), (ra, aI g 8 r1), (sa, aI g 8 s1), (ta, aI g 8 t1)]) rfl (by decide) (by decide) (fun r0 w0 H locs hq S => ?_)
                obtain ⟨rfl, rfl⟩ := hq
                have S : ST g A ss H locs [(O, ob 6 [.ref h, .ref dh, .ref th, .ref HH, .ref IM, .ref SG, .ref P, .ref ca]), (h, ob 2 [.ref q, .int (nI n), .int (nI ww)]), (q, aI g 32 f), (P, ob 3 [.ref ra, .ref sa, .ref ta, .int z1, .int z2, .int z3, .int z4, .int z5]), (ra, aI g 8 r1), (sa, aI g 8 s1), (ta, aI g 8 t1)] := S
                refine bn_ige (tgt := 114) (a := pop (j + 1)) (b := pop bst) hx hb rfl rfl (by omega) (by omega) dX6_fewestThatHold_80 (by decide) (fun c_12 => ?_) (fun c_12 => ?_)
                · -- 80 T
                  refine lv_iinc (v := nI ((j + 1) + 1)) (lv' := [(5, .int (nI ((j + 1) + 1))), (6, .int 1), (4, .int (nI bst)), (3, .int ((nI ww) &&& (-(nI ww)))), (0, .ref O), (1, .int (nI p)), (2, .int (nI d))]) hx hb dX6_fewestThatHold_114 hl (k := 1) rfl (nI_add _ _) (by decide) rfl (fun ls hl => ?_)
                  refine lv_goto (tgt := 23) hx hb dX6_fewestThatHold_117 (by decide) ?_
                  exact ih23 (j + 1) bst z1 z2 z3 z4 z5 r1 s1 t1 (by omega) (by first | assumption | omega) (by simp only [chB, ← hb0, mayB, if_neg c_1, if_pos c_2, if_neg c_4, if_neg c_6, if_neg c_7, if_pos c_12, if_true, if_false, Bool.false_eq_true, reduceIte]) H locs ls (ST.eq S (rfl)) (lv_sub hl [0, 2, 3, 4, 5, 6] (rfl))
                · -- 80 F
                  refine lv_aload_n hx hb dX6_fewestThatHold_83 rfl (lv_at hl 4 rfl) ?_
                  refine top_get C S inX6_fewestThatHold_X6 rfl 0 rfl 6 (by decide) (by decide +kernel) rfl rfl dX6_fewestThatHold_84 ?_
                  refine lv_aload_n hx hb dX6_fewestThatHold_87 rfl (lv_at hl 4 rfl) ?_
                  refine top_get C S inX6_fewestThatHold_X6 rfl 0 rfl 0 (by decide) (by decide +kernel) rfl rfl dX6_fewestThatHold_88 ?_
                  refine lv_iload hx hb dX6_fewestThatHold_91 (lv_at hl 1 rfl) ?_
                  refine lv_iload hx hb dX6_fewestThatHold_93 (lv_at hl 1 rfl) ?_
                  refine after_V (wc := [(P, ob 3 [.ref ra, .ref sa, .ref ta, .int z1, .int z2, .int z3, .int z4, .int z5]), (ra, aI g 8 r1), (sa, aI g 8 s1), (ta, aI g 8 t1), (h, ob 2 [.ref q, .int (nI n), .int (nI ww)]), (q, aI g 32 f)]) (y := yX3_stack) C S (va_runV (As := [.ref h, .int (nI (j + 1)), .int (nI (j + 1))]) (rest := []) C.1 (kX3_stack l g P ra sa ta r1 s1 t1 z1 z2 z3 z4 z5 h q f n ww nu (j + 1) (j + 1) (by first | assumption | omega) (by omega) (by omega) (by first | assumption | omega) (by first | assumption | omega) H.size) (cwV 3 hts gX6_fewestThatHold_X3_stack rfl rfl rfl (by decide +kernel) ⟨Nat.le_of_ble_eq_true rfl, Nat.le_of_ble_eq_true rfl⟩) (preV_at C S 3 rfl rfl [3, 4, 5, 6, 1, 2] rfl (by decide)) rfl rfl hl.1 rfl (lv_room (Nat.le_of_ble_eq_true rfl)) dX6_fewestThatHold_95 ⟨Nat.le_of_ble_eq_true rfl, Nat.le_of_ble_eq_true rfl⟩) [3, 4, 5, 6, 1, 2] [0] rfl (wr := [(O, ob 6 [.ref h, .ref dh, .ref th, .ref HH, .ref IM, .ref SG, .ref P, .ref ca])]) rfl (by decide) (by decide) (fun w0 H locs hq S => ?_)
                  obtain ⟨rf1, sf1, tf1, hR1, hS1, hT1, rfl⟩ := hq
                  have S : ST g A ss H locs [(O, ob 6 [.ref h, .ref dh, .ref th, .ref HH, .ref IM, .ref SG, .ref P, .ref ca]), (h, ob 2 [.ref q, .int (nI n), .int (nI ww)]), (q, aI g 32 f), (P, ob 3 [.ref ra, .ref sa, .ref ta, .int (nI n), .int (nI ((j + 1) &&& (j + 1))), .int z3, .int z4, .int z5]), (ra, aI g 8 rf1), (sa, aI g 8 sf1), (ta, aI g 8 tf1)] := ST.sub S [0, 5, 6, 1, 2, 3, 4] (by decide) rfl
                  rw [Nat.and_self] at S
                  have S : ST g A ss H locs [(O, ob 6 [.ref h, .ref dh, .ref th, .ref HH, .ref IM, .ref SG, .ref P, .ref ca]), (h, ob 2 [.ref q, .int (nI n), .int (nI ww)]), (q, aI g 32 f), (P, ob 3 [.ref ra, .ref sa, .ref ta, .int (nI n), .int (nI (j + 1)), .int z3, .int z4, .int z5]), (ra, aI g 8 rf1), (sa, aI g 8 sf1), (ta, aI g 8 tf1)] := S
                  refine lv_aload_n hx hb dX6_fewestThatHold_98 rfl (lv_at hl 4 rfl) ?_
                  refine top_get C S inX6_fewestThatHold_X6 rfl 0 rfl 6 (by decide) (by decide +kernel) rfl rfl dX6_fewestThatHold_99 ?_
                  refine lv_iload_n hx hb dX6_fewestThatHold_102 rfl (lv_at hl 5 rfl) ?_
                  refine lv_iload_n hx hb dX6_fewestThatHold_103 rfl (lv_at hl 6 rfl) ?_
                  refine after_I (wc := [(P, ob 3 [.ref ra, .ref sa, .ref ta, .int (nI n), .int (nI (j + 1)), .int z3, .int z4, .int z5]), (ra, aI g 8 rf1), (sa, aI g 8 sf1), (ta, aI g 8 tf1)]) (y := yX3_bearsWithin) C S (va_runV (As := [.int (nI p), .int (nI d)]) (rest := []) C.1 (kX3_bearsWithin l g P ra sa ta rf1 sf1 tf1 n (j + 1) z3 z4 z5 (RC (nu 2) (j + 1)) (nu 1) (nu 3) p d (by first | assumption | omega) (by omega) (by first | assumption | omega) (by first | assumption | omega) (by first | assumption | omega) (RC_le hn hca) (by first | assumption | omega) (by first | assumption | omega) (by omega) (by omega) H.size) (cwV 2 hts gX6_fewestThatHold_X3_bearsWithin rfl rfl rfl (by decide +kernel) ⟨Nat.le_of_ble_eq_true rfl, Nat.le_of_ble_eq_true rfl⟩) (preV_at C S 3 rfl rfl [3, 4, 5, 6] rfl (by decide)) rfl rfl hl.1 rfl (lv_room (Nat.le_of_ble_eq_true rfl)) dX6_fewestThatHold_104 ⟨Nat.le_of_ble_eq_true rfl, Nat.le_of_ble_eq_true rfl⟩) [3, 4, 5, 6] [0, 1, 2] rfl (wr := [(O, ob 6 [.ref h, .ref dh, .ref th, .ref HH, .ref IM, .ref SG, .ref P, .ref ca]), (h, ob 2 [.ref q, .int (nI n), .int (nI ww)]), (q, aI g 32 f)]) rfl (by decide) (by decide) (fun r0 w0 H locs hq S => ?_)
                  obtain ⟨rfl, u'_13, l'_14, v'_15, rfl⟩ := hq
                  have S : ST g A ss H locs [(O, ob 6 [.ref h, .ref dh, .ref th, .ref HH, .ref IM, .ref SG, .ref P, .ref ca]), (h, ob 2 [.ref q, .int (nI n), .int (nI ww)]), (q, aI g 32 f), (P, ob 3 [.ref ra, .ref sa, .ref ta, .int (nI n), .int (nI (j + 1)), .int u'_13, .int l'_14, .int v'_15]), (ra, aI g 8 rf1), (sa, aI g 8 sf1), (ta, aI g 8 tf1)] := S
                  refine top_eq (y := bI (okP nu n p d (j + 1))) rfl ?_
                  refine br_eqB (tgt := 114) hx hb dX6_fewestThatHold_107 (by decide) (fun c_16 => ?_) (fun c_16 => ?_)
                  · -- 107 T
                    refine lv_iinc (v := nI ((j + 1) + 1)) (lv' := [(5, .int (nI ((j + 1) + 1))), (6, .int 1), (4, .int (nI bst)), (3, .int ((nI ww) &&& (-(nI ww)))), (0, .ref O), (1, .int (nI p)), (2, .int (nI d))]) hx hb dX6_fewestThatHold_114 hl (k := 1) rfl (nI_add _ _) (by decide) rfl (fun ls hl => ?_)
                    refine lv_goto (tgt := 23) hx hb dX6_fewestThatHold_117 (by decide) ?_
                    exact ih23 (j + 1) bst (nI n) (nI (j + 1)) u'_13 l'_14 v'_15 rf1 sf1 tf1 (by omega) (by first | assumption | omega) (by simp only [chB, ← hb0, mayB, if_neg c_1, if_pos c_2, if_neg c_4, if_neg c_6, if_neg c_7, if_neg c_12, if_neg (Bool.eq_false_iff.mp c_16), if_true, if_false, Bool.false_eq_true, reduceIte]) H locs ls (ST.eq S (rfl)) (lv_sub hl [0, 2, 3, 4, 5, 6] (rfl))
                  · -- 107 F
                    refine lv_iload hx hb dX6_fewestThatHold_110 (lv_at hl 1 rfl) ?_
                    refine lv_istore (lv' := [(4, .int (nI (j + 1))), (6, .int 1), (5, .int (nI (j + 1))), (3, .int ((nI ww) &&& (-(nI ww)))), (0, .ref O), (1, .int (nI p)), (2, .int (nI d))]) hx hb dX6_fewestThatHold_112 hl (by decide) rfl (fun ls hl => ?_)
                    refine lv_iinc (v := nI ((j + 1) + 1)) (lv' := [(5, .int (nI ((j + 1) + 1))), (4, .int (nI (j + 1))), (6, .int 1), (3, .int ((nI ww) &&& (-(nI ww)))), (0, .ref O), (1, .int (nI p)), (2, .int (nI d))]) hx hb dX6_fewestThatHold_114 hl (k := 2) rfl (nI_add _ _) (by decide) rfl (fun ls hl => ?_)
                    refine lv_goto (tgt := 23) hx hb dX6_fewestThatHold_117 (by decide) ?_
                    exact ih23 (j + 1) (j + 1) (nI n) (nI (j + 1)) u'_13 l'_14 v'_15 rf1 sf1 tf1 (by omega) (by first | assumption | omega) (by simp only [chB, ← hb0, mayB, if_neg c_1, if_pos c_2, if_neg c_4, if_neg c_6, if_neg c_7, if_neg c_12, if_pos c_16, if_true, if_false, Bool.false_eq_true, reduceIte]) H locs ls (ST.eq S (rfl)) (lv_sub hl [0, 1, 3, 4, 5, 6] (rfl))
  exact loop23 _ 0 0 p1 p2 p3 p4 p5 rf sf tf (Nat.lt_succ_self _) (by first | assumption | omega) (rfl) H locs ls (ST.eq S (rfl)) (lv_sub hl [0, 1, 2, 3, 4, 5] (rfl))

set_option maxRecDepth 100000 in
set_option maxHeartbeats 4000000 in
theorem kX6_chosen (l : Launch) (g : GG) (O : Nat) (dh : Nat) (th : Nat) (HH : Nat) (IM : Nat) (SG : Nat) (ca : Nat) (h : Nat) (q : Nat) (f : Nat → Int32) (n : Nat) (ww : Nat) (nu : Nat → Nat → Nat) (P : Nat) (ra : Nat) (sa : Nat) (ta : Nat) (rf : Nat → Int32) (sf : Nat → Int32) (tf : Nat → Int32) (p1 : Int32) (p2 : Int32) (p3 : Int32) (p4 : Int32) (p5 : Int32) (x : Int32) (y : Int32) (z : Int32) (hn1 : 1 ≤ n) (hn : n ≤ 8) (hww : ww < 256) (hf : ∀ a i, a < 4 → i < n → f (a * 8 + i) = nI (nu a i)) (hB : HB nu n) : KI l g yX6_chosen wsX6_chosen 6 135 [.ref O, .int x, .int y, .int z] [(O, ob 6 [.ref h, .ref dh, .ref th, .ref HH, .ref IM, .ref SG, .ref P, .ref ca]), (h, ob 2 [.ref q, .int (nI n), .int (nI ww)]), (q, aI g 32 f), (P, ob 3 [.ref ra, .ref sa, .ref ta, .int p1, .int p2, .int p3, .int p4, .int p5]), (ra, aI g 8 rf), (sa, aI g 8 sf), (ta, aI g 8 tf)] (fun (r : Int32) (w' : va_W) => r = (chk3 (-1) 1000 100 2 (chosenA nu n ww) x y z) ∧ ∃ (z1' : Int32), ∃ (z2' : Int32), ∃ (z3' : Int32), ∃ (z4' : Int32), ∃ (z5' : Int32), ∃ (rf' : Nat → Int32), ∃ (sf' : Nat → Int32), ∃ (tf' : Nat → Int32), w' = [(O, ob 6 [.ref h, .ref dh, .ref th, .ref HH, .ref IM, .ref SG, .ref P, .ref ca]), (h, ob 2 [.ref q, .int (nI n), .int (nI ww)]), (q, aI g 32 f), (P, ob 3 [.ref ra, .ref sa, .ref ta, .int z1', .int z2', .int z3', .int z4', .int z5']), (ra, aI g 8 rf'), (sa, aI g 8 sf'), (ta, aI g 8 tf')]) := by
  refine kI_of (cc := cX6_chosen) (maxL := 5) (by decide) rfl (Nat.le_of_ble_eq_true rfl) ?_
  intro pp ee ss mm bel mth cd A ls C S hr hl
  obtain ⟨hx, hb, hml, hown, hts⟩ := id C.1
  have hl : lv_has ls 5 [(0, .ref O), (1, .int x), (2, .int y), (3, .int z)] := hl
  obtain ⟨H, hH⟩ : ∃ H, H = ss.heap := ⟨_, rfl⟩
  obtain ⟨locs, hL0⟩ : ∃ L : List Loc, L = [] := ⟨_, rfl⟩
  rw [← hH, ← hL0] at S ⊢
  refine lv_iload_n hx hb dX6_chosen_0 rfl (lv_at hl 1 rfl) ?_
  refine after_I (wc := []) (y := yX6_isLoad) C S (va_runS (As := [.int x]) (rest := []) C.1 (kX6_isLoad l g x H.size) (va_cwS 1 hts gX6_chosen_X6_isLoad rfl rfl rfl (by decide +kernel) ⟨Nat.le_of_ble_eq_true rfl, Nat.le_of_ble_eq_true rfl⟩) (preS_at C S [] rfl (by decide)) rfl rfl hl.1 rfl (lv_room (Nat.le_of_ble_eq_true rfl)) dX6_chosen_1 ⟨Nat.le_of_ble_eq_true rfl, Nat.le_of_ble_eq_true rfl⟩) [] [0, 1, 2, 3, 4, 5, 6] rfl (wr := [(O, ob 6 [.ref h, .ref dh, .ref th, .ref HH, .ref IM, .ref SG, .ref P, .ref ca]), (h, ob 2 [.ref q, .int (nI n), .int (nI ww)]), (q, aI g 32 f), (P, ob 3 [.ref ra, .ref sa, .ref ta, .int p1, .int p2, .int p3, .int p4, .int p5]), (ra, aI g 8 rf), (sa, aI g 8 sf), (ta, aI g 8 tf)]) rfl (by decide) (by decide) (fun r0 w0 H locs hq S => ?_)
  obtain ⟨rfl, rfl⟩ := hq
  have S : ST g A ss H locs [(O, ob 6 [.ref h, .ref dh, .ref th, .ref HH, .ref IM, .ref SG, .ref P, .ref ca]), (h, ob 2 [.ref q, .int (nI n), .int (nI ww)]), (q, aI g 32 f), (P, ob 3 [.ref ra, .ref sa, .ref ta, .int p1, .int p2, .int p3, .int p4, .int p5]), (ra, aI g 8 rf), (sa, aI g 8 sf), (ta, aI g 8 tf)] := S
  refine br_eqB (tgt := 26) hx hb dX6_chosen_4 (by decide) (fun c_1 => ?_) (fun c_1 => ?_)
  · -- 4 T
    refine lv_iconst (v := (-1)) hx hb dX6_chosen_26 (by decide) ?_
    exact ret_I C S hr dX6_chosen_27 ⟨((chk3_bad1 (isLoad_bad c_1)).symm), p1, p2, p3, p4, p5, rf, sf, tf, (rfl)⟩
  · -- 4 F
    obtain ⟨p, hp, rfl⟩ := isLoad_ok c_1
    refine lv_iload_n hx hb dX6_chosen_7 rfl (lv_at hl 2 rfl) ?_
    refine lv_if_lt (tgt := 26) hx hb dX6_chosen_8 (by decide) (fun c_2 => ?_) (fun c_2 => ?_)
    · -- 8 T
      refine lv_iconst (v := (-1)) hx hb dX6_chosen_26 (by decide) ?_
      exact ret_I C S hr dX6_chosen_27 ⟨((chk3_bad2 (ok_neg c_2)).symm), p1, p2, p3, p4, p5, rf, sf, tf, (rfl)⟩
    · -- 8 F
      refine lv_iload_n hx hb dX6_chosen_11 rfl (lv_at hl 2 rfl) ?_
      refine lv_bipush (v := 99) hx hb dX6_chosen_12 (by decide) ?_
      refine lv_icmp_gt (tgt := 26) hx hb dX6_chosen_14 (by decide) (fun c_3 => ?_) (fun c_3 => ?_)
      · -- 14 T
        refine lv_iconst (v := (-1)) hx hb dX6_chosen_26 (by decide) ?_
        exact ret_I C S hr dX6_chosen_27 ⟨((chk3_bad2 (ok_ngt (k := 99) rfl (by decide) c_3)).symm), p1, p2, p3, p4, p5, rf, sf, tf, (rfl)⟩
      · -- 14 F
        obtain ⟨d, hd, rfl⟩ := ok_gt (k := 99) rfl (by decide) c_2 c_3
        refine lv_iload_n hx hb dX6_chosen_17 rfl (lv_at hl 3 rfl) ?_
        refine lv_if_lt (tgt := 26) hx hb dX6_chosen_18 (by decide) (fun c_4 => ?_) (fun c_4 => ?_)
        · -- 18 T
          refine lv_iconst (v := (-1)) hx hb dX6_chosen_26 (by decide) ?_
          exact ret_I C S hr dX6_chosen_27 ⟨((chk3_bad3 (ok_neg c_4)).symm), p1, p2, p3, p4, p5, rf, sf, tf, (rfl)⟩
        · -- 18 F
          refine lv_iload_n hx hb dX6_chosen_21 rfl (lv_at hl 3 rfl) ?_
          refine lv_iconst (v := 1) hx hb dX6_chosen_22 (by decide) ?_
          refine lv_icmp_le (tgt := 28) hx hb dX6_chosen_23 (by decide) (fun c_5 => ?_) (fun c_5 => ?_)
          · -- 23 T
            obtain ⟨w, hw, rfl⟩ := ok_le (k := 1) rfl (by decide) c_4 c_5
            refine lv_aload_n hx hb dX6_chosen_28 rfl (lv_at hl 0 rfl) ?_
            refine lv_iload_n hx hb dX6_chosen_29 rfl (lv_at hl 1 rfl) ?_
            refine lv_iload_n hx hb dX6_chosen_30 rfl (lv_at hl 2 rfl) ?_
            refine after_I (wc := [(O, ob 6 [.ref h, .ref dh, .ref th, .ref HH, .ref IM, .ref SG, .ref P, .ref ca]), (h, ob 2 [.ref q, .int (nI n), .int (nI ww)]), (q, aI g 32 f), (P, ob 3 [.ref ra, .ref sa, .ref ta, .int p1, .int p2, .int p3, .int p4, .int p5]), (ra, aI g 8 rf), (sa, aI g 8 sf), (ta, aI g 8 tf)]) (y := yX6_fewestThatHold) C S (va_runV (As := [.int (nI p), .int (nI d)]) (rest := []) C.1 (kX6_fewestThatHold l g O dh th HH IM SG ca h q f n ww nu P ra sa ta rf sf tf p1 p2 p3 p4 p5 p d (by first | assumption | omega) (by first | assumption | omega) (by first | assumption | omega) (by first | assumption | omega) (by first | assumption | omega) (by first | assumption | omega) (by first | assumption | omega) H.size) (cwV 2 hts gX6_chosen_X6_fewestThatHold rfl rfl rfl (by decide +kernel) ⟨Nat.le_of_ble_eq_true rfl, Nat.le_of_ble_eq_true rfl⟩) (preV_at C S 0 rfl rfl [0, 1, 2, 3, 4, 5, 6] rfl (by decide)) rfl rfl hl.1 rfl (lv_room (Nat.le_of_ble_eq_true rfl)) dX6_chosen_31 ⟨Nat.le_of_ble_eq_true rfl, Nat.le_of_ble_eq_true rfl⟩) [0, 1, 2, 3, 4, 5, 6] [] rfl (wr := []) rfl (by decide) (by decide) (fun r0 w0 H locs hq S => ?_)
            obtain ⟨rfl, z1'_6, z2'_7, z3'_8, z4'_9, z5'_10, rf'_11, sf'_12, tf'_13, rfl⟩ := hq
            have S : ST g A ss H locs [(O, ob 6 [.ref h, .ref dh, .ref th, .ref HH, .ref IM, .ref SG, .ref P, .ref ca]), (h, ob 2 [.ref q, .int (nI n), .int (nI ww)]), (q, aI g 32 f), (P, ob 3 [.ref ra, .ref sa, .ref ta, .int z1'_6, .int z2'_7, .int z3'_8, .int z4'_9, .int z5'_10]), (ra, aI g 8 rf'_11), (sa, aI g 8 sf'_12), (ta, aI g 8 tf'_13)] := S
            refine lv_istore (lv' := [(4, .int (nI (chB (mayB ww) (okP nu n p d) 255))), (0, .ref O), (1, .int (nI p)), (2, .int (nI d)), (3, .int (nI w))]) hx hb dX6_chosen_34 hl (by decide) rfl (fun ls hl => ?_)
            have hcl : chB (mayB ww) (okP nu n p d) 255 ≤ 255 := chB_le 255
            refine lv_iload hx hb dX6_chosen_36 (lv_at hl 0 rfl) ?_
            refine bn_zne (tgt := 44) (a := chB (mayB ww) (okP nu n p d) 255) hx hb rfl (by omega) dX6_chosen_38 (by decide) (fun c_14 => ?_) (fun c_14 => ?_)
            · -- 38 T
              refine lv_iload_n hx hb dX6_chosen_44 rfl (lv_at hl 4 rfl) ?_
              refine bn_zne (tgt := 56) (a := w) hx hb rfl (by omega) dX6_chosen_45 (by decide) (fun c_15 => ?_) (fun c_15 => ?_)
              · -- 45 T
                refine lv_iload hx hb dX6_chosen_56 (lv_at hl 0 rfl) ?_
                exact ret_I C S hr dX6_chosen_58 ⟨(Eq.trans (show _ = chosenA nu n ww p d w by unfold chosenA; rw [if_neg c_14, if_neg c_15]) (chk3_ok (i := p) (j := d) (k := w) (by omega) (by omega) (by omega) (by decide) (by decide) (by decide)).symm), z1'_6, z2'_7, z3'_8, z4'_9, z5'_10, rf'_11, sf'_12, tf'_13, (rfl)⟩
              · -- 45 F
                refine lv_iload hx hb dX6_chosen_48 (lv_at hl 0 rfl) ?_
                refine after_I (wc := []) (y := yJ6_bitCount_0f7a4) C S (va_runS (As := [.int (nI (chB (mayB ww) (okP nu n p d) 255))]) (rest := []) C.1 (kJ6_bitCount_0f7a4 l g (chB (mayB ww) (okP nu n p d) 255) (by omega) H.size) (va_cwS 1 hts gX6_chosen_J6_bitCount_0f7a4 rfl rfl rfl (by decide +kernel) ⟨Nat.le_of_ble_eq_true rfl, Nat.le_of_ble_eq_true rfl⟩) (preS_at C S [] rfl (by decide)) rfl rfl hl.1 rfl (lv_room (Nat.le_of_ble_eq_true rfl)) dX6_chosen_50 ⟨Nat.le_of_ble_eq_true rfl, Nat.le_of_ble_eq_true rfl⟩) [] [0, 1, 2, 3, 4, 5, 6] rfl (wr := [(O, ob 6 [.ref h, .ref dh, .ref th, .ref HH, .ref IM, .ref SG, .ref P, .ref ca]), (h, ob 2 [.ref q, .int (nI n), .int (nI ww)]), (q, aI g 32 f), (P, ob 3 [.ref ra, .ref sa, .ref ta, .int z1'_6, .int z2'_7, .int z3'_8, .int z4'_9, .int z5'_10]), (ra, aI g 8 rf'_11), (sa, aI g 8 sf'_12), (ta, aI g 8 tf'_13)]) rfl (by decide) (by decide) (fun r0 w0 H locs hq S => ?_)
                obtain ⟨rfl, rfl⟩ := hq
                have S : ST g A ss H locs [(O, ob 6 [.ref h, .ref dh, .ref th, .ref HH, .ref IM, .ref SG, .ref P, .ref ca]), (h, ob 2 [.ref q, .int (nI n), .int (nI ww)]), (q, aI g 32 f), (P, ob 3 [.ref ra, .ref sa, .ref ta, .int z1'_6, .int z2'_7, .int z3'_8, .int z4'_9, .int z5'_10]), (ra, aI g 8 rf'_11), (sa, aI g 8 sf'_12), (ta, aI g 8 tf'_13)] := S
                refine lv_goto (tgt := 58) hx hb dX6_chosen_53 (by decide) ?_
                exact ret_I C S hr dX6_chosen_58 ⟨(Eq.trans (show _ = chosenA nu n ww p d w by unfold chosenA; rw [if_neg c_14, if_pos c_15]) (chk3_ok (i := p) (j := d) (k := w) (by omega) (by omega) (by omega) (by decide) (by decide) (by decide)).symm), z1'_6, z2'_7, z3'_8, z4'_9, z5'_10, rf'_11, sf'_12, tf'_13, (rfl)⟩
            · -- 38 F
              refine lv_bipush (v := (-9)) hx hb dX6_chosen_41 (by decide) ?_
              exact ret_I C S hr dX6_chosen_43 ⟨(Eq.trans (show _ = chosenA nu n ww p d w by unfold chosenA; rw [if_pos c_14]) (chk3_ok (i := p) (j := d) (k := w) (by omega) (by omega) (by omega) (by decide) (by decide) (by decide)).symm), z1'_6, z2'_7, z3'_8, z4'_9, z5'_10, rf'_11, sf'_12, tf'_13, (rfl)⟩
          · -- 23 F
            refine lv_iconst (v := (-1)) hx hb dX6_chosen_26 (by decide) ?_
            exact ret_I C S hr dX6_chosen_27 ⟨((chk3_bad3 (ok_nle (k := 1) rfl (by decide) c_5)).symm), p1, p2, p3, p4, p5, rf, sf, tf, (rfl)⟩

theorem inX6_suspects_X2 : ∀ w ∈ wsX20, w ∈ wsX6_suspects := by decide +kernel
theorem inX6_suspects_X6 : ∀ w ∈ wsX60, w ∈ wsX6_suspects := by decide +kernel
set_option maxRecDepth 100000 in
set_option maxHeartbeats 4000000 in
theorem kX6_suspects (l : Launch) (g : GG) (O : Nat) (dh : Nat) (th : Nat) (HH : Nat) (IM : Nat) (SG : Nat) (ca : Nat) (h : Nat) (q : Nat) (f : Nat → Int32) (n : Nat) (ww : Nat) (nu : Nat → Nat → Nat) (P : Nat) (ra : Nat) (sa : Nat) (ta : Nat) (rf : Nat → Int32) (sf : Nat → Int32) (tf : Nat → Int32) (p1 : Int32) (p2 : Int32) (p3 : Int32) (p4 : Int32) (p5 : Int32) (la : Nat) (ba : Nat) (lf : Nat → Int32) (bf : Nat → Int32) (sz : Nat) (lo : Nat → Nat) (hn1 : 1 ≤ n) (hn : n ≤ 8) (hww : ww < 256) (hf : ∀ a i, a < 4 → i < n → f (a * 8 + i) = nI (nu a i)) (hB : HB nu n) (hs6 : sz ≤ 6) (hlo : ∀ i, i < sz → lf i = nI (lo i)) (hlb : ∀ i, i < sz → lo i ≤ 999) : KI l g yX6_suspects wsX6_suspects 5 113 [.ref O] [(O, ob 6 [.ref h, .ref dh, .ref th, .ref HH, .ref IM, .ref SG, .ref P, .ref ca]), (h, ob 2 [.ref q, .int (nI n), .int (nI ww)]), (q, aI g 32 f), (P, ob 3 [.ref ra, .ref sa, .ref ta, .int p1, .int p2, .int p3, .int p4, .int p5]), (ra, aI g 8 rf), (sa, aI g 8 sf), (ta, aI g 8 tf), (SG, ob 4 [.ref la, .ref ba, .int (nI sz)]), (la, aI g 6 lf), (ba, aI g 6 bf)] (fun (r : Int32) (w' : va_W) => r = (nI (fbits (soB nu n ww sz lo bf) (n + 1))) ∧ ∃ (z1' : Int32), ∃ (z2' : Int32), ∃ (z3' : Int32), ∃ (z4' : Int32), ∃ (z5' : Int32), ∃ (rf' : Nat → Int32), ∃ (sf' : Nat → Int32), ∃ (tf' : Nat → Int32), w' = [(O, ob 6 [.ref h, .ref dh, .ref th, .ref HH, .ref IM, .ref SG, .ref P, .ref ca]), (h, ob 2 [.ref q, .int (nI n), .int (nI ww)]), (q, aI g 32 f), (P, ob 3 [.ref ra, .ref sa, .ref ta, .int z1', .int z2', .int z3', .int z4', .int z5']), (ra, aI g 8 rf'), (sa, aI g 8 sf'), (ta, aI g 8 tf'), (SG, ob 4 [.ref la, .ref ba, .int (nI sz)]), (la, aI g 6 lf), (ba, aI g 6 bf)]) := by
  refine kI_of (cc := cX6_suspects) (maxL := 3) (by decide) rfl (Nat.le_of_ble_eq_true rfl) ?_
  intro pp ee ss mm bel mth cd A ls C S hr hl
  obtain ⟨hx, hb, hml, hown, hts⟩ := id C.1
  have hl : lv_has ls 3 [(0, .ref O)] := hl
  obtain ⟨H, hH⟩ : ∃ H, H = ss.heap := ⟨_, rfl⟩
  obtain ⟨locs, hL0⟩ : ∃ L : List Loc, L = [] := ⟨_, rfl⟩
  rw [← hH, ← hL0] at S ⊢
  have hca : ∀ i, i < n → nu 2 i ≤ 30 := fun i9 h9 => (hB i9 h9).2.2.1
  have hSb : ∀ i, i < n → nu 1 i ≤ 9 := fun i9 h9 => (hB i9 h9).2.1.2
  have hTb : ∀ i, i < n → nu 3 i ≤ 99 := fun i9 h9 => (hB i9 h9).2.2.2.2
  have hRb : ∀ i, i < n → R0 nu i ≤ 240 := RC_le hn hca
  refine lv_iconst (v := 0) hx hb dX6_suspects_0 (by decide) ?_
  refine lv_istore_n (lv' := [(1, .int 0), (0, .ref O)]) hx hb dX6_suspects_1 rfl hl (by decide) rfl (fun ls hl => ?_)
  refine lv_iconst (v := 0) hx hb dX6_suspects_2 (by decide) ?_
  refine lv_istore_n (lv' := [(2, .int 0), (1, .int 0), (0, .ref O)]) hx hb dX6_suspects_3 rfl hl (by decide) rfl (fun ls hl => ?_)
  have loop4 : ∀ (N0 : Nat) (i : Nat) (x : Nat) (z1 : Int32) (z2 : Int32) (z3 : Int32) (z4 : Int32) (z5 : Int32) (r1 : Nat → Int32) (s1 : Nat → Int32) (t1 : Nat → Int32), n + 1 - i < N0 → (i ≤ n + 1) → (x = fbits (soB nu n ww sz lo bf) i) → ∀ (H : Heap) (locs : List Loc) (ls : Array Slot), ST g A ss H locs [(O, ob 6 [.ref h, .ref dh, .ref th, .ref HH, .ref IM, .ref SG, .ref P, .ref ca]), (h, ob 2 [.ref q, .int (nI n), .int (nI ww)]), (q, aI g 32 f), (P, ob 3 [.ref ra, .ref sa, .ref ta, .int z1, .int z2, .int z3, .int z4, .int z5]), (ra, aI g 8 r1), (sa, aI g 8 s1), (ta, aI g 8 t1), (SG, ob 4 [.ref la, .ref ba, .int (nI sz)]), (la, aI g 6 lf), (ba, aI g 6 bf)] → lv_has ls 3 [(2, .int (nI i)), (1, .int (nI x)), (0, .ref O)] → W pp l ee { frames := 5, cells := 0, slots := 0, locals := 113 } ss mm ([.ref O] : List Value).toArray bel mth cd H locs 0 0 (QI bel ([.ref O] : List Value).toArray ss g A (fun (r : Int32) (w' : va_W) => r = (nI (fbits (soB nu n ww sz lo bf) (n + 1))) ∧ ∃ (z1' : Int32), ∃ (z2' : Int32), ∃ (z3' : Int32), ∃ (z4' : Int32), ∃ (z5' : Int32), ∃ (rf' : Nat → Int32), ∃ (sf' : Nat → Int32), ∃ (tf' : Nat → Int32), w' = [(O, ob 6 [.ref h, .ref dh, .ref th, .ref HH, .ref IM, .ref SG, .ref P, .ref ca]), (h, ob 2 [.ref q, .int (nI n), .int (nI ww)]), (q, aI g 32 f), (P, ob 3 [.ref ra, .ref sa, .ref ta, .int z1', .int z2', .int z3', .int z4', .int z5']), (ra, aI g 8 rf'), (sa, aI g 8 sf'), (ta, aI g 8 tf'), (SG, ob 4 [.ref la, .ref ba, .int (nI sz)]), (la, aI g 6 lf), (ba, aI g 6 bf)])) (F0 mm 4 ls []) := by
    intro N0
    induction N0 with
    | zero => intro i x z1 z2 z3 z4 z5 r1 s1 t1 hN; exact absurd hN (Nat.not_lt_zero _)
    | succ N0 ih4 =>
      intro i x z1 z2 z3 z4 z5 r1 s1 t1 hN hi hx1 H locs ls S hl
      refine lv_iload_n hx hb dX6_suspects_4 rfl (lv_at hl 0 rfl) ?_
      refine lv_aload_n hx hb dX6_suspects_5 rfl (lv_at hl 2 rfl) ?_
      refine top_get C S inX6_suspects_X6 rfl 0 rfl 0 (by decide) (by decide +kernel) rfl rfl dX6_suspects_6 ?_
      refine top_getN C S inX6_suspects_X2 rfl 1 rfl 1 (by decide) (by decide +kernel) rfl dX6_suspects_9 ?_
      refine bn_igt (tgt := 63) (a := i) (b := n) hx hb rfl rfl (by omega) (by omega) dX6_suspects_12 (by decide) (fun c_1 => ?_) (fun c_1 => ?_)
      · -- 12 T
        refine lv_iload_n hx hb dX6_suspects_63 rfl (lv_at hl 1 rfl) ?_
        exact ret_I C S hr dX6_suspects_64 ⟨(by rw [hx1, show i = n + 1 by omega]), z1, z2, z3, z4, z5, r1, s1, t1, (rfl)⟩
      · -- 12 F
        refine lv_iload_n hx hb dX6_suspects_15 rfl (lv_at hl 0 rfl) ?_
        refine bn_zeq (tgt := 32) (a := i) hx hb rfl (by omega) dX6_suspects_16 (by decide) (fun c_2 => ?_) (fun c_2 => ?_)
        · -- 16 T
          refine lv_aload_n hx hb dX6_suspects_32 rfl (lv_at hl 2 rfl) ?_
          refine lv_iload_n hx hb dX6_suspects_33 rfl (lv_at hl 0 rfl) ?_
          refine after_V (wc := [(O, ob 6 [.ref h, .ref dh, .ref th, .ref HH, .ref IM, .ref SG, .ref P, .ref ca]), (h, ob 2 [.ref q, .int (nI n), .int (nI ww)]), (q, aI g 32 f), (P, ob 3 [.ref ra, .ref sa, .ref ta, .int z1, .int z2, .int z3, .int z4, .int z5]), (ra, aI g 8 r1), (sa, aI g 8 s1), (ta, aI g 8 t1)]) (y := yX6_stackSuspect) C S (va_runV (As := [.int (nI i)]) (rest := []) C.1 (kX6_stackSuspect l g O dh th HH IM SG ca h q f n ww nu P ra sa ta r1 s1 t1 z1 z2 z3 z4 z5 i (by first | assumption | omega) (by first | assumption | omega) (by first | assumption | omega) (by first | assumption | omega) (by first | assumption | omega) H.size) (cwV 1 hts gX6_suspects_X6_stackSuspect rfl rfl rfl (by decide +kernel) ⟨Nat.le_of_ble_eq_true rfl, Nat.le_of_ble_eq_true rfl⟩) (preV_at C S 0 rfl rfl [0, 1, 2, 3, 4, 5, 6] rfl (by decide)) rfl rfl hl.1 rfl (lv_room (Nat.le_of_ble_eq_true rfl)) dX6_suspects_34 ⟨Nat.le_of_ble_eq_true rfl, Nat.le_of_ble_eq_true rfl⟩) [0, 1, 2, 3, 4, 5, 6] [7, 8, 9] rfl (wr := [(SG, ob 4 [.ref la, .ref ba, .int (nI sz)]), (la, aI g 6 lf), (ba, aI g 6 bf)]) rfl (by decide) (by decide) (fun w0 H locs hq S => ?_)
          obtain ⟨rf1, sf1, tf1, hR1, hS1, hT1, rfl⟩ := hq
          have S : ST g A ss H locs [(O, ob 6 [.ref h, .ref dh, .ref th, .ref HH, .ref IM, .ref SG, .ref P, .ref ca]), (h, ob 2 [.ref q, .int (nI n), .int (nI ww)]), (q, aI g 32 f), (P, ob 3 [.ref ra, .ref sa, .ref ta, .int (nI n), .int (nI (swN ww i)), .int z3, .int z4, .int z5]), (ra, aI g 8 rf1), (sa, aI g 8 sf1), (ta, aI g 8 tf1), (SG, ob 4 [.ref la, .ref ba, .int (nI sz)]), (la, aI g 6 lf), (ba, aI g 6 bf)] := ST.sub S [3, 4, 5, 6, 7, 8, 9, 0, 1, 2] (by decide) rfl
          refine lv_aload_n hx hb dX6_suspects_37 rfl (lv_at hl 2 rfl) ?_
          refine top_get C S inX6_suspects_X6 rfl 0 rfl 5 (by decide) (by decide +kernel) rfl rfl dX6_suspects_38 ?_
          refine lv_aload_n hx hb dX6_suspects_41 rfl (lv_at hl 2 rfl) ?_
          refine top_get C S inX6_suspects_X6 rfl 0 rfl 6 (by decide) (by decide +kernel) rfl rfl dX6_suspects_42 ?_
          refine after_I (wc := [(SG, ob 4 [.ref la, .ref ba, .int (nI sz)]), (la, aI g 6 lf), (ba, aI g 6 bf), (P, ob 3 [.ref ra, .ref sa, .ref ta, .int (nI n), .int (nI (swN ww i)), .int z3, .int z4, .int z5]), (ra, aI g 8 rf1), (sa, aI g 8 sf1), (ta, aI g 8 tf1)]) (y := yX4_agreeWith) C S (va_runV (As := [.ref P]) (rest := []) C.1 (kX4_agreeWith l g SG la ba lf bf sz P ra sa ta rf1 sf1 tf1 n (swN ww i) z3 z4 z5 (R0 nu) (nu 1) (nu 3) lo (by first | assumption | omega) (Nat.lt_of_lt_of_le (sw_lt hww) (by decide)) (by first | assumption | omega) (by first | assumption | omega) (by first | assumption | omega) (by first | assumption | omega) (by first | assumption | omega) (by first | assumption | omega) (by first | assumption | omega) (by first | assumption | omega) (by first | assumption | omega) H.size) (cwV 1 hts gX6_suspects_X4_agreeWith rfl rfl rfl (by decide +kernel) ⟨Nat.le_of_ble_eq_true rfl, Nat.le_of_ble_eq_true rfl⟩) (preV_at C S 7 rfl rfl [7, 8, 9, 3, 4, 5, 6] rfl (by decide)) rfl rfl hl.1 rfl (lv_room (Nat.le_of_ble_eq_true rfl)) dX6_suspects_45 ⟨Nat.le_of_ble_eq_true rfl, Nat.le_of_ble_eq_true rfl⟩) [7, 8, 9, 3, 4, 5, 6] [0, 1, 2] rfl (wr := [(O, ob 6 [.ref h, .ref dh, .ref th, .ref HH, .ref IM, .ref SG, .ref P, .ref ca]), (h, ob 2 [.ref q, .int (nI n), .int (nI ww)]), (q, aI g 32 f)]) rfl (by decide) (by decide) (fun r0 w0 H locs hq S => ?_)
          obtain ⟨rfl, u'_3, l'_4, v'_5, rfl⟩ := hq
          have S : ST g A ss H locs [(O, ob 6 [.ref h, .ref dh, .ref th, .ref HH, .ref IM, .ref SG, .ref P, .ref ca]), (h, ob 2 [.ref q, .int (nI n), .int (nI ww)]), (q, aI g 32 f), (P, ob 3 [.ref ra, .ref sa, .ref ta, .int (nI n), .int (nI (swN ww i)), .int u'_3, .int l'_4, .int v'_5]), (ra, aI g 8 rf1), (sa, aI g 8 sf1), (ta, aI g 8 tf1), (SG, ob 4 [.ref la, .ref ba, .int (nI sz)]), (la, aI g 6 lf), (ba, aI g 6 bf)] := ST.sub S [0, 1, 2, 6, 7, 8, 9, 3, 4, 5] (by decide) rfl
          refine top_eq (y := bI (agB nu n ww sz lo bf i)) rfl ?_
          refine br_eqB (tgt := 57) hx hb dX6_suspects_48 (by decide) (fun c_6 => ?_) (fun c_6 => ?_)
          · -- 48 T
            refine lv_iinc (v := nI (i + 1)) (lv' := [(2, .int (nI (i + 1))), (1, .int (nI x)), (0, .ref O)]) hx hb dX6_suspects_57 hl (k := 0) rfl (nI_add _ _) (by decide) rfl (fun ls hl => ?_)
            refine lv_goto (tgt := 4) hx hb dX6_suspects_60 (by decide) ?_
            exact ih4 (i + 1) x (nI n) (nI (swN ww i)) u'_3 l'_4 v'_5 rf1 sf1 tf1 (by omega) (by first | assumption | omega) (by simp only [fbits, ← hx1, soB, if_neg c_1, if_pos c_2, if_neg (Bool.eq_false_iff.mp c_6), if_true, if_false, Bool.false_eq_true, reduceIte]) H locs ls (ST.eq S (rfl)) (lv_sub hl [0, 1, 2] (rfl))
          · -- 48 F
            refine lv_iload_n hx hb dX6_suspects_51 rfl (lv_at hl 1 rfl) ?_
            refine lv_iconst (v := 1) hx hb dX6_suspects_52 (by decide) ?_
            refine lv_iload_n hx hb dX6_suspects_53 rfl (lv_at hl 0 rfl) ?_
            refine lv_ishl hx hb dX6_suspects_54 ?_
            refine top_eq (y := nI (2 ^ i)) (shl_1 (by omega)) ?_
            refine lv_ior hx hb dX6_suspects_55 ?_
            refine top_eq (y := nI (x ||| 2 ^ i)) (fa_or _ _) ?_
            refine lv_istore_n (lv' := [(1, .int (nI (x ||| 2 ^ i))), (2, .int (nI i)), (0, .ref O)]) hx hb dX6_suspects_56 rfl hl (by decide) rfl (fun ls hl => ?_)
            refine lv_iinc (v := nI (i + 1)) (lv' := [(2, .int (nI (i + 1))), (1, .int (nI (x ||| 2 ^ i))), (0, .ref O)]) hx hb dX6_suspects_57 hl (k := 1) rfl (nI_add _ _) (by decide) rfl (fun ls hl => ?_)
            refine lv_goto (tgt := 4) hx hb dX6_suspects_60 (by decide) ?_
            exact ih4 (i + 1) (x ||| 2 ^ i) (nI n) (nI (swN ww i)) u'_3 l'_4 v'_5 rf1 sf1 tf1 (by omega) (by first | assumption | omega) (by simp only [fbits, ← hx1, soB, if_neg c_1, if_pos c_2, if_pos c_6, if_true, if_false, Bool.false_eq_true, reduceIte]) H locs ls (ST.eq S (rfl)) (lv_sub hl [0, 1, 2] (rfl))
        · -- 16 F
          refine lv_aload_n hx hb dX6_suspects_19 rfl (lv_at hl 2 rfl) ?_
          refine top_get C S inX6_suspects_X6 rfl 0 rfl 0 (by decide) (by decide +kernel) rfl rfl dX6_suspects_20 ?_
          refine lv_iload_n hx hb dX6_suspects_23 rfl (lv_at hl 0 rfl) ?_
          refine lv_iconst (v := 1) hx hb dX6_suspects_24 (by decide) ?_
          refine lv_isub hx hb dX6_suspects_25 ?_
          refine top_eq (y := nI (i - 1)) (pk_sub (a := i) (b := 1) (by omega)) ?_
          refine after_I (wc := [(h, ob 2 [.ref q, .int (nI n), .int (nI ww)]), (q, aI g 32 f)]) (y := yX2_isWhole) C S (va_runV (As := [.int (nI (i - 1))]) (rest := []) C.1 (kX2_isWhole l g h q f n ww (i - 1) (by first | assumption | omega) (by first | assumption | omega) H.size) (cwV 1 hts gX6_suspects_X2_isWhole rfl rfl rfl (by decide +kernel) ⟨Nat.le_of_ble_eq_true rfl, Nat.le_of_ble_eq_true rfl⟩) (preV_at C S 1 rfl rfl [1, 2] rfl (by decide)) rfl rfl hl.1 rfl (lv_room (Nat.le_of_ble_eq_true rfl)) dX6_suspects_26 ⟨Nat.le_of_ble_eq_true rfl, Nat.le_of_ble_eq_true rfl⟩) [1, 2] [0, 3, 4, 5, 6, 7, 8, 9] rfl (wr := [(O, ob 6 [.ref h, .ref dh, .ref th, .ref HH, .ref IM, .ref SG, .ref P, .ref ca]), (P, ob 3 [.ref ra, .ref sa, .ref ta, .int z1, .int z2, .int z3, .int z4, .int z5]), (ra, aI g 8 r1), (sa, aI g 8 s1), (ta, aI g 8 t1), (SG, ob 4 [.ref la, .ref ba, .int (nI sz)]), (la, aI g 6 lf), (ba, aI g 6 bf)]) rfl (by decide) (by decide) (fun r0 w0 H locs hq S => ?_)
          obtain ⟨rfl, rfl⟩ := hq
          have S : ST g A ss H locs [(O, ob 6 [.ref h, .ref dh, .ref th, .ref HH, .ref IM, .ref SG, .ref P, .ref ca]), (h, ob 2 [.ref q, .int (nI n), .int (nI ww)]), (q, aI g 32 f), (P, ob 3 [.ref ra, .ref sa, .ref ta, .int z1, .int z2, .int z3, .int z4, .int z5]), (ra, aI g 8 r1), (sa, aI g 8 s1), (ta, aI g 8 t1), (SG, ob 4 [.ref la, .ref ba, .int (nI sz)]), (la, aI g 6 lf), (ba, aI g 6 bf)] := ST.sub S [0, 8, 9, 1, 2, 3, 4, 5, 6, 7] (by decide) rfl
          refine br_eqB (tgt := 57) hx hb dX6_suspects_29 (by decide) (fun c_7 => ?_) (fun c_7 => ?_)
          · -- 29 T
            refine lv_iinc (v := nI (i + 1)) (lv' := [(2, .int (nI (i + 1))), (1, .int (nI x)), (0, .ref O)]) hx hb dX6_suspects_57 hl (k := 0) rfl (nI_add _ _) (by decide) rfl (fun ls hl => ?_)
            refine lv_goto (tgt := 4) hx hb dX6_suspects_60 (by decide) ?_
            exact ih4 (i + 1) x z1 z2 z3 z4 z5 r1 s1 t1 (by omega) (by first | assumption | omega) (by simp only [fbits, ← hx1, soB, if_neg c_1, if_neg c_2, if_neg (Bool.eq_false_iff.mp c_7), if_true, if_false, Bool.false_eq_true, reduceIte]) H locs ls (ST.eq S (rfl)) (lv_sub hl [0, 1, 2] (rfl))
          · -- 29 F
            refine lv_aload_n hx hb dX6_suspects_32 rfl (lv_at hl 2 rfl) ?_
            refine lv_iload_n hx hb dX6_suspects_33 rfl (lv_at hl 0 rfl) ?_
            refine after_V (wc := [(O, ob 6 [.ref h, .ref dh, .ref th, .ref HH, .ref IM, .ref SG, .ref P, .ref ca]), (h, ob 2 [.ref q, .int (nI n), .int (nI ww)]), (q, aI g 32 f), (P, ob 3 [.ref ra, .ref sa, .ref ta, .int z1, .int z2, .int z3, .int z4, .int z5]), (ra, aI g 8 r1), (sa, aI g 8 s1), (ta, aI g 8 t1)]) (y := yX6_stackSuspect) C S (va_runV (As := [.int (nI i)]) (rest := []) C.1 (kX6_stackSuspect l g O dh th HH IM SG ca h q f n ww nu P ra sa ta r1 s1 t1 z1 z2 z3 z4 z5 i (by first | assumption | omega) (by first | assumption | omega) (by first | assumption | omega) (by first | assumption | omega) (by first | assumption | omega) H.size) (cwV 1 hts gX6_suspects_X6_stackSuspect rfl rfl rfl (by decide +kernel) ⟨Nat.le_of_ble_eq_true rfl, Nat.le_of_ble_eq_true rfl⟩) (preV_at C S 0 rfl rfl [0, 1, 2, 3, 4, 5, 6] rfl (by decide)) rfl rfl hl.1 rfl (lv_room (Nat.le_of_ble_eq_true rfl)) dX6_suspects_34 ⟨Nat.le_of_ble_eq_true rfl, Nat.le_of_ble_eq_true rfl⟩) [0, 1, 2, 3, 4, 5, 6] [7, 8, 9] rfl (wr := [(SG, ob 4 [.ref la, .ref ba, .int (nI sz)]), (la, aI g 6 lf), (ba, aI g 6 bf)]) rfl (by decide) (by decide) (fun w0 H locs hq S => ?_)
            obtain ⟨rf1, sf1, tf1, hR1, hS1, hT1, rfl⟩ := hq
            have S : ST g A ss H locs [(O, ob 6 [.ref h, .ref dh, .ref th, .ref HH, .ref IM, .ref SG, .ref P, .ref ca]), (h, ob 2 [.ref q, .int (nI n), .int (nI ww)]), (q, aI g 32 f), (P, ob 3 [.ref ra, .ref sa, .ref ta, .int (nI n), .int (nI (swN ww i)), .int z3, .int z4, .int z5]), (ra, aI g 8 rf1), (sa, aI g 8 sf1), (ta, aI g 8 tf1), (SG, ob 4 [.ref la, .ref ba, .int (nI sz)]), (la, aI g 6 lf), (ba, aI g 6 bf)] := ST.sub S [3, 4, 5, 6, 7, 8, 9, 0, 1, 2] (by decide) rfl
            refine lv_aload_n hx hb dX6_suspects_37 rfl (lv_at hl 2 rfl) ?_
            refine top_get C S inX6_suspects_X6 rfl 0 rfl 5 (by decide) (by decide +kernel) rfl rfl dX6_suspects_38 ?_
            refine lv_aload_n hx hb dX6_suspects_41 rfl (lv_at hl 2 rfl) ?_
            refine top_get C S inX6_suspects_X6 rfl 0 rfl 6 (by decide) (by decide +kernel) rfl rfl dX6_suspects_42 ?_
            refine after_I (wc := [(SG, ob 4 [.ref la, .ref ba, .int (nI sz)]), (la, aI g 6 lf), (ba, aI g 6 bf), (P, ob 3 [.ref ra, .ref sa, .ref ta, .int (nI n), .int (nI (swN ww i)), .int z3, .int z4, .int z5]), (ra, aI g 8 rf1), (sa, aI g 8 sf1), (ta, aI g 8 tf1)]) (y := yX4_agreeWith) C S (va_runV (As := [.ref P]) (rest := []) C.1 (kX4_agreeWith l g SG la ba lf bf sz P ra sa ta rf1 sf1 tf1 n (swN ww i) z3 z4 z5 (R0 nu) (nu 1) (nu 3) lo (by first | assumption | omega) (Nat.lt_of_lt_of_le (sw_lt hww) (by decide)) (by first | assumption | omega) (by first | assumption | omega) (by first | assumption | omega) (by first | assumption | omega) (by first | assumption | omega) (by first | assumption | omega) (by first | assumption | omega) (by first | assumption | omega) (by first | assumption | omega) H.size) (cwV 1 hts gX6_suspects_X4_agreeWith rfl rfl rfl (by decide +kernel) ⟨Nat.le_of_ble_eq_true rfl, Nat.le_of_ble_eq_true rfl⟩) (preV_at C S 7 rfl rfl [7, 8, 9, 3, 4, 5, 6] rfl (by decide)) rfl rfl hl.1 rfl (lv_room (Nat.le_of_ble_eq_true rfl)) dX6_suspects_45 ⟨Nat.le_of_ble_eq_true rfl, Nat.le_of_ble_eq_true rfl⟩) [7, 8, 9, 3, 4, 5, 6] [0, 1, 2] rfl (wr := [(O, ob 6 [.ref h, .ref dh, .ref th, .ref HH, .ref IM, .ref SG, .ref P, .ref ca]), (h, ob 2 [.ref q, .int (nI n), .int (nI ww)]), (q, aI g 32 f)]) rfl (by decide) (by decide) (fun r0 w0 H locs hq S => ?_)
            obtain ⟨rfl, u'_8, l'_9, v'_10, rfl⟩ := hq
            have S : ST g A ss H locs [(O, ob 6 [.ref h, .ref dh, .ref th, .ref HH, .ref IM, .ref SG, .ref P, .ref ca]), (h, ob 2 [.ref q, .int (nI n), .int (nI ww)]), (q, aI g 32 f), (P, ob 3 [.ref ra, .ref sa, .ref ta, .int (nI n), .int (nI (swN ww i)), .int u'_8, .int l'_9, .int v'_10]), (ra, aI g 8 rf1), (sa, aI g 8 sf1), (ta, aI g 8 tf1), (SG, ob 4 [.ref la, .ref ba, .int (nI sz)]), (la, aI g 6 lf), (ba, aI g 6 bf)] := ST.sub S [0, 1, 2, 6, 7, 8, 9, 3, 4, 5] (by decide) rfl
            refine top_eq (y := bI (agB nu n ww sz lo bf i)) rfl ?_
            refine br_eqB (tgt := 57) hx hb dX6_suspects_48 (by decide) (fun c_11 => ?_) (fun c_11 => ?_)
            · -- 48 T
              refine lv_iinc (v := nI (i + 1)) (lv' := [(2, .int (nI (i + 1))), (1, .int (nI x)), (0, .ref O)]) hx hb dX6_suspects_57 hl (k := 0) rfl (nI_add _ _) (by decide) rfl (fun ls hl => ?_)
              refine lv_goto (tgt := 4) hx hb dX6_suspects_60 (by decide) ?_
              exact ih4 (i + 1) x (nI n) (nI (swN ww i)) u'_8 l'_9 v'_10 rf1 sf1 tf1 (by omega) (by first | assumption | omega) (by simp only [fbits, ← hx1, soB, if_neg c_1, if_neg c_2, if_pos c_7, if_neg (Bool.eq_false_iff.mp c_11), if_true, if_false, Bool.false_eq_true, reduceIte]) H locs ls (ST.eq S (rfl)) (lv_sub hl [0, 1, 2] (rfl))
            · -- 48 F
              refine lv_iload_n hx hb dX6_suspects_51 rfl (lv_at hl 1 rfl) ?_
              refine lv_iconst (v := 1) hx hb dX6_suspects_52 (by decide) ?_
              refine lv_iload_n hx hb dX6_suspects_53 rfl (lv_at hl 0 rfl) ?_
              refine lv_ishl hx hb dX6_suspects_54 ?_
              refine top_eq (y := nI (2 ^ i)) (shl_1 (by omega)) ?_
              refine lv_ior hx hb dX6_suspects_55 ?_
              refine top_eq (y := nI (x ||| 2 ^ i)) (fa_or _ _) ?_
              refine lv_istore_n (lv' := [(1, .int (nI (x ||| 2 ^ i))), (2, .int (nI i)), (0, .ref O)]) hx hb dX6_suspects_56 rfl hl (by decide) rfl (fun ls hl => ?_)
              refine lv_iinc (v := nI (i + 1)) (lv' := [(2, .int (nI (i + 1))), (1, .int (nI (x ||| 2 ^ i))), (0, .ref O)]) hx hb dX6_suspects_57 hl (k := 1) rfl (nI_add _ _) (by decide) rfl (fun ls hl => ?_)
              refine lv_goto (tgt := 4) hx hb dX6_suspects_60 (by decide) ?_
              exact ih4 (i + 1) (x ||| 2 ^ i) (nI n) (nI (swN ww i)) u'_8 l'_9 v'_10 rf1 sf1 tf1 (by omega) (by first | assumption | omega) (by simp only [fbits, ← hx1, soB, if_neg c_1, if_neg c_2, if_pos c_7, if_pos c_11, if_true, if_false, Bool.false_eq_true, reduceIte]) H locs ls (ST.eq S (rfl)) (lv_sub hl [0, 1, 2] (rfl))
  exact loop4 _ 0 0 p1 p2 p3 p4 p5 rf sf tf (Nat.lt_succ_self _) (by first | assumption | omega) (rfl) H locs ls (ST.eq S (rfl)) (lv_sub hl [0, 1, 2] (rfl))

theorem inX6_alikeUpTo_X6 : ∀ w ∈ wsX60, w ∈ wsX6_alikeUpTo := by decide +kernel
set_option maxRecDepth 100000 in
set_option maxHeartbeats 4000000 in
theorem kX6_alikeUpTo (l : Launch) (g : GG) (O : Nat) (dh : Nat) (th : Nat) (HH : Nat) (IM : Nat) (SG : Nat) (ca : Nat) (h : Nat) (P : Nat) (cf : Nat → Int32) (sb : Nat) (la9 : Nat) (hsb : sb < 512) (hla : la9 ≤ 8) : KI l g yX6_alikeUpTo wsX6_alikeUpTo 1 21 [.ref O, .int (nI sb), .int (nI la9)] [(O, ob 6 [.ref h, .ref dh, .ref th, .ref HH, .ref IM, .ref SG, .ref P, .ref ca]), (ca, aI g 9 cf)] (fun (r : Int32) (w' : va_W) => r = (nI (cq (fun t9 => sb.testBit t9) cf la9 (la9 + 1))) ∧ w' = [(O, ob 6 [.ref h, .ref dh, .ref th, .ref HH, .ref IM, .ref SG, .ref P, .ref ca]), (ca, aI g 9 cf)]) := by
  refine kI_of (cc := cX6_alikeUpTo) (maxL := 5) (by decide) rfl (Nat.le_of_ble_eq_true rfl) ?_
  intro pp ee ss mm bel mth cd A ls C S hr hl
  obtain ⟨hx, hb, hml, hown, hts⟩ := id C.1
  have hl : lv_has ls 5 [(0, .ref O), (1, .int (nI sb)), (2, .int (nI la9))] := hl
  obtain ⟨H, hH⟩ : ∃ H, H = ss.heap := ⟨_, rfl⟩
  obtain ⟨locs, hL0⟩ : ∃ L : List Loc, L = [] := ⟨_, rfl⟩
  rw [← hH, ← hL0] at S ⊢
  refine lv_iconst (v := 0) hx hb dX6_alikeUpTo_0 (by decide) ?_
  refine lv_istore_n (lv' := [(3, .int 0), (0, .ref O), (1, .int (nI sb)), (2, .int (nI la9))]) hx hb dX6_alikeUpTo_1 rfl hl (by decide) rfl (fun ls hl => ?_)
  refine lv_iconst (v := 0) hx hb dX6_alikeUpTo_2 (by decide) ?_
  refine lv_istore (lv' := [(4, .int 0), (3, .int 0), (0, .ref O), (1, .int (nI sb)), (2, .int (nI la9))]) hx hb dX6_alikeUpTo_3 hl (by decide) rfl (fun ls hl => ?_)
  have loop5 : ∀ (N0 : Nat) (i : Nat) (x : Nat), la9 + 1 - i < N0 → (i ≤ la9 + 1) → (x = cq (fun t9 => sb.testBit t9) cf la9 i) → ∀ (H : Heap) (locs : List Loc) (ls : Array Slot), ST g A ss H locs [(O, ob 6 [.ref h, .ref dh, .ref th, .ref HH, .ref IM, .ref SG, .ref P, .ref ca]), (ca, aI g 9 cf)] → lv_has ls 5 [(4, .int (nI i)), (3, .int (nI x)), (0, .ref O), (1, .int (nI sb)), (2, .int (nI la9))] → W pp l ee { frames := 1, cells := 0, slots := 0, locals := 21 } ss mm ([.ref O, .int (nI sb), .int (nI la9)] : List Value).toArray bel mth cd H locs 0 0 (QI bel ([.ref O, .int (nI sb), .int (nI la9)] : List Value).toArray ss g A (fun (r : Int32) (w' : va_W) => r = (nI (cq (fun t9 => sb.testBit t9) cf la9 (la9 + 1))) ∧ w' = [(O, ob 6 [.ref h, .ref dh, .ref th, .ref HH, .ref IM, .ref SG, .ref P, .ref ca]), (ca, aI g 9 cf)])) (F0 mm 5 ls []) := by
    intro N0
    induction N0 with
    | zero => intro i x hN; exact absurd hN (Nat.not_lt_zero _)
    | succ N0 ih5 =>
      intro i x hN hi hx1 H locs ls S hl
      refine lv_iload hx hb dX6_alikeUpTo_5 (lv_at hl 0 rfl) ?_
      refine lv_iload_n hx hb dX6_alikeUpTo_7 rfl (lv_at hl 4 rfl) ?_
      refine bn_igt (tgt := 45) (a := i) (b := la9) hx hb rfl rfl (by omega) (by omega) dX6_alikeUpTo_8 (by decide) (fun c_1 => ?_) (fun c_1 => ?_)
      · -- 8 T
        refine lv_iload_n hx hb dX6_alikeUpTo_45 rfl (lv_at hl 1 rfl) ?_
        exact ret_I C S hr dX6_alikeUpTo_46 ⟨(by rw [hx1, show i = la9 + 1 by omega]), (rfl)⟩
      · -- 8 F
        refine lv_iload_n hx hb dX6_alikeUpTo_11 rfl (lv_at hl 3 rfl) ?_
        refine lv_iload hx hb dX6_alikeUpTo_12 (lv_at hl 0 rfl) ?_
        refine after_I (wc := []) (y := yX6_holds) C S (va_runS (As := [.int (nI sb), .int (nI i)]) (rest := []) C.1 (kX6_holds l g sb i (by first | assumption | omega) (by first | assumption | omega) H.size) (va_cwS 2 hts gX6_alikeUpTo_X6_holds rfl rfl rfl (by decide +kernel) ⟨Nat.le_of_ble_eq_true rfl, Nat.le_of_ble_eq_true rfl⟩) (preS_at C S [] rfl (by decide)) rfl rfl hl.1 rfl (lv_room (Nat.le_of_ble_eq_true rfl)) dX6_alikeUpTo_14 ⟨Nat.le_of_ble_eq_true rfl, Nat.le_of_ble_eq_true rfl⟩) [] [0, 1] rfl (wr := [(O, ob 6 [.ref h, .ref dh, .ref th, .ref HH, .ref IM, .ref SG, .ref P, .ref ca]), (ca, aI g 9 cf)]) rfl (by decide) (by decide) (fun r0 w0 H locs hq S => ?_)
        obtain ⟨rfl, rfl⟩ := hq
        have S : ST g A ss H locs [(O, ob 6 [.ref h, .ref dh, .ref th, .ref HH, .ref IM, .ref SG, .ref P, .ref ca]), (ca, aI g 9 cf)] := S
        refine br_eqB (tgt := 39) hx hb dX6_alikeUpTo_17 (by decide) (fun c_2 => ?_) (fun c_2 => ?_)
        · -- 17 T
          refine lv_iinc (v := nI (i + 1)) (lv' := [(4, .int (nI (i + 1))), (3, .int (nI x)), (0, .ref O), (1, .int (nI sb)), (2, .int (nI la9))]) hx hb dX6_alikeUpTo_39 hl (k := 0) rfl (nI_add _ _) (by decide) rfl (fun ls hl => ?_)
          refine lv_goto (tgt := 5) hx hb dX6_alikeUpTo_42 (by decide) ?_
          exact ih5 (i + 1) x (by omega) (by first | assumption | omega) (by simp only [cq, ← hx1, if_neg c_1, if_neg (Bool.eq_false_iff.mp c_2), if_true, if_false, Bool.false_eq_true, reduceIte]) H locs ls (ST.eq S (rfl)) (lv_sub hl [0, 1, 2, 3, 4] (rfl))
        · -- 17 F
          refine lv_aload_n hx hb dX6_alikeUpTo_20 rfl (lv_at hl 2 rfl) ?_
          refine top_get C S inX6_alikeUpTo_X6 rfl 0 rfl 7 (by decide) (by decide +kernel) rfl rfl dX6_alikeUpTo_21 ?_
          refine lv_iload hx hb dX6_alikeUpTo_24 (lv_at hl 0 rfl) ?_
          refine top_ild C S 1 rfl (j := i) rfl (by omega) (by decide) dX6_alikeUpTo_26 ?_
          refine lv_aload_n hx hb dX6_alikeUpTo_27 rfl (lv_at hl 2 rfl) ?_
          refine top_get C S inX6_alikeUpTo_X6 rfl 0 rfl 7 (by decide) (by decide +kernel) rfl rfl dX6_alikeUpTo_28 ?_
          refine lv_iload_n hx hb dX6_alikeUpTo_31 rfl (lv_at hl 4 rfl) ?_
          refine top_ild C S 1 rfl (j := la9) rfl (by omega) (by decide) dX6_alikeUpTo_32 ?_
          refine lv_icmp_ne (tgt := 39) hx hb dX6_alikeUpTo_33 (by decide) (fun c_3 => ?_) (fun c_3 => ?_)
          · -- 33 T
            refine lv_iinc (v := nI (i + 1)) (lv' := [(4, .int (nI (i + 1))), (3, .int (nI x)), (0, .ref O), (1, .int (nI sb)), (2, .int (nI la9))]) hx hb dX6_alikeUpTo_39 hl (k := 0) rfl (nI_add _ _) (by decide) rfl (fun ls hl => ?_)
            refine lv_goto (tgt := 5) hx hb dX6_alikeUpTo_42 (by decide) ?_
            exact ih5 (i + 1) x (by omega) (by first | assumption | omega) (by simp only [cq, ← hx1, if_neg c_1, if_pos c_2, if_neg c_3, if_true, if_false, Bool.false_eq_true, reduceIte]) H locs ls (ST.eq S (rfl)) (lv_sub hl [0, 1, 2, 3, 4] (rfl))
          · -- 33 F
            refine lv_iinc (v := nI (x + 1)) (lv' := [(3, .int (nI (x + 1))), (4, .int (nI i)), (0, .ref O), (1, .int (nI sb)), (2, .int (nI la9))]) hx hb dX6_alikeUpTo_36 hl (k := 1) rfl (nI_add _ _) (by decide) rfl (fun ls hl => ?_)
            refine lv_iinc (v := nI (i + 1)) (lv' := [(4, .int (nI (i + 1))), (3, .int (nI (x + 1))), (0, .ref O), (1, .int (nI sb)), (2, .int (nI la9))]) hx hb dX6_alikeUpTo_39 hl (k := 1) rfl (nI_add _ _) (by decide) rfl (fun ls hl => ?_)
            refine lv_goto (tgt := 5) hx hb dX6_alikeUpTo_42 (by decide) ?_
            exact ih5 (i + 1) (x + 1) (by omega) (by first | assumption | omega) (by simp only [cq, ← hx1, if_neg c_1, if_pos c_2, if_pos c_3, if_true, if_false, Bool.false_eq_true, reduceIte]) H locs ls (ST.eq S (rfl)) (lv_sub hl [0, 1, 2, 3, 4] (rfl))
  exact loop5 _ 0 0 (Nat.lt_succ_self _) (by first | assumption | omega) (rfl) H locs ls (ST.eq S (rfl)) (lv_sub hl [0, 1, 2, 3, 4] (rfl))

theorem inX6_mostAlike_X2 : ∀ w ∈ wsX20, w ∈ wsX6_mostAlike := by decide +kernel
theorem inX6_mostAlike_X6 : ∀ w ∈ wsX60, w ∈ wsX6_mostAlike := by decide +kernel
set_option maxRecDepth 100000 in
set_option maxHeartbeats 4000000 in
theorem kX6_mostAlike (l : Launch) (g : GG) (O : Nat) (dh : Nat) (th : Nat) (HH : Nat) (IM : Nat) (SG : Nat) (ca : Nat) (h : Nat) (q : Nat) (f : Nat → Int32) (n : Nat) (ww : Nat) (nu : Nat → Nat → Nat) (P : Nat) (ra : Nat) (sa : Nat) (ta : Nat) (rf : Nat → Int32) (sf : Nat → Int32) (tf : Nat → Int32) (p1 : Int32) (p2 : Int32) (p3 : Int32) (p4 : Int32) (p5 : Int32) (cf : Nat → Int32) (sb : Nat) (p : Nat) (hn1 : 1 ≤ n) (hn : n ≤ 8) (hww : ww < 256) (hf : ∀ a i, a < 4 → i < n → f (a * 8 + i) = nI (nu a i)) (hB : HB nu n) (hsb : sb < 512) (hp : p < 1000) : KI l g yX6_mostAlike wsX6_mostAlike 5 113 [.ref O, .int (nI sb), .int (nI p)] [(O, ob 6 [.ref h, .ref dh, .ref th, .ref HH, .ref IM, .ref SG, .ref P, .ref ca]), (h, ob 2 [.ref q, .int (nI n), .int (nI ww)]), (q, aI g 32 f), (P, ob 3 [.ref ra, .ref sa, .ref ta, .int p1, .int p2, .int p3, .int p4, .int p5]), (ra, aI g 8 rf), (sa, aI g 8 sf), (ta, aI g 8 tf), (ca, aI g 9 cf)] (fun (r : Int32) (w' : va_W) => r = (nI (mlC (fun t9 => sb.testBit t9) (fun s9 => cutS nu n ww s9 p) (n + 1))) ∧ ∃ (z1' : Int32), ∃ (z2' : Int32), ∃ (z3' : Int32), ∃ (z4' : Int32), ∃ (z5' : Int32), ∃ (rf' : Nat → Int32), ∃ (sf' : Nat → Int32), ∃ (tf' : Nat → Int32), ∃ (cf' : Nat → Int32), w' = [(O, ob 6 [.ref h, .ref dh, .ref th, .ref HH, .ref IM, .ref SG, .ref P, .ref ca]), (h, ob 2 [.ref q, .int (nI n), .int (nI ww)]), (q, aI g 32 f), (P, ob 3 [.ref ra, .ref sa, .ref ta, .int z1', .int z2', .int z3', .int z4', .int z5']), (ra, aI g 8 rf'), (sa, aI g 8 sf'), (ta, aI g 8 tf'), (ca, aI g 9 cf')]) := by
  refine kI_of (cc := cX6_mostAlike) (maxL := 5) (by decide) rfl (Nat.le_of_ble_eq_true rfl) ?_
  intro pp ee ss mm bel mth cd A ls C S hr hl
  obtain ⟨hx, hb, hml, hown, hts⟩ := id C.1
  have hl : lv_has ls 5 [(0, .ref O), (1, .int (nI sb)), (2, .int (nI p))] := hl
  obtain ⟨H, hH⟩ : ∃ H, H = ss.heap := ⟨_, rfl⟩
  obtain ⟨locs, hL0⟩ : ∃ L : List Loc, L = [] := ⟨_, rfl⟩
  rw [← hH, ← hL0] at S ⊢
  have hca : ∀ i, i < n → nu 2 i ≤ 30 := fun i9 h9 => (hB i9 h9).2.2.1
  have hSb : ∀ i, i < n → nu 1 i ≤ 9 := fun i9 h9 => (hB i9 h9).2.1.2
  have hTb : ∀ i, i < n → nu 3 i ≤ 99 := fun i9 h9 => (hB i9 h9).2.2.2.2
  have hRb : ∀ i, i < n → R0 nu i ≤ 240 := RC_le hn hca
  refine lv_iconst (v := 0) hx hb dX6_mostAlike_0 (by decide) ?_
  refine lv_istore_n (lv' := [(3, .int 0), (0, .ref O), (1, .int (nI sb)), (2, .int (nI p))]) hx hb dX6_mostAlike_1 rfl hl (by decide) rfl (fun ls hl => ?_)
  refine lv_iconst (v := 0) hx hb dX6_mostAlike_2 (by decide) ?_
  refine lv_istore (lv' := [(4, .int 0), (3, .int 0), (0, .ref O), (1, .int (nI sb)), (2, .int (nI p))]) hx hb dX6_mostAlike_3 hl (by decide) rfl (fun ls hl => ?_)
  have loop5 : ∀ (N0 : Nat) (i : Nat) (x : Nat) (z1 : Int32) (z2 : Int32) (z3 : Int32) (z4 : Int32) (z5 : Int32) (r1 : Nat → Int32) (s1 : Nat → Int32) (t1 : Nat → Int32) (c1 : Nat → Int32), n + 1 - i < N0 → (i ≤ n + 1) → (x = mlC (fun t9 => sb.testBit t9) (fun s9 => cutS nu n ww s9 p) i) → (∀ t9, t9 < i → sb.testBit t9 = true → c1 t9 = cutS nu n ww t9 p) → ∀ (H : Heap) (locs : List Loc) (ls : Array Slot), ST g A ss H locs [(O, ob 6 [.ref h, .ref dh, .ref th, .ref HH, .ref IM, .ref SG, .ref P, .ref ca]), (h, ob 2 [.ref q, .int (nI n), .int (nI ww)]), (q, aI g 32 f), (P, ob 3 [.ref ra, .ref sa, .ref ta, .int z1, .int z2, .int z3, .int z4, .int z5]), (ra, aI g 8 r1), (sa, aI g 8 s1), (ta, aI g 8 t1), (ca, aI g 9 c1)] → lv_has ls 5 [(4, .int (nI i)), (3, .int (nI x)), (0, .ref O), (1, .int (nI sb)), (2, .int (nI p))] → W pp l ee { frames := 5, cells := 0, slots := 0, locals := 113 } ss mm ([.ref O, .int (nI sb), .int (nI p)] : List Value).toArray bel mth cd H locs 0 0 (QI bel ([.ref O, .int (nI sb), .int (nI p)] : List Value).toArray ss g A (fun (r : Int32) (w' : va_W) => r = (nI (mlC (fun t9 => sb.testBit t9) (fun s9 => cutS nu n ww s9 p) (n + 1))) ∧ ∃ (z1' : Int32), ∃ (z2' : Int32), ∃ (z3' : Int32), ∃ (z4' : Int32), ∃ (z5' : Int32), ∃ (rf' : Nat → Int32), ∃ (sf' : Nat → Int32), ∃ (tf' : Nat → Int32), ∃ (cf' : Nat → Int32), w' = [(O, ob 6 [.ref h, .ref dh, .ref th, .ref HH, .ref IM, .ref SG, .ref P, .ref ca]), (h, ob 2 [.ref q, .int (nI n), .int (nI ww)]), (q, aI g 32 f), (P, ob 3 [.ref ra, .ref sa, .ref ta, .int z1', .int z2', .int z3', .int z4', .int z5']), (ra, aI g 8 rf'), (sa, aI g 8 sf'), (ta, aI g 8 tf'), (ca, aI g 9 cf')])) (F0 mm 5 ls []) := by
    intro N0
    induction N0 with
    | zero => intro i x z1 z2 z3 z4 z5 r1 s1 t1 c1 hN; exact absurd hN (Nat.not_lt_zero _)
    | succ N0 ih5 =>
      intro i x z1 z2 z3 z4 z5 r1 s1 t1 c1 hN hi hx1 hcf H locs ls S hl
      have hxl : x ≤ i := by rw [hx1]; exact mlC_le i
      refine lv_iload hx hb dX6_mostAlike_5 (lv_at hl 0 rfl) ?_
      refine lv_aload_n hx hb dX6_mostAlike_7 rfl (lv_at hl 2 rfl) ?_
      refine top_get C S inX6_mostAlike_X6 rfl 0 rfl 0 (by decide) (by decide +kernel) rfl rfl dX6_mostAlike_8 ?_
      refine top_getN C S inX6_mostAlike_X2 rfl 1 rfl 1 (by decide) (by decide +kernel) rfl dX6_mostAlike_11 ?_
      refine bn_igt (tgt := 65) (a := i) (b := n) hx hb rfl rfl (by omega) (by omega) dX6_mostAlike_14 (by decide) (fun c_1 => ?_) (fun c_1 => ?_)
      · -- 14 T
        refine lv_iload_n hx hb dX6_mostAlike_65 rfl (lv_at hl 1 rfl) ?_
        exact ret_I C S hr dX6_mostAlike_66 ⟨(by rw [hx1, show i = n + 1 by omega]), z1, z2, z3, z4, z5, r1, s1, t1, c1, (rfl)⟩
      · -- 14 F
        refine lv_iload_n hx hb dX6_mostAlike_17 rfl (lv_at hl 3 rfl) ?_
        refine lv_iload hx hb dX6_mostAlike_18 (lv_at hl 0 rfl) ?_
        refine after_I (wc := []) (y := yX6_holds) C S (va_runS (As := [.int (nI sb), .int (nI i)]) (rest := []) C.1 (kX6_holds l g sb i (by first | assumption | omega) (by first | assumption | omega) H.size) (va_cwS 2 hts gX6_mostAlike_X6_holds rfl rfl rfl (by decide +kernel) ⟨Nat.le_of_ble_eq_true rfl, Nat.le_of_ble_eq_true rfl⟩) (preS_at C S [] rfl (by decide)) rfl rfl hl.1 rfl (lv_room (Nat.le_of_ble_eq_true rfl)) dX6_mostAlike_20 ⟨Nat.le_of_ble_eq_true rfl, Nat.le_of_ble_eq_true rfl⟩) [] [0, 1, 2, 3, 4, 5, 6, 7] rfl (wr := [(O, ob 6 [.ref h, .ref dh, .ref th, .ref HH, .ref IM, .ref SG, .ref P, .ref ca]), (h, ob 2 [.ref q, .int (nI n), .int (nI ww)]), (q, aI g 32 f), (P, ob 3 [.ref ra, .ref sa, .ref ta, .int z1, .int z2, .int z3, .int z4, .int z5]), (ra, aI g 8 r1), (sa, aI g 8 s1), (ta, aI g 8 t1), (ca, aI g 9 c1)]) rfl (by decide) (by decide) (fun r0 w0 H locs hq S => ?_)
        obtain ⟨rfl, rfl⟩ := hq
        have S : ST g A ss H locs [(O, ob 6 [.ref h, .ref dh, .ref th, .ref HH, .ref IM, .ref SG, .ref P, .ref ca]), (h, ob 2 [.ref q, .int (nI n), .int (nI ww)]), (q, aI g 32 f), (P, ob 3 [.ref ra, .ref sa, .ref ta, .int z1, .int z2, .int z3, .int z4, .int z5]), (ra, aI g 8 r1), (sa, aI g 8 s1), (ta, aI g 8 t1), (ca, aI g 9 c1)] := S
        refine br_eqB (tgt := 59) hx hb dX6_mostAlike_23 (by decide) (fun c_2 => ?_) (fun c_2 => ?_)
        · -- 23 T
          refine lv_iinc (v := nI (i + 1)) (lv' := [(4, .int (nI (i + 1))), (3, .int (nI x)), (0, .ref O), (1, .int (nI sb)), (2, .int (nI p))]) hx hb dX6_mostAlike_59 hl (k := 0) rfl (nI_add _ _) (by decide) rfl (fun ls hl => ?_)
          refine lv_goto (tgt := 5) hx hb dX6_mostAlike_62 (by decide) ?_
          exact ih5 (i + 1) x z1 z2 z3 z4 z5 r1 s1 t1 c1 (by omega) (by first | assumption | omega) (by simp only [mlC, ← hx1, if_neg c_1, if_neg (Bool.eq_false_iff.mp c_2), if_true, if_false, Bool.false_eq_true, reduceIte]) (fun t9 h9 b9 => by by_cases e9 : t9 = i; (subst e9; rw [c_2] at b9; cases b9); exact hcf t9 (by omega) b9) H locs ls (ST.eq S (rfl)) (lv_sub hl [0, 1, 2, 3, 4] (rfl))
        · -- 23 F
          refine lv_aload_n hx hb dX6_mostAlike_26 rfl (lv_at hl 2 rfl) ?_
          refine lv_iload hx hb dX6_mostAlike_27 (lv_at hl 0 rfl) ?_
          refine after_V (wc := [(O, ob 6 [.ref h, .ref dh, .ref th, .ref HH, .ref IM, .ref SG, .ref P, .ref ca]), (h, ob 2 [.ref q, .int (nI n), .int (nI ww)]), (q, aI g 32 f), (P, ob 3 [.ref ra, .ref sa, .ref ta, .int z1, .int z2, .int z3, .int z4, .int z5]), (ra, aI g 8 r1), (sa, aI g 8 s1), (ta, aI g 8 t1)]) (y := yX6_stackSuspect) C S (va_runV (As := [.int (nI i)]) (rest := []) C.1 (kX6_stackSuspect l g O dh th HH IM SG ca h q f n ww nu P ra sa ta r1 s1 t1 z1 z2 z3 z4 z5 i (by first | assumption | omega) (by first | assumption | omega) (by first | assumption | omega) (by first | assumption | omega) (by first | assumption | omega) H.size) (cwV 1 hts gX6_mostAlike_X6_stackSuspect rfl rfl rfl (by decide +kernel) ⟨Nat.le_of_ble_eq_true rfl, Nat.le_of_ble_eq_true rfl⟩) (preV_at C S 0 rfl rfl [0, 1, 2, 3, 4, 5, 6] rfl (by decide)) rfl rfl hl.1 rfl (lv_room (Nat.le_of_ble_eq_true rfl)) dX6_mostAlike_29 ⟨Nat.le_of_ble_eq_true rfl, Nat.le_of_ble_eq_true rfl⟩) [0, 1, 2, 3, 4, 5, 6] [7] rfl (wr := [(ca, aI g 9 c1)]) rfl (by decide) (by decide) (fun w0 H locs hq S => ?_)
          obtain ⟨rf1, sf1, tf1, hR1, hS1, hT1, rfl⟩ := hq
          have S : ST g A ss H locs [(O, ob 6 [.ref h, .ref dh, .ref th, .ref HH, .ref IM, .ref SG, .ref P, .ref ca]), (h, ob 2 [.ref q, .int (nI n), .int (nI ww)]), (q, aI g 32 f), (P, ob 3 [.ref ra, .ref sa, .ref ta, .int (nI n), .int (nI (swN ww i)), .int z3, .int z4, .int z5]), (ra, aI g 8 rf1), (sa, aI g 8 sf1), (ta, aI g 8 tf1), (ca, aI g 9 c1)] := ST.sub S [1, 2, 3, 4, 5, 6, 7, 0] (by decide) rfl
          refine lv_aload_n hx hb dX6_mostAlike_32 rfl (lv_at hl 2 rfl) ?_
          refine top_get C S inX6_mostAlike_X6 rfl 0 rfl 7 (by decide) (by decide +kernel) rfl rfl dX6_mostAlike_33 ?_
          refine lv_iload hx hb dX6_mostAlike_36 (lv_at hl 0 rfl) ?_
          refine lv_aload_n hx hb dX6_mostAlike_38 rfl (lv_at hl 2 rfl) ?_
          refine top_get C S inX6_mostAlike_X6 rfl 0 rfl 6 (by decide) (by decide +kernel) rfl rfl dX6_mostAlike_39 ?_
          refine lv_iload_n hx hb dX6_mostAlike_42 rfl (lv_at hl 4 rfl) ?_
          refine after_I (wc := [(P, ob 3 [.ref ra, .ref sa, .ref ta, .int (nI n), .int (nI (swN ww i)), .int z3, .int z4, .int z5]), (ra, aI g 8 rf1), (sa, aI g 8 sf1), (ta, aI g 8 tf1)]) (y := yX3_cutBy) C S (va_runV (As := [.int (nI p)]) (rest := [.int (nI i), .ref ca]) C.1 (kX3_cutBy l g P ra sa ta rf1 sf1 tf1 n (swN ww i) z3 z4 z5 (R0 nu) (nu 1) (nu 3) p (by first | assumption | omega) (Nat.lt_of_lt_of_le (sw_lt hww) (by decide)) (by first | assumption | omega) (by first | assumption | omega) (by first | assumption | omega) (by first | assumption | omega) (by first | assumption | omega) (by first | assumption | omega) (by omega) H.size) (cwV 1 hts gX6_mostAlike_X3_cutBy rfl rfl rfl (by decide +kernel) ⟨Nat.le_of_ble_eq_true rfl, Nat.le_of_ble_eq_true rfl⟩) (preV_at C S 3 rfl rfl [3, 4, 5, 6] rfl (by decide)) rfl rfl hl.1 rfl (lv_room (Nat.le_of_ble_eq_true rfl)) dX6_mostAlike_43 ⟨Nat.le_of_ble_eq_true rfl, Nat.le_of_ble_eq_true rfl⟩) [3, 4, 5, 6] [0, 1, 2, 7] rfl (wr := [(O, ob 6 [.ref h, .ref dh, .ref th, .ref HH, .ref IM, .ref SG, .ref P, .ref ca]), (h, ob 2 [.ref q, .int (nI n), .int (nI ww)]), (q, aI g 32 f), (ca, aI g 9 c1)]) rfl (by decide) (by decide) (fun r0 w0 H locs hq S => ?_)
          obtain ⟨rfl, rfl⟩ := hq
          have S : ST g A ss H locs [(O, ob 6 [.ref h, .ref dh, .ref th, .ref HH, .ref IM, .ref SG, .ref P, .ref ca]), (h, ob 2 [.ref q, .int (nI n), .int (nI ww)]), (q, aI g 32 f), (P, ob 3 [.ref ra, .ref sa, .ref ta, .int (nI n), .int (nI (swN ww i)), .int (nI (uppN (nu 1) (R0 nu) (swN ww i) p n)), .int (nI (lowN (nu 1) (R0 nu) (swN ww i) p n)), .int (nI ((pr (nu 1) (R0 nu) (swN ww i) p n).1))]), (ra, aI g 8 rf1), (sa, aI g 8 sf1), (ta, aI g 8 tf1), (ca, aI g 9 c1)] := ST.sub S [0, 1, 2, 4, 5, 6, 7, 3] (by decide) rfl
          refine top_ist C S 7 rfl (j := i) rfl (by omega) (by decide) dX6_mostAlike_46 (fun H locs S => ?_)
          have S : ST g A ss H locs [(O, ob 6 [.ref h, .ref dh, .ref th, .ref HH, .ref IM, .ref SG, .ref P, .ref ca]), (h, ob 2 [.ref q, .int (nI n), .int (nI ww)]), (q, aI g 32 f), (P, ob 3 [.ref ra, .ref sa, .ref ta, .int (nI n), .int (nI (swN ww i)), .int (nI (uppN (nu 1) (R0 nu) (swN ww i) p n)), .int (nI (lowN (nu 1) (R0 nu) (swN ww i) p n)), .int (nI ((pr (nu 1) (R0 nu) (swN ww i) p n).1))]), (ra, aI g 8 rf1), (sa, aI g 8 sf1), (ta, aI g 8 tf1), (ca, aI g 9 (upd c1 i (cutI (uppN (nu 1) (R0 nu) (swN ww i) p n) (lowN (nu 1) (R0 nu) (swN ww i) p n))))] := S
          refine lv_iload_n hx hb dX6_mostAlike_47 rfl (lv_at hl 1 rfl) ?_
          refine lv_aload_n hx hb dX6_mostAlike_48 rfl (lv_at hl 2 rfl) ?_
          refine lv_iload_n hx hb dX6_mostAlike_49 rfl (lv_at hl 3 rfl) ?_
          refine lv_iload hx hb dX6_mostAlike_50 (lv_at hl 0 rfl) ?_
          refine after_I (wc := [(O, ob 6 [.ref h, .ref dh, .ref th, .ref HH, .ref IM, .ref SG, .ref P, .ref ca]), (ca, aI g 9 (upd c1 i (cutI (uppN (nu 1) (R0 nu) (swN ww i) p n) (lowN (nu 1) (R0 nu) (swN ww i) p n))))]) (y := yX6_alikeUpTo) C S (va_runV (As := [.int (nI sb), .int (nI i)]) (rest := [.int (nI x)]) C.1 (kX6_alikeUpTo l g O dh th HH IM SG ca h P (upd c1 i (cutI (uppN (nu 1) (R0 nu) (swN ww i) p n) (lowN (nu 1) (R0 nu) (swN ww i) p n))) sb i (by first | assumption | omega) (by first | assumption | omega) H.size) (cwV 2 hts gX6_mostAlike_X6_alikeUpTo rfl rfl rfl (by decide +kernel) ⟨Nat.le_of_ble_eq_true rfl, Nat.le_of_ble_eq_true rfl⟩) (preV_at C S 0 rfl rfl [0, 7] rfl (by decide)) rfl rfl hl.1 rfl (lv_room (Nat.le_of_ble_eq_true rfl)) dX6_mostAlike_52 ⟨Nat.le_of_ble_eq_true rfl, Nat.le_of_ble_eq_true rfl⟩) [0, 7] [1, 2, 3, 4, 5, 6] rfl (wr := [(h, ob 2 [.ref q, .int (nI n), .int (nI ww)]), (q, aI g 32 f), (P, ob 3 [.ref ra, .ref sa, .ref ta, .int (nI n), .int (nI (swN ww i)), .int (nI (uppN (nu 1) (R0 nu) (swN ww i) p n)), .int (nI (lowN (nu 1) (R0 nu) (swN ww i) p n)), .int (nI ((pr (nu 1) (R0 nu) (swN ww i) p n).1))]), (ra, aI g 8 rf1), (sa, aI g 8 sf1), (ta, aI g 8 tf1)]) rfl (by decide) (by decide) (fun r0 w0 H locs hq S => ?_)
          obtain ⟨rfl, rfl⟩ := hq
          have S : ST g A ss H locs [(O, ob 6 [.ref h, .ref dh, .ref th, .ref HH, .ref IM, .ref SG, .ref P, .ref ca]), (h, ob 2 [.ref q, .int (nI n), .int (nI ww)]), (q, aI g 32 f), (P, ob 3 [.ref ra, .ref sa, .ref ta, .int (nI n), .int (nI (swN ww i)), .int (nI (uppN (nu 1) (R0 nu) (swN ww i) p n)), .int (nI (lowN (nu 1) (R0 nu) (swN ww i) p n)), .int (nI ((pr (nu 1) (R0 nu) (swN ww i) p n).1))]), (ra, aI g 8 rf1), (sa, aI g 8 sf1), (ta, aI g 8 tf1), (ca, aI g 9 (upd c1 i (cutI (uppN (nu 1) (R0 nu) (swN ww i) p n) (lowN (nu 1) (R0 nu) (swN ww i) p n))))] := ST.sub S [6, 0, 1, 2, 3, 4, 5, 7] (by decide) rfl
          refine top_eq (y := nI (cq (fun t9 => sb.testBit t9) (fun s9 => cutS nu n ww s9 p) i (i + 1))) (congrArg nI (cq_congr (by rw [pk_us]; rfl) (i + 1) (fun t9 h9 b9 => by by_cases e9 : t9 = i; (subst e9; rw [pk_us]; rfl); (rw [pk_un e9]; exact hcf t9 (by omega) b9)))) ?_
          refine va_mmax hx hb (hml.trans hl.1.symm) hown (hts (.methodLink RX6 208 Lib.Math.max.name) (by decide +kernel)) (hts (.static Lib.Math.max.name) (by decide +kernel)) (hts (.initialized "java/lang/Math") (by decide +kernel)) (hts (.code Lib.Math.max.name Lib.Math.max.code 2 (some .int)) (by decide +kernel)) (Nat.le_of_ble_eq_true rfl) (Nat.le_of_ble_eq_true rfl) (Nat.le_of_ble_eq_true rfl) (Nat.le_of_ble_eq_true rfl) dX6_mostAlike_55 ?_
          refine top_eq (y := imax (nI x) (nI (cq (fun t9 => sb.testBit t9) (fun s9 => cutS nu n ww s9 p) i (i + 1)))) rfl ?_
          refine top_eq (y := nI (max x (cq (fun t9 => sb.testBit t9) (fun s9 => cutS nu n ww s9 p) i (i + 1)))) (imax_N (by omega) (by have := cq_le (so := fun t9 => sb.testBit t9) (ct := (fun s9 => cutS nu n ww s9 p)) (last := i) (i + 1); omega)) ?_
          refine lv_istore_n (lv' := [(3, .int (nI (max x (cq (fun t9 => sb.testBit t9) (fun s9 => cutS nu n ww s9 p) i (i + 1))))), (4, .int (nI i)), (0, .ref O), (1, .int (nI sb)), (2, .int (nI p))]) hx hb dX6_mostAlike_58 rfl hl (by decide) rfl (fun ls hl => ?_)
          refine lv_iinc (v := nI (i + 1)) (lv' := [(4, .int (nI (i + 1))), (3, .int (nI (max x (cq (fun t9 => sb.testBit t9) (fun s9 => cutS nu n ww s9 p) i (i + 1))))), (0, .ref O), (1, .int (nI sb)), (2, .int (nI p))]) hx hb dX6_mostAlike_59 hl (k := 1) rfl (nI_add _ _) (by decide) rfl (fun ls hl => ?_)
          refine lv_goto (tgt := 5) hx hb dX6_mostAlike_62 (by decide) ?_
          exact ih5 (i + 1) (max x (cq (fun t9 => sb.testBit t9) (fun s9 => cutS nu n ww s9 p) i (i + 1))) (nI n) (nI (swN ww i)) (nI (uppN (nu 1) (R0 nu) (swN ww i) p n)) (nI (lowN (nu 1) (R0 nu) (swN ww i) p n)) (nI ((pr (nu 1) (R0 nu) (swN ww i) p n).1)) rf1 sf1 tf1 (upd c1 i (cutI (uppN (nu 1) (R0 nu) (swN ww i) p n) (lowN (nu 1) (R0 nu) (swN ww i) p n))) (by omega) (by first | assumption | omega) (by simp only [mlC, ← hx1, if_neg c_1, if_pos c_2, if_true, if_false, Bool.false_eq_true, reduceIte]) (fun t9 h9 b9 => by by_cases e9 : t9 = i; (subst e9; rw [pk_us]; rfl); (rw [pk_un e9]; exact hcf t9 (by omega) b9)) H locs ls (ST.eq S (rfl)) (lv_sub hl [0, 1, 2, 3, 4] (rfl))
  exact loop5 _ 0 0 p1 p2 p3 p4 p5 rf sf tf cf (Nat.lt_succ_self _) (by first | assumption | omega) (rfl) (fun t9 h9 => absurd h9 (Nat.not_lt_zero _)) H locs ls (ST.eq S (rfl)) (lv_sub hl [0, 1, 2, 3, 4] (rfl))
