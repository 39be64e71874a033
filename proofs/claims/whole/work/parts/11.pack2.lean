theorem inX3_press_X3 : ∀ w ∈ wsX30, w ∈ wsX3_press := by decide +kernel
set_option maxRecDepth 100000 in
set_option maxHeartbeats 4000000 in
theorem kX3_press (l : Launch) (g : GG) (P : Nat) (ra : Nat) (sa : Nat) (ta : Nat) (rf : Nat → Int32) (sf : Nat → Int32) (tf : Nat → Int32) (n : Nat) (b : Nat) (p3 : Int32) (p4 : Int32) (p5 : Int32) (Rr : Nat → Nat) (st : Nat → Nat) (sg : Nat → Nat) (p : Nat) (hn : n ≤ 8) (hbb : b < 512) (hR : ∀ j, j < n → rf j = nI (Rr j)) (hS : ∀ j, j < n → sf j = nI (st j)) (hT : ∀ j, j < n → tf j = nI (sg j)) (hRb : ∀ i, i < n → Rr i ≤ 240) (hSb : ∀ i, i < n → st i ≤ 9) (hTb : ∀ i, i < n → sg i ≤ 99) (hp : p ≤ 999) : KI l g yX3_press wsX3_press 1 21 [.ref P, .int (nI p)] [(P, ob 3 [.ref ra, .ref sa, .ref ta, .int (nI n), .int (nI b), .int p3, .int p4, .int p5]), (ra, aI g 8 rf), (sa, aI g 8 sf), (ta, aI g 8 tf)] (fun (r : Int32) (w' : va_W) => r = (bI (decide (0 < lowN st Rr b p n))) ∧ w' = [(P, ob 3 [.ref ra, .ref sa, .ref ta, .int (nI n), .int (nI b), .int (nI (uppN st Rr b p n)), .int (nI (lowN st Rr b p n)), .int (nI ((pr st Rr b p n).1))]), (ra, aI g 8 rf), (sa, aI g 8 sf), (ta, aI g 8 tf)]) := by
  refine kI_of (cc := cX3_press) (maxL := 5) (by decide) rfl (Nat.le_of_ble_eq_true rfl) ?_
  intro pp ee ss mm bel mth cd A ls C S hr hl
  obtain ⟨hx, hb, hml, hown, hts⟩ := id C.1
  have hl : lv_has ls 5 [(0, .ref P), (1, .int (nI p))] := hl
  obtain ⟨H, hH⟩ : ∃ H, H = ss.heap := ⟨_, rfl⟩
  obtain ⟨locs, hL0⟩ : ∃ L : List Loc, L = [] := ⟨_, rfl⟩
  rw [← hH, ← hL0] at S ⊢
  refine lv_iconst (v := 0) hx hb dX3_press_0 (by decide) ?_
  refine lv_istore_n (lv' := [(2, .int 0), (0, .ref P), (1, .int (nI p))]) hx hb dX3_press_1 rfl hl (by decide) rfl (fun ls hl => ?_)
  refine lv_iconst (v := 0) hx hb dX3_press_2 (by decide) ?_
  refine lv_istore_n (lv' := [(3, .int 0), (2, .int 0), (0, .ref P), (1, .int (nI p))]) hx hb dX3_press_3 rfl hl (by decide) rfl (fun ls hl => ?_)
  refine lv_iconst (v := 0) hx hb dX3_press_4 (by decide) ?_
  refine lv_istore (lv' := [(4, .int 0), (3, .int 0), (2, .int 0), (0, .ref P), (1, .int (nI p))]) hx hb dX3_press_5 hl (by decide) rfl (fun ls hl => ?_)
  have loop7 : ∀ (N0 : Nat) (i : Nat) (a : Nat) (m : Nat), n - i < N0 → (i ≤ n) → (pr st Rr b p i = (a, m)) → ∀ (H : Heap) (locs : List Loc) (ls : Array Slot), ST g A ss H locs [(P, ob 3 [.ref ra, .ref sa, .ref ta, .int (nI n), .int (nI b), .int p3, .int p4, .int p5]), (ra, aI g 8 rf), (sa, aI g 8 sf), (ta, aI g 8 tf)] → lv_has ls 5 [(4, .int (nI i)), (3, .int (nI m)), (2, .int (nI a)), (0, .ref P), (1, .int (nI p))] → W pp l ee { frames := 1, cells := 0, slots := 0, locals := 21 } ss mm ([.ref P, .int (nI p)] : List Value).toArray bel mth cd H locs 0 0 (QI bel ([.ref P, .int (nI p)] : List Value).toArray ss g A (fun (r : Int32) (w' : va_W) => r = (bI (decide (0 < lowN st Rr b p n))) ∧ w' = [(P, ob 3 [.ref ra, .ref sa, .ref ta, .int (nI n), .int (nI b), .int (nI (uppN st Rr b p n)), .int (nI (lowN st Rr b p n)), .int (nI ((pr st Rr b p n).1))]), (ra, aI g 8 rf), (sa, aI g 8 sf), (ta, aI g 8 tf)])) (F0 mm 7 ls []) := by
    intro N0
    induction N0 with
    | zero => intro i a m hN; exact absurd hN (Nat.not_lt_zero _)
    | succ N0 ih7 =>
      intro i a m hN hi ha H locs ls S hl
      have hB := pr_le (b := b) (p := p) hSb hRb i hi
      rw [ha] at hB
      have hB1 : a ≤ 9 * i := hB.1
      have hB2 : m ≤ 2160 * i := hB.2
      refine lv_iload hx hb dX3_press_7 (lv_at hl 0 rfl) ?_
      refine lv_aload_n hx hb dX3_press_9 rfl (lv_at hl 3 rfl) ?_
      refine top_get C S inX3_press_X3 rfl 0 rfl 3 (by decide) (by decide +kernel) rfl rfl dX3_press_10 ?_
      refine bn_ige (tgt := 77) (a := i) (b := n) hx hb rfl rfl (by omega) (by omega) dX3_press_13 (by decide) (fun c_1 => ?_) (fun c_1 => ?_)
      · -- 13 T
        have hin : i = n := by omega
        rw [hin] at ha
        have hupp : uppN st Rr b p n = p + m := by unfold uppN; rw [ha]
        have hpr : (pr st Rr b p n).1 = a := by rw [ha]
        refine lv_aload_n hx hb dX3_press_77 rfl (lv_at hl 3 rfl) ?_
        refine lv_iload_n hx hb dX3_press_78 rfl (lv_at hl 4 rfl) ?_
        refine lv_iload_n hx hb dX3_press_79 rfl (lv_at hl 1 rfl) ?_
        refine lv_iadd hx hb dX3_press_80 ?_
        refine top_eq (y := nI (p + m)) (nI_add _ _) ?_
        refine top_put (ty := .int) C S inX3_press_X3 tyX3 tyX3_ok nmX3 rfl 0 rfl 5 (by decide) (by decide +kernel) rfl rfl (tyX3_ok 5 (by decide)) rfl rfl (Nat.le_of_ble_eq_true rfl) dX3_press_81 (fun H locs S => ?_)
        have S : ST g A ss H locs [(P, ob 3 [.ref ra, .ref sa, .ref ta, .int (nI n), .int (nI b), .int (nI (p + m)), .int p4, .int p5]), (ra, aI g 8 rf), (sa, aI g 8 sf), (ta, aI g 8 tf)] := S
        refine lv_aload_n hx hb dX3_press_84 rfl (lv_at hl 3 rfl) ?_
        refine lv_iload_n hx hb dX3_press_85 rfl (lv_at hl 4 rfl) ?_
        refine bn_zne (tgt := 93) (a := p) hx hb rfl (by omega) dX3_press_86 (by decide) (fun c_2 => ?_) (fun c_2 => ?_)
        · -- 86 T
          have hlow : lowN st Rr b p n = a := by unfold lowN; rw [if_neg c_2, hpr]
          refine lv_iload_n hx hb dX3_press_93 rfl (lv_at hl 2 rfl) ?_
          refine top_put (ty := .int) C S inX3_press_X3 tyX3 tyX3_ok nmX3 rfl 0 rfl 6 (by decide) (by decide +kernel) rfl rfl (tyX3_ok 6 (by decide)) rfl rfl (Nat.le_of_ble_eq_true rfl) dX3_press_94 (fun H locs S => ?_)
          have S : ST g A ss H locs [(P, ob 3 [.ref ra, .ref sa, .ref ta, .int (nI n), .int (nI b), .int (nI (p + m)), .int (nI a), .int p5]), (ra, aI g 8 rf), (sa, aI g 8 sf), (ta, aI g 8 tf)] := S
          refine lv_aload_n hx hb dX3_press_97 rfl (lv_at hl 3 rfl) ?_
          refine lv_iload_n hx hb dX3_press_98 rfl (lv_at hl 2 rfl) ?_
          refine top_put (ty := .int) C S inX3_press_X3 tyX3 tyX3_ok nmX3 rfl 0 rfl 7 (by decide) (by decide +kernel) rfl rfl (tyX3_ok 7 (by decide)) rfl rfl (Nat.le_of_ble_eq_true rfl) dX3_press_99 (fun H locs S => ?_)
          have S : ST g A ss H locs [(P, ob 3 [.ref ra, .ref sa, .ref ta, .int (nI n), .int (nI b), .int (nI (p + m)), .int (nI a), .int (nI a)]), (ra, aI g 8 rf), (sa, aI g 8 sf), (ta, aI g 8 tf)] := S
          refine lv_aload_n hx hb dX3_press_102 rfl (lv_at hl 3 rfl) ?_
          refine top_get C S inX3_press_X3 rfl 0 rfl 6 (by decide) (by decide +kernel) rfl rfl dX3_press_103 ?_
          refine bn_zle (tgt := 113) (a := a) hx hb rfl (by omega) dX3_press_106 (by decide) (fun c_3 => ?_) (fun c_3 => ?_)
          · -- 106 T
            refine lv_iconst (v := 0) hx hb dX3_press_113 (by decide) ?_
            exact ret_Z (decide (0 < lowN st Rr b p n)) C S hr dX3_press_114 (by rw [hlow, decide_eq_false (by omega)]; rfl) ⟨(by rw [hlow, decide_eq_false (by omega)]; rfl), (by rw [hlow, hupp, hpr] <;> rfl)⟩
          · -- 106 F
            refine lv_iconst (v := 1) hx hb dX3_press_109 (by decide) ?_
            refine lv_goto (tgt := 114) hx hb dX3_press_110 (by decide) ?_
            exact ret_Z (decide (0 < lowN st Rr b p n)) C S hr dX3_press_114 (by rw [hlow, decide_eq_true (by omega)]; rfl) ⟨(by rw [hlow, decide_eq_true (by omega)]; rfl), (by rw [hlow, hupp, hpr] <;> rfl)⟩
        · -- 86 F
          have hlow : lowN st Rr b p n = 1 := by unfold lowN; rw [if_pos c_2]
          refine lv_iconst (v := 1) hx hb dX3_press_89 (by decide) ?_
          refine lv_goto (tgt := 94) hx hb dX3_press_90 (by decide) ?_
          refine top_put (ty := .int) C S inX3_press_X3 tyX3 tyX3_ok nmX3 rfl 0 rfl 6 (by decide) (by decide +kernel) rfl rfl (tyX3_ok 6 (by decide)) rfl rfl (Nat.le_of_ble_eq_true rfl) dX3_press_94 (fun H locs S => ?_)
          have S : ST g A ss H locs [(P, ob 3 [.ref ra, .ref sa, .ref ta, .int (nI n), .int (nI b), .int (nI (p + m)), .int 1, .int p5]), (ra, aI g 8 rf), (sa, aI g 8 sf), (ta, aI g 8 tf)] := S
          refine lv_aload_n hx hb dX3_press_97 rfl (lv_at hl 3 rfl) ?_
          refine lv_iload_n hx hb dX3_press_98 rfl (lv_at hl 2 rfl) ?_
          refine top_put (ty := .int) C S inX3_press_X3 tyX3 tyX3_ok nmX3 rfl 0 rfl 7 (by decide) (by decide +kernel) rfl rfl (tyX3_ok 7 (by decide)) rfl rfl (Nat.le_of_ble_eq_true rfl) dX3_press_99 (fun H locs S => ?_)
          have S : ST g A ss H locs [(P, ob 3 [.ref ra, .ref sa, .ref ta, .int (nI n), .int (nI b), .int (nI (p + m)), .int 1, .int (nI a)]), (ra, aI g 8 rf), (sa, aI g 8 sf), (ta, aI g 8 tf)] := S
          refine lv_aload_n hx hb dX3_press_102 rfl (lv_at hl 3 rfl) ?_
          refine top_get C S inX3_press_X3 rfl 0 rfl 6 (by decide) (by decide +kernel) rfl rfl dX3_press_103 ?_
          refine bn_zle (tgt := 113) (a := 1) hx hb rfl (by omega) dX3_press_106 (by decide) (fun c_4 => ?_) (fun c_4 => ?_)
          · -- 106 T
            exact absurd c_4 (by decide)
          · -- 106 F
            refine lv_iconst (v := 1) hx hb dX3_press_109 (by decide) ?_
            refine lv_goto (tgt := 114) hx hb dX3_press_110 (by decide) ?_
            exact ret_Z (decide (0 < lowN st Rr b p n)) C S hr dX3_press_114 (by rw [hlow, decide_eq_true (by omega)]; rfl) ⟨(by rw [hlow, decide_eq_true (by omega)]; rfl), (by rw [hlow, hupp, hpr] <;> rfl)⟩
      · -- 13 F
        have e1 := hRb i (by omega)
        have e3 : a * Rr i ≤ 72 * 240 := Nat.mul_le_mul (by omega) e1
        refine lv_aload_n hx hb dX3_press_16 rfl (lv_at hl 3 rfl) ?_
        refine top_get C S inX3_press_X3 rfl 0 rfl 4 (by decide) (by decide +kernel) rfl rfl dX3_press_17 ?_
        refine lv_iload hx hb dX3_press_20 (lv_at hl 0 rfl) ?_
        refine after_I (wc := []) (y := yX6_holds) C S (va_runSN (As := [.int (nI b), .int (nI i)]) (rest := []) C.1 (kX6_holds l g b i (by first | assumption | omega) (by first | assumption | omega) H.size) ⟨va_cnB 2 hts gX3_press_X6_holds_n31 rfl rfl rfl (C.2.2.1.1.2 ("StackedLeaves$Pack", 31, yX6_holds) (by decide +kernel)) (hts (.initialized RX6) (by decide +kernel)) (by decide +kernel) ⟨Nat.le_of_ble_eq_true rfl, Nat.le_of_ble_eq_true rfl⟩, hts (.static yX6_holds) (by decide +kernel), trivial⟩ (preS_at C S [] rfl (by decide)) rfl rfl hl.1 rfl (lv_room (Nat.le_of_ble_eq_true rfl)) dX3_press_22 ⟨Nat.le_of_ble_eq_true rfl, Nat.le_of_ble_eq_true rfl⟩) [] [0, 1, 2, 3] rfl (wr := [(P, ob 3 [.ref ra, .ref sa, .ref ta, .int (nI n), .int (nI b), .int p3, .int p4, .int p5]), (ra, aI g 8 rf), (sa, aI g 8 sf), (ta, aI g 8 tf)]) rfl (by decide) (by decide) (fun r0 w0 H locs hq S => ?_)
        obtain ⟨rfl, rfl⟩ := hq
        have S : ST g A ss H locs [(P, ob 3 [.ref ra, .ref sa, .ref ta, .int (nI n), .int (nI b), .int p3, .int p4, .int p5]), (ra, aI g 8 rf), (sa, aI g 8 sf), (ta, aI g 8 tf)] := S
        refine br_eqB (tgt := 71) hx hb dX3_press_25 (by decide) (fun c_5 => ?_) (fun c_5 => ?_)
        · -- 25 T
          refine lv_iinc (v := nI (i + 1)) (lv' := [(4, .int (nI (i + 1))), (3, .int (nI m)), (2, .int (nI a)), (0, .ref P), (1, .int (nI p))]) hx hb dX3_press_71 hl (k := 0) rfl (nI_add _ _) (by decide) rfl (fun ls hl => ?_)
          refine lv_goto (tgt := 7) hx hb dX3_press_74 (by decide) ?_
          exact ih7 (i + 1) a m (by omega) (by first | assumption | omega) (by simp only [pr, ha, if_neg (Bool.eq_false_iff.mp c_5)]) H locs ls (ST.eq S (rfl)) (lv_sub hl [0, 1, 2, 3, 4] (rfl))
        · -- 25 F
          refine lv_iload_n hx hb dX3_press_28 rfl (lv_at hl 2 rfl) ?_
          refine lv_aload_n hx hb dX3_press_29 rfl (lv_at hl 3 rfl) ?_
          refine top_get C S inX3_press_X3 rfl 0 rfl 0 (by decide) (by decide +kernel) rfl rfl dX3_press_30 ?_
          refine lv_iload hx hb dX3_press_33 (lv_at hl 0 rfl) ?_
          refine top_ild C S 1 rfl (j := i) rfl (by omega) (by decide) dX3_press_35 ?_
          refine top_eq (y := nI (Rr i)) (hR _ (by omega)) ?_
          refine lv_imul hx hb dX3_press_36 ?_
          refine top_eq (y := nI (a * (Rr i))) (pk_mul _ _) ?_
          refine lv_iload_n hx hb dX3_press_37 rfl (lv_at hl 1 rfl) ?_
          refine lv_isub hx hb dX3_press_38 ?_
          refine lv_iload_n hx hb dX3_press_39 rfl (lv_at hl 4 rfl) ?_
          refine lv_icmp_ge (tgt := 71) hx hb dX3_press_40 (by decide) (fun c_6 => ?_) (fun c_6 => ?_)
          · -- 40 T
            have c_6 := (sub_lt_N (by omega) (by omega) (by omega)).mp c_6
            refine lv_iinc (v := nI (i + 1)) (lv' := [(4, .int (nI (i + 1))), (3, .int (nI m)), (2, .int (nI a)), (0, .ref P), (1, .int (nI p))]) hx hb dX3_press_71 hl (k := 0) rfl (nI_add _ _) (by decide) rfl (fun ls hl => ?_)
            refine lv_goto (tgt := 7) hx hb dX3_press_74 (by decide) ?_
            exact ih7 (i + 1) a m (by omega) (by first | assumption | omega) (by simp only [pr, ha, if_pos c_5, if_pos c_6]) H locs ls (ST.eq S (rfl)) (lv_sub hl [0, 1, 2, 3, 4] (rfl))
          · -- 40 F
            have c_6 : ¬ p + m ≤ a * Rr i := fun q9 => c_6 ((sub_lt_N (by omega) (by omega) (by omega)).mpr q9)
            refine lv_iload_n hx hb dX3_press_43 rfl (lv_at hl 2 rfl) ?_
            refine lv_aload_n hx hb dX3_press_44 rfl (lv_at hl 3 rfl) ?_
            refine top_get C S inX3_press_X3 rfl 0 rfl 1 (by decide) (by decide +kernel) rfl rfl dX3_press_45 ?_
            refine lv_iload hx hb dX3_press_48 (lv_at hl 0 rfl) ?_
            refine top_ild C S 2 rfl (j := i) rfl (by omega) (by decide) dX3_press_50 ?_
            refine top_eq (y := nI (st i)) (hS _ (by omega)) ?_
            refine lv_iadd hx hb dX3_press_51 ?_
            refine top_eq (y := nI (a + (st i))) (nI_add _ _) ?_
            refine lv_istore_n (lv' := [(2, .int (nI (a + (st i)))), (4, .int (nI i)), (3, .int (nI m)), (0, .ref P), (1, .int (nI p))]) hx hb dX3_press_52 rfl hl (by decide) rfl (fun ls hl => ?_)
            refine lv_iload_n hx hb dX3_press_53 rfl (lv_at hl 2 rfl) ?_
            refine lv_aload_n hx hb dX3_press_54 rfl (lv_at hl 3 rfl) ?_
            refine top_get C S inX3_press_X3 rfl 0 rfl 1 (by decide) (by decide +kernel) rfl rfl dX3_press_55 ?_
            refine lv_iload hx hb dX3_press_58 (lv_at hl 1 rfl) ?_
            refine top_ild C S 2 rfl (j := i) rfl (by omega) (by decide) dX3_press_60 ?_
            refine top_eq (y := nI (st i)) (hS _ (by omega)) ?_
            refine lv_aload_n hx hb dX3_press_61 rfl (lv_at hl 3 rfl) ?_
            refine top_get C S inX3_press_X3 rfl 0 rfl 0 (by decide) (by decide +kernel) rfl rfl dX3_press_62 ?_
            refine lv_iload hx hb dX3_press_65 (lv_at hl 1 rfl) ?_
            refine top_ild C S 1 rfl (j := i) rfl (by omega) (by decide) dX3_press_67 ?_
            refine top_eq (y := nI (Rr i)) (hR _ (by omega)) ?_
            refine lv_imul hx hb dX3_press_68 ?_
            refine top_eq (y := nI ((st i) * (Rr i))) (pk_mul _ _) ?_
            refine lv_iadd hx hb dX3_press_69 ?_
            refine top_eq (y := nI (m + ((st i) * (Rr i)))) (nI_add _ _) ?_
            refine lv_istore_n (lv' := [(3, .int (nI (m + ((st i) * (Rr i))))), (2, .int (nI (a + (st i)))), (4, .int (nI i)), (0, .ref P), (1, .int (nI p))]) hx hb dX3_press_70 rfl hl (by decide) rfl (fun ls hl => ?_)
            refine lv_iinc (v := nI (i + 1)) (lv' := [(4, .int (nI (i + 1))), (3, .int (nI (m + ((st i) * (Rr i))))), (2, .int (nI (a + (st i)))), (0, .ref P), (1, .int (nI p))]) hx hb dX3_press_71 hl (k := 2) rfl (nI_add _ _) (by decide) rfl (fun ls hl => ?_)
            refine lv_goto (tgt := 7) hx hb dX3_press_74 (by decide) ?_
            exact ih7 (i + 1) (a + (st i)) (m + ((st i) * (Rr i))) (by omega) (by first | assumption | omega) (by simp only [pr, ha, if_pos c_5, if_neg c_6]) H locs ls (ST.eq S (rfl)) (lv_sub hl [0, 1, 2, 3, 4] (rfl))
  exact loop7 _ 0 0 0 (Nat.lt_succ_self _) (by first | assumption | omega) (rfl) H locs ls (ST.eq S (rfl)) (lv_sub hl [0, 1, 2, 3, 4] (rfl))

theorem inX3_cut_X3 : ∀ w ∈ wsX30, w ∈ wsX3_cut := by decide +kernel
set_option maxRecDepth 100000 in
set_option maxHeartbeats 4000000 in
theorem kX3_cut (l : Launch) (g : GG) (P : Nat) (ra : Nat) (sa : Nat) (ta : Nat) (rf : Nat → Int32) (sf : Nat → Int32) (tf : Nat → Int32) (n : Nat) (b : Nat) (U : Nat) (Lw : Nat) (p5 : Int32) (hU : U ≤ 20000) (hL : Lw ≤ 72) : KI l g yX3_cut wsX3_cut 0 0 [.ref P] [(P, ob 3 [.ref ra, .ref sa, .ref ta, .int (nI n), .int (nI b), .int (nI U), .int (nI Lw), .int p5]), (ra, aI g 8 rf), (sa, aI g 8 sf), (ta, aI g 8 tf)] (fun (r : Int32) (w' : va_W) => r = (cutI U Lw) ∧ w' = [(P, ob 3 [.ref ra, .ref sa, .ref ta, .int (nI n), .int (nI b), .int (nI U), .int (nI Lw), .int p5]), (ra, aI g 8 rf), (sa, aI g 8 sf), (ta, aI g 8 tf)]) := by
  refine kI_of (cc := cX3_cut) (maxL := 1) (by decide) rfl (Nat.le_of_ble_eq_true rfl) ?_
  intro pp ee ss mm bel mth cd A ls C S hr hl
  obtain ⟨hx, hb, hml, hown, hts⟩ := id C.1
  have hl : lv_has ls 1 [(0, .ref P)] := hl
  obtain ⟨H, hH⟩ : ∃ H, H = ss.heap := ⟨_, rfl⟩
  obtain ⟨locs, hL0⟩ : ∃ L : List Loc, L = [] := ⟨_, rfl⟩
  rw [← hH, ← hL0] at S ⊢
  refine lv_aload_n hx hb dX3_cut_0 rfl (lv_at hl 0 rfl) ?_
  refine top_get C S inX3_cut_X3 rfl 0 rfl 6 (by decide) (by decide +kernel) rfl rfl dX3_cut_1 ?_
  refine bn_zle (tgt := 19) (a := Lw) hx hb rfl (by omega) dX3_cut_4 (by decide) (fun c_1 => ?_) (fun c_1 => ?_)
  · -- 4 T
    refine lv_bipush (v := (-9)) hx hb dX3_cut_19 (by decide) ?_
    exact ret_I C S hr dX3_cut_21 ⟨(by unfold cutI; rw [if_pos c_1]), (rfl)⟩
  · -- 4 F
    refine lv_aload_n hx hb dX3_cut_7 rfl (lv_at hl 0 rfl) ?_
    refine top_get C S inX3_cut_X3 rfl 0 rfl 5 (by decide) (by decide +kernel) rfl rfl dX3_cut_8 ?_
    refine lv_aload_n hx hb dX3_cut_11 rfl (lv_at hl 0 rfl) ?_
    refine top_get C S inX3_cut_X3 rfl 0 rfl 6 (by decide) (by decide +kernel) rfl rfl dX3_cut_12 ?_
    refine lv_idiv hx hb dX3_cut_15 (nI_ne0 (n := Lw) (by omega) (by omega)) ?_
    refine top_eq (y := nI (U / Lw)) (pk_div (a := U) (d := Lw) (by omega) (by omega) (by omega)) ?_
    refine lv_goto (tgt := 21) hx hb dX3_cut_16 (by decide) ?_
    exact ret_I C S hr dX3_cut_21 ⟨(by unfold cutI; rw [if_neg c_1]), (rfl)⟩

set_option maxRecDepth 100000 in
set_option maxHeartbeats 4000000 in
theorem kX3_cutBy (l : Launch) (g : GG) (P : Nat) (ra : Nat) (sa : Nat) (ta : Nat) (rf : Nat → Int32) (sf : Nat → Int32) (tf : Nat → Int32) (n : Nat) (b : Nat) (p3 : Int32) (p4 : Int32) (p5 : Int32) (Rr : Nat → Nat) (st : Nat → Nat) (sg : Nat → Nat) (p : Nat) (hn : n ≤ 8) (hbb : b < 512) (hR : ∀ j, j < n → rf j = nI (Rr j)) (hS : ∀ j, j < n → sf j = nI (st j)) (hT : ∀ j, j < n → tf j = nI (sg j)) (hRb : ∀ i, i < n → Rr i ≤ 240) (hSb : ∀ i, i < n → st i ≤ 9) (hTb : ∀ i, i < n → sg i ≤ 99) (hp : p ≤ 999) : KI l g yX3_cutBy wsX3_cutBy 2 45 [.ref P, .int (nI p)] [(P, ob 3 [.ref ra, .ref sa, .ref ta, .int (nI n), .int (nI b), .int p3, .int p4, .int p5]), (ra, aI g 8 rf), (sa, aI g 8 sf), (ta, aI g 8 tf)] (fun (r : Int32) (w' : va_W) => r = (cutI (uppN st Rr b p n) (lowN st Rr b p n)) ∧ w' = [(P, ob 3 [.ref ra, .ref sa, .ref ta, .int (nI n), .int (nI b), .int (nI (uppN st Rr b p n)), .int (nI (lowN st Rr b p n)), .int (nI ((pr st Rr b p n).1))]), (ra, aI g 8 rf), (sa, aI g 8 sf), (ta, aI g 8 tf)]) := by
  refine kI_of (cc := cX3_cutBy) (maxL := 2) (by decide) rfl (Nat.le_of_ble_eq_true rfl) ?_
  intro pp ee ss mm bel mth cd A ls C S hr hl
  obtain ⟨hx, hb, hml, hown, hts⟩ := id C.1
  have hl : lv_has ls 2 [(0, .ref P), (1, .int (nI p))] := hl
  obtain ⟨H, hH⟩ : ∃ H, H = ss.heap := ⟨_, rfl⟩
  obtain ⟨locs, hL0⟩ : ∃ L : List Loc, L = [] := ⟨_, rfl⟩
  rw [← hH, ← hL0] at S ⊢
  refine lv_aload_n hx hb dX3_cutBy_0 rfl (lv_at hl 0 rfl) ?_
  refine lv_iload_n hx hb dX3_cutBy_1 rfl (lv_at hl 1 rfl) ?_
  refine after_I (wc := [(P, ob 3 [.ref ra, .ref sa, .ref ta, .int (nI n), .int (nI b), .int p3, .int p4, .int p5]), (ra, aI g 8 rf), (sa, aI g 8 sf), (ta, aI g 8 tf)]) (y := yX3_press) C S (va_runV (As := [.int (nI p)]) (rest := []) C.1 (kX3_press l g P ra sa ta rf sf tf n b p3 p4 p5 Rr st sg p (by first | assumption | omega) (by first | assumption | omega) (by first | assumption | omega) (by first | assumption | omega) (by first | assumption | omega) (by first | assumption | omega) (by first | assumption | omega) (by first | assumption | omega) (by first | assumption | omega) H.size) (cwV 1 hts gX3_cutBy_X3_press rfl rfl rfl (by decide +kernel) ⟨Nat.le_of_ble_eq_true rfl, Nat.le_of_ble_eq_true rfl⟩) (preV_at C S 0 rfl rfl [0, 1, 2, 3] rfl (by decide)) rfl rfl hl.1 rfl (lv_room (Nat.le_of_ble_eq_true rfl)) dX3_cutBy_2 ⟨Nat.le_of_ble_eq_true rfl, Nat.le_of_ble_eq_true rfl⟩) [0, 1, 2, 3] [] rfl (wr := []) rfl (by decide) (by decide) (fun r0 w0 H locs hq S => ?_)
  obtain ⟨rfl, rfl⟩ := hq
  have S : ST g A ss H locs [(P, ob 3 [.ref ra, .ref sa, .ref ta, .int (nI n), .int (nI b), .int (nI (uppN st Rr b p n)), .int (nI (lowN st Rr b p n)), .int (nI ((pr st Rr b p n).1))]), (ra, aI g 8 rf), (sa, aI g 8 sf), (ta, aI g 8 tf)] := S
  refine br_eqB (tgt := 15) hx hb dX3_cutBy_5 (by decide) (fun c_1 => ?_) (fun c_1 => ?_)
  · -- 5 T
    refine lv_bipush (v := (-9)) hx hb dX3_cutBy_15 (by decide) ?_
    exact ret_I C S hr dX3_cutBy_17 ⟨(by unfold cutI; rw [if_pos (by have := of_decide_eq_false c_1; omega)]), (rfl)⟩
  · -- 5 F
    refine lv_aload_n hx hb dX3_cutBy_8 rfl (lv_at hl 0 rfl) ?_
    refine after_I (wc := [(P, ob 3 [.ref ra, .ref sa, .ref ta, .int (nI n), .int (nI b), .int (nI (uppN st Rr b p n)), .int (nI (lowN st Rr b p n)), .int (nI ((pr st Rr b p n).1))]), (ra, aI g 8 rf), (sa, aI g 8 sf), (ta, aI g 8 tf)]) (y := yX3_cut) C S (va_runV (As := []) (rest := []) C.1 (kX3_cut l g P ra sa ta rf sf tf n b (uppN st Rr b p n) (lowN st Rr b p n) (nI ((pr st Rr b p n).1)) (upp_le hn hp hSb hRb) (low_le hn hSb hRb) H.size) (cwV 0 hts gX3_cutBy_X3_cut rfl rfl rfl (by decide +kernel) ⟨Nat.le_of_ble_eq_true rfl, Nat.le_of_ble_eq_true rfl⟩) (preV_at C S 0 rfl rfl [0, 1, 2, 3] rfl (by decide)) rfl rfl hl.1 rfl (lv_room (Nat.le_of_ble_eq_true rfl)) dX3_cutBy_9 ⟨Nat.le_of_ble_eq_true rfl, Nat.le_of_ble_eq_true rfl⟩) [0, 1, 2, 3] [] rfl (wr := []) rfl (by decide) (by decide) (fun r0 w0 H locs hq S => ?_)
    obtain ⟨rfl, rfl⟩ := hq
    have S : ST g A ss H locs [(P, ob 3 [.ref ra, .ref sa, .ref ta, .int (nI n), .int (nI b), .int (nI (uppN st Rr b p n)), .int (nI (lowN st Rr b p n)), .int (nI ((pr st Rr b p n).1))]), (ra, aI g 8 rf), (sa, aI g 8 sf), (ta, aI g 8 tf)] := S
    refine lv_goto (tgt := 17) hx hb dX3_cutBy_12 (by decide) ?_
    exact ret_I C S hr dX3_cutBy_17 ⟨(rfl), (rfl)⟩

theorem inX3_borne_X3 : ∀ w ∈ wsX30, w ∈ wsX3_borne := by decide +kernel
set_option maxRecDepth 100000 in
set_option maxHeartbeats 4000000 in
theorem kX3_borne (l : Launch) (g : GG) (P : Nat) (ra : Nat) (sa : Nat) (ta : Nat) (rf : Nat → Int32) (sf : Nat → Int32) (tf : Nat → Int32) (n : Nat) (b : Nat) (U : Nat) (Lw : Nat) (p5 : Int32) (Rr : Nat → Nat) (st : Nat → Nat) (sg : Nat → Nat) (j : Nat) (hn : n ≤ 8) (hbb : b < 512) (hR : ∀ j, j < n → rf j = nI (Rr j)) (hS : ∀ j, j < n → sf j = nI (st j)) (hT : ∀ j, j < n → tf j = nI (sg j)) (hRb : ∀ i, i < n → Rr i ≤ 240) (hSb : ∀ i, i < n → st i ≤ 9) (hTb : ∀ i, i < n → sg i ≤ 99) (hU : U ≤ 20000) (hL : Lw ≤ 72) (hj : j < n) : KI l g yX3_borne wsX3_borne 1 21 [.ref P, .int (nI j)] [(P, ob 3 [.ref ra, .ref sa, .ref ta, .int (nI n), .int (nI b), .int (nI U), .int (nI Lw), .int p5]), (ra, aI g 8 rf), (sa, aI g 8 sf), (ta, aI g 8 tf)] (fun (r : Int32) (w' : va_W) => r = (nI (boN st Rr b U Lw j)) ∧ w' = [(P, ob 3 [.ref ra, .ref sa, .ref ta, .int (nI n), .int (nI b), .int (nI U), .int (nI Lw), .int p5]), (ra, aI g 8 rf), (sa, aI g 8 sf), (ta, aI g 8 tf)]) := by
  refine kI_of (cc := cX3_borne) (maxL := 2) (by decide) rfl (Nat.le_of_ble_eq_true rfl) ?_
  intro pp ee ss mm bel mth cd A ls C S hr hl
  obtain ⟨hx, hb, hml, hown, hts⟩ := id C.1
  have hl : lv_has ls 2 [(0, .ref P), (1, .int (nI j))] := hl
  obtain ⟨H, hH⟩ : ∃ H, H = ss.heap := ⟨_, rfl⟩
  obtain ⟨locs, hL0⟩ : ∃ L : List Loc, L = [] := ⟨_, rfl⟩
  rw [← hH, ← hL0] at S ⊢
  have e3 : Rr j * Lw ≤ 240 * 72 := Nat.mul_le_mul (hRb j hj) hL
  refine lv_aload_n hx hb dX3_borne_0 rfl (lv_at hl 0 rfl) ?_
  refine top_get C S inX3_borne_X3 rfl 0 rfl 4 (by decide) (by decide +kernel) rfl rfl dX3_borne_1 ?_
  refine lv_iload_n hx hb dX3_borne_4 rfl (lv_at hl 1 rfl) ?_
  refine after_I (wc := []) (y := yX6_holds) C S (va_runSN (As := [.int (nI b), .int (nI j)]) (rest := []) C.1 (kX6_holds l g b j (by first | assumption | omega) (by first | assumption | omega) H.size) ⟨va_cnB 2 hts gX3_borne_X6_holds_n31 rfl rfl rfl (C.2.2.1.1.2 ("StackedLeaves$Pack", 31, yX6_holds) (by decide +kernel)) (hts (.initialized RX6) (by decide +kernel)) (by decide +kernel) ⟨Nat.le_of_ble_eq_true rfl, Nat.le_of_ble_eq_true rfl⟩, hts (.static yX6_holds) (by decide +kernel), trivial⟩ (preS_at C S [] rfl (by decide)) rfl rfl hl.1 rfl (lv_room (Nat.le_of_ble_eq_true rfl)) dX3_borne_5 ⟨Nat.le_of_ble_eq_true rfl, Nat.le_of_ble_eq_true rfl⟩) [] [0, 1, 2, 3] rfl (wr := [(P, ob 3 [.ref ra, .ref sa, .ref ta, .int (nI n), .int (nI b), .int (nI U), .int (nI Lw), .int p5]), (ra, aI g 8 rf), (sa, aI g 8 sf), (ta, aI g 8 tf)]) rfl (by decide) (by decide) (fun r0 w0 H locs hq S => ?_)
  obtain ⟨rfl, rfl⟩ := hq
  have S : ST g A ss H locs [(P, ob 3 [.ref ra, .ref sa, .ref ta, .int (nI n), .int (nI b), .int (nI U), .int (nI Lw), .int p5]), (ra, aI g 8 rf), (sa, aI g 8 sf), (ta, aI g 8 tf)] := S
  refine br_eqB (tgt := 41) hx hb dX3_borne_8 (by decide) (fun c_1 => ?_) (fun c_1 => ?_)
  · -- 8 T
    refine lv_iconst (v := 0) hx hb dX3_borne_41 (by decide) ?_
    exact ret_I C S hr dX3_borne_42 ⟨(by unfold boN; rw [if_neg (Bool.eq_false_iff.mp c_1)] <;> rfl), (rfl)⟩
  · -- 8 F
    refine lv_aload_n hx hb dX3_borne_11 rfl (lv_at hl 0 rfl) ?_
    refine top_get C S inX3_borne_X3 rfl 0 rfl 1 (by decide) (by decide +kernel) rfl rfl dX3_borne_12 ?_
    refine lv_iload_n hx hb dX3_borne_15 rfl (lv_at hl 1 rfl) ?_
    refine top_ild C S 2 rfl (j := j) rfl (by omega) (by decide) dX3_borne_16 ?_
    refine top_eq (y := nI (st j)) (hS _ (by omega)) ?_
    refine lv_iconst (v := 0) hx hb dX3_borne_17 (by decide) ?_
    refine lv_aload_n hx hb dX3_borne_18 rfl (lv_at hl 0 rfl) ?_
    refine top_get C S inX3_borne_X3 rfl 0 rfl 5 (by decide) (by decide +kernel) rfl rfl dX3_borne_19 ?_
    refine lv_aload_n hx hb dX3_borne_22 rfl (lv_at hl 0 rfl) ?_
    refine top_get C S inX3_borne_X3 rfl 0 rfl 0 (by decide) (by decide +kernel) rfl rfl dX3_borne_23 ?_
    refine lv_iload_n hx hb dX3_borne_26 rfl (lv_at hl 1 rfl) ?_
    refine top_ild C S 1 rfl (j := j) rfl (by omega) (by decide) dX3_borne_27 ?_
    refine top_eq (y := nI (Rr j)) (hR _ (by omega)) ?_
    refine lv_aload_n hx hb dX3_borne_28 rfl (lv_at hl 0 rfl) ?_
    refine top_get C S inX3_borne_X3 rfl 0 rfl 6 (by decide) (by decide +kernel) rfl rfl dX3_borne_29 ?_
    refine lv_imul hx hb dX3_borne_32 ?_
    refine top_eq (y := nI ((Rr j) * Lw)) (pk_mul _ _) ?_
    refine lv_isub hx hb dX3_borne_33 ?_
    refine va_mmax hx hb (hml.trans hl.1.symm) hown (hts (.methodLink RX3 59 Lib.Math.max.name) (by decide +kernel)) (hts (.static Lib.Math.max.name) (by decide +kernel)) (hts (.initialized "java/lang/Math") (by decide +kernel)) (hts (.code Lib.Math.max.name Lib.Math.max.code 2 (some .int)) (by decide +kernel)) (Nat.le_of_ble_eq_true rfl) (Nat.le_of_ble_eq_true rfl) (Nat.le_of_ble_eq_true rfl) (Nat.le_of_ble_eq_true rfl) dX3_borne_34 ?_
    refine top_eq (y := imax 0 ((nI U) - (nI ((Rr j) * Lw)))) rfl ?_
    refine top_eq (y := nI (U - Rr j * Lw)) (max_0 (by omega) (by omega)) ?_
    refine lv_imul hx hb dX3_borne_37 ?_
    refine top_eq (y := nI ((st j) * (U - Rr j * Lw))) (pk_mul _ _) ?_
    refine lv_goto (tgt := 42) hx hb dX3_borne_38 (by decide) ?_
    exact ret_I C S hr dX3_borne_42 ⟨(by unfold boN; rw [if_pos c_1] <;> rfl), (rfl)⟩

theorem inX3_excess_X3 : ∀ w ∈ wsX30, w ∈ wsX3_excess := by decide +kernel
set_option maxRecDepth 100000 in
set_option maxHeartbeats 4000000 in
theorem kX3_excess (l : Launch) (g : GG) (P : Nat) (ra : Nat) (sa : Nat) (ta : Nat) (rf : Nat → Int32) (sf : Nat → Int32) (tf : Nat → Int32) (n : Nat) (b : Nat) (U : Nat) (Lw : Nat) (p5 : Int32) (Rr : Nat → Nat) (st : Nat → Nat) (sg : Nat → Nat) (j : Nat) (hn : n ≤ 8) (hbb : b < 512) (hR : ∀ j, j < n → rf j = nI (Rr j)) (hS : ∀ j, j < n → sf j = nI (st j)) (hT : ∀ j, j < n → tf j = nI (sg j)) (hRb : ∀ i, i < n → Rr i ≤ 240) (hSb : ∀ i, i < n → st i ≤ 9) (hTb : ∀ i, i < n → sg i ≤ 99) (hU : U ≤ 20000) (hL : Lw ≤ 72) (hj : j < n) : KI l g yX3_excess wsX3_excess 2 42 [.ref P, .int (nI j)] [(P, ob 3 [.ref ra, .ref sa, .ref ta, .int (nI n), .int (nI b), .int (nI U), .int (nI Lw), .int p5]), (ra, aI g 8 rf), (sa, aI g 8 sf), (ta, aI g 8 tf)] (fun (r : Int32) (w' : va_W) => r = (nI (boN st Rr b U Lw j) - nI (sg j * Lw)) ∧ w' = [(P, ob 3 [.ref ra, .ref sa, .ref ta, .int (nI n), .int (nI b), .int (nI U), .int (nI Lw), .int p5]), (ra, aI g 8 rf), (sa, aI g 8 sf), (ta, aI g 8 tf)]) := by
  refine kI_of (cc := cX3_excess) (maxL := 2) (by decide) rfl (Nat.le_of_ble_eq_true rfl) ?_
  intro pp ee ss mm bel mth cd A ls C S hr hl
  obtain ⟨hx, hb, hml, hown, hts⟩ := id C.1
  have hl : lv_has ls 2 [(0, .ref P), (1, .int (nI j))] := hl
  obtain ⟨H, hH⟩ : ∃ H, H = ss.heap := ⟨_, rfl⟩
  obtain ⟨locs, hL0⟩ : ∃ L : List Loc, L = [] := ⟨_, rfl⟩
  rw [← hH, ← hL0] at S ⊢
  refine lv_aload_n hx hb dX3_excess_0 rfl (lv_at hl 0 rfl) ?_
  refine lv_iload_n hx hb dX3_excess_1 rfl (lv_at hl 1 rfl) ?_
  refine after_I (wc := [(P, ob 3 [.ref ra, .ref sa, .ref ta, .int (nI n), .int (nI b), .int (nI U), .int (nI Lw), .int p5]), (ra, aI g 8 rf), (sa, aI g 8 sf), (ta, aI g 8 tf)]) (y := yX3_borne) C S (va_runV (As := [.int (nI j)]) (rest := []) C.1 (kX3_borne l g P ra sa ta rf sf tf n b U Lw p5 Rr st sg j (by first | assumption | omega) (by first | assumption | omega) (by first | assumption | omega) (by first | assumption | omega) (by first | assumption | omega) (by first | assumption | omega) (by first | assumption | omega) (by first | assumption | omega) (by first | assumption | omega) (by first | assumption | omega) (by first | assumption | omega) H.size) (cwV 1 hts gX3_excess_X3_borne rfl rfl rfl (by decide +kernel) ⟨Nat.le_of_ble_eq_true rfl, Nat.le_of_ble_eq_true rfl⟩) (preV_at C S 0 rfl rfl [0, 1, 2, 3] rfl (by decide)) rfl rfl hl.1 rfl (lv_room (Nat.le_of_ble_eq_true rfl)) dX3_excess_2 ⟨Nat.le_of_ble_eq_true rfl, Nat.le_of_ble_eq_true rfl⟩) [0, 1, 2, 3] [] rfl (wr := []) rfl (by decide) (by decide) (fun r0 w0 H locs hq S => ?_)
  obtain ⟨rfl, rfl⟩ := hq
  have S : ST g A ss H locs [(P, ob 3 [.ref ra, .ref sa, .ref ta, .int (nI n), .int (nI b), .int (nI U), .int (nI Lw), .int p5]), (ra, aI g 8 rf), (sa, aI g 8 sf), (ta, aI g 8 tf)] := S
  refine lv_aload_n hx hb dX3_excess_5 rfl (lv_at hl 0 rfl) ?_
  refine top_get C S inX3_excess_X3 rfl 0 rfl 2 (by decide) (by decide +kernel) rfl rfl dX3_excess_6 ?_
  refine lv_iload_n hx hb dX3_excess_9 rfl (lv_at hl 1 rfl) ?_
  refine top_ild C S 3 rfl (j := j) rfl (by omega) (by decide) dX3_excess_10 ?_
  refine top_eq (y := nI (sg j)) (hT _ (by omega)) ?_
  refine lv_aload_n hx hb dX3_excess_11 rfl (lv_at hl 0 rfl) ?_
  refine top_get C S inX3_excess_X3 rfl 0 rfl 6 (by decide) (by decide +kernel) rfl rfl dX3_excess_12 ?_
  refine lv_imul hx hb dX3_excess_15 ?_
  refine top_eq (y := nI ((sg j) * Lw)) (pk_mul _ _) ?_
  refine lv_isub hx hb dX3_excess_16 ?_
  exact ret_I C S hr dX3_excess_17 ⟨(rfl), (rfl)⟩

theorem inX3_firstToBreak_X3 : ∀ w ∈ wsX30, w ∈ wsX3_firstToBreak := by decide +kernel
set_option maxRecDepth 100000 in
set_option maxHeartbeats 4000000 in
theorem kX3_firstToBreak (l : Launch) (g : GG) (P : Nat) (ra : Nat) (sa : Nat) (ta : Nat) (rf : Nat → Int32) (sf : Nat → Int32) (tf : Nat → Int32) (n : Nat) (b : Nat) (p3 : Int32) (p4 : Int32) (p5 : Int32) (Rr : Nat → Nat) (st : Nat → Nat) (sg : Nat → Nat) (p : Nat) (hn : n ≤ 8) (hbb : b < 512) (hR : ∀ j, j < n → rf j = nI (Rr j)) (hS : ∀ j, j < n → sf j = nI (st j)) (hT : ∀ j, j < n → tf j = nI (sg j)) (hRb : ∀ i, i < n → Rr i ≤ 240) (hSb : ∀ i, i < n → st i ≤ 9) (hTb : ∀ i, i < n → sg i ≤ 99) (hp : p ≤ 999) : KI l g yX3_firstToBreak wsX3_firstToBreak 3 63 [.ref P, .int (nI p)] [(P, ob 3 [.ref ra, .ref sa, .ref ta, .int (nI n), .int (nI b), .int p3, .int p4, .int p5]), (ra, aI g 8 rf), (sa, aI g 8 sf), (ta, aI g 8 tf)] (fun (r : Int32) (w' : va_W) => r = (oI (fb st Rr sg n p b)) ∧ w' = [(P, ob 3 [.ref ra, .ref sa, .ref ta, .int (nI n), .int (nI b), .int (nI (uppN st Rr b p n)), .int (nI (lowN st Rr b p n)), .int (nI ((pr st Rr b p n).1))]), (ra, aI g 8 rf), (sa, aI g 8 sf), (ta, aI g 8 tf)]) := by
  refine kI_of (cc := cX3_firstToBreak) (maxL := 5) (by decide) rfl (Nat.le_of_ble_eq_true rfl) ?_
  intro pp ee ss mm bel mth cd A ls C S hr hl
  obtain ⟨hx, hb, hml, hown, hts⟩ := id C.1
  have hl : lv_has ls 5 [(0, .ref P), (1, .int (nI p))] := hl
  obtain ⟨H, hH⟩ : ∃ H, H = ss.heap := ⟨_, rfl⟩
  obtain ⟨locs, hL0⟩ : ∃ L : List Loc, L = [] := ⟨_, rfl⟩
  rw [← hH, ← hL0] at S ⊢
  refine lv_aload_n hx hb dX3_firstToBreak_0 rfl (lv_at hl 0 rfl) ?_
  refine lv_iload_n hx hb dX3_firstToBreak_1 rfl (lv_at hl 1 rfl) ?_
  refine after_I (wc := [(P, ob 3 [.ref ra, .ref sa, .ref ta, .int (nI n), .int (nI b), .int p3, .int p4, .int p5]), (ra, aI g 8 rf), (sa, aI g 8 sf), (ta, aI g 8 tf)]) (y := yX3_press) C S (va_runV (As := [.int (nI p)]) (rest := []) C.1 (kX3_press l g P ra sa ta rf sf tf n b p3 p4 p5 Rr st sg p (by first | assumption | omega) (by first | assumption | omega) (by first | assumption | omega) (by first | assumption | omega) (by first | assumption | omega) (by first | assumption | omega) (by first | assumption | omega) (by first | assumption | omega) (by first | assumption | omega) H.size) (cwV 1 hts gX3_firstToBreak_X3_press rfl rfl rfl (by decide +kernel) ⟨Nat.le_of_ble_eq_true rfl, Nat.le_of_ble_eq_true rfl⟩) (preV_at C S 0 rfl rfl [0, 1, 2, 3] rfl (by decide)) rfl rfl hl.1 rfl (lv_room (Nat.le_of_ble_eq_true rfl)) dX3_firstToBreak_2 ⟨Nat.le_of_ble_eq_true rfl, Nat.le_of_ble_eq_true rfl⟩) [0, 1, 2, 3] [] rfl (wr := []) rfl (by decide) (by decide) (fun r0 w0 H locs hq S => ?_)
  obtain ⟨rfl, rfl⟩ := hq
  have S : ST g A ss H locs [(P, ob 3 [.ref ra, .ref sa, .ref ta, .int (nI n), .int (nI b), .int (nI (uppN st Rr b p n)), .int (nI (lowN st Rr b p n)), .int (nI ((pr st Rr b p n).1))]), (ra, aI g 8 rf), (sa, aI g 8 sf), (ta, aI g 8 tf)] := S
  refine br_neB (tgt := 10) hx hb dX3_firstToBreak_5 (by decide) (fun c_1 => ?_) (fun c_1 => ?_)
  · -- 5 T
    have hpos := of_decide_eq_true c_1
    refine lv_iconst (v := (-1)) hx hb dX3_firstToBreak_10 (by decide) ?_
    refine lv_istore_n (lv' := [(2, .int (-1)), (0, .ref P), (1, .int (nI p))]) hx hb dX3_firstToBreak_11 rfl hl (by decide) rfl (fun ls hl => ?_)
    refine lv_iconst (v := 0) hx hb dX3_firstToBreak_12 (by decide) ?_
    refine lv_istore_n (lv' := [(3, .int 0), (2, .int (-1)), (0, .ref P), (1, .int (nI p))]) hx hb dX3_firstToBreak_13 rfl hl (by decide) rfl (fun ls hl => ?_)
    refine lv_iconst (v := 0) hx hb dX3_firstToBreak_14 (by decide) ?_
    refine lv_istore (lv' := [(4, .int 0), (3, .int 0), (2, .int (-1)), (0, .ref P), (1, .int (nI p))]) hx hb dX3_firstToBreak_15 hl (by decide) rfl (fun ls hl => ?_)
    have loop17 : ∀ (N0 : Nat) (i : Nat) (x : Nat) (o : Option Nat), n - i < N0 → (i ≤ n) → (fbk (fun j => boN st Rr b (uppN st Rr b p n) (lowN st Rr b p n) j) (fun j => sg j * lowN st Rr b p n) i = (o, x)) → (x ≤ 200000) → ∀ (H : Heap) (locs : List Loc) (ls : Array Slot), ST g A ss H locs [(P, ob 3 [.ref ra, .ref sa, .ref ta, .int (nI n), .int (nI b), .int (nI (uppN st Rr b p n)), .int (nI (lowN st Rr b p n)), .int (nI ((pr st Rr b p n).1))]), (ra, aI g 8 rf), (sa, aI g 8 sf), (ta, aI g 8 tf)] → lv_has ls 5 [(4, .int (nI i)), (3, .int (nI x)), (2, .int (oI o)), (0, .ref P), (1, .int (nI p))] → W pp l ee { frames := 3, cells := 0, slots := 0, locals := 63 } ss mm ([.ref P, .int (nI p)] : List Value).toArray bel mth cd H locs 0 0 (QI bel ([.ref P, .int (nI p)] : List Value).toArray ss g A (fun (r : Int32) (w' : va_W) => r = (oI (fb st Rr sg n p b)) ∧ w' = [(P, ob 3 [.ref ra, .ref sa, .ref ta, .int (nI n), .int (nI b), .int (nI (uppN st Rr b p n)), .int (nI (lowN st Rr b p n)), .int (nI ((pr st Rr b p n).1))]), (ra, aI g 8 rf), (sa, aI g 8 sf), (ta, aI g 8 tf)])) (F0 mm 17 ls []) := by
      intro N0
      induction N0 with
      | zero => intro i x o hN; exact absurd hN (Nat.not_lt_zero _)
      | succ N0 ih17 =>
        intro i x o hN hi ho hx1 H locs ls S hl
        refine lv_iload hx hb dX3_firstToBreak_17 (lv_at hl 0 rfl) ?_
        refine lv_aload_n hx hb dX3_firstToBreak_19 rfl (lv_at hl 3 rfl) ?_
        refine top_get C S inX3_firstToBreak_X3 rfl 0 rfl 3 (by decide) (by decide +kernel) rfl rfl dX3_firstToBreak_20 ?_
        refine bn_ige (tgt := 52) (a := i) (b := n) hx hb rfl rfl (by omega) (by omega) dX3_firstToBreak_23 (by decide) (fun c_2 => ?_) (fun c_2 => ?_)
        · -- 23 T
          have hin : i = n := by omega
          rw [hin] at ho
          refine lv_iload_n hx hb dX3_firstToBreak_52 rfl (lv_at hl 2 rfl) ?_
          exact ret_I C S hr dX3_firstToBreak_53 ⟨(by unfold fb; rw [if_pos hpos, ho]), (rfl)⟩
        · -- 23 F
          have e1 : boN st Rr b (uppN st Rr b p n) (lowN st Rr b p n) i ≤ 180000 := bo_le (upp_le hn hp hSb hRb) (hSb i (by omega))
          have e2 : sg i * lowN st Rr b p n ≤ 99 * 72 := Nat.mul_le_mul (hTb i (by omega)) (low_le hn hSb hRb)
          refine lv_aload_n hx hb dX3_firstToBreak_26 rfl (lv_at hl 3 rfl) ?_
          refine lv_iload hx hb dX3_firstToBreak_27 (lv_at hl 0 rfl) ?_
          refine after_I (wc := [(P, ob 3 [.ref ra, .ref sa, .ref ta, .int (nI n), .int (nI b), .int (nI (uppN st Rr b p n)), .int (nI (lowN st Rr b p n)), .int (nI ((pr st Rr b p n).1))]), (ra, aI g 8 rf), (sa, aI g 8 sf), (ta, aI g 8 tf)]) (y := yX3_excess) C S (va_runV (As := [.int (nI i)]) (rest := []) C.1 (kX3_excess l g P ra sa ta rf sf tf n b (uppN st Rr b p n) (lowN st Rr b p n) (nI ((pr st Rr b p n).1)) Rr st sg i (by first | assumption | omega) (by first | assumption | omega) (by first | assumption | omega) (by first | assumption | omega) (by first | assumption | omega) (by first | assumption | omega) (by first | assumption | omega) (by first | assumption | omega) (upp_le hn hp hSb hRb) (low_le hn hSb hRb) (by first | assumption | omega) H.size) (cwV 1 hts gX3_firstToBreak_X3_excess rfl rfl rfl (by decide +kernel) ⟨Nat.le_of_ble_eq_true rfl, Nat.le_of_ble_eq_true rfl⟩) (preV_at C S 0 rfl rfl [0, 1, 2, 3] rfl (by decide)) rfl rfl hl.1 rfl (lv_room (Nat.le_of_ble_eq_true rfl)) dX3_firstToBreak_29 ⟨Nat.le_of_ble_eq_true rfl, Nat.le_of_ble_eq_true rfl⟩) [0, 1, 2, 3] [] rfl (wr := []) rfl (by decide) (by decide) (fun r0 w0 H locs hq S => ?_)
          obtain ⟨rfl, rfl⟩ := hq
          have S : ST g A ss H locs [(P, ob 3 [.ref ra, .ref sa, .ref ta, .int (nI n), .int (nI b), .int (nI (uppN st Rr b p n)), .int (nI (lowN st Rr b p n)), .int (nI ((pr st Rr b p n).1))]), (ra, aI g 8 rf), (sa, aI g 8 sf), (ta, aI g 8 tf)] := S
          refine lv_iload_n hx hb dX3_firstToBreak_32 rfl (lv_at hl 1 rfl) ?_
          refine lv_icmp_le (tgt := 46) hx hb dX3_firstToBreak_33 (by decide) (fun c_3 => ?_) (fun c_3 => ?_)
          · -- 33 T
            have c_3 : ¬ x + sg i * lowN st Rr b p n < boN st Rr b (uppN st Rr b p n) (lowN st Rr b p n) i := by have := (sub_le_N (by omega) (by omega) (by omega)).mp c_3; omega
            refine lv_iinc (v := nI (i + 1)) (lv' := [(4, .int (nI (i + 1))), (3, .int (nI x)), (2, .int (oI o)), (0, .ref P), (1, .int (nI p))]) hx hb dX3_firstToBreak_46 hl (k := 0) rfl (nI_add _ _) (by decide) rfl (fun ls hl => ?_)
            refine lv_goto (tgt := 17) hx hb dX3_firstToBreak_49 (by decide) ?_
            exact ih17 (i + 1) x o (by omega) (by first | assumption | omega) (by simp only [fbk, ho, if_neg c_3]) (by first | assumption | omega) H locs ls (ST.eq S (rfl)) (lv_sub hl [0, 1, 2, 3, 4] (rfl))
          · -- 33 F
            have c_3 : x + sg i * lowN st Rr b p n < boN st Rr b (uppN st Rr b p n) (lowN st Rr b p n) i := by have := mt (sub_le_N (by omega) (by omega) (by omega)).mpr c_3; omega
            refine lv_iload hx hb dX3_firstToBreak_36 (lv_at hl 0 rfl) ?_
            refine lv_istore_n (lv' := [(2, .int (nI i)), (4, .int (nI i)), (3, .int (nI x)), (0, .ref P), (1, .int (nI p))]) hx hb dX3_firstToBreak_38 rfl hl (by decide) rfl (fun ls hl => ?_)
            refine lv_aload_n hx hb dX3_firstToBreak_39 rfl (lv_at hl 3 rfl) ?_
            refine lv_iload hx hb dX3_firstToBreak_40 (lv_at hl 1 rfl) ?_
            refine after_I (wc := [(P, ob 3 [.ref ra, .ref sa, .ref ta, .int (nI n), .int (nI b), .int (nI (uppN st Rr b p n)), .int (nI (lowN st Rr b p n)), .int (nI ((pr st Rr b p n).1))]), (ra, aI g 8 rf), (sa, aI g 8 sf), (ta, aI g 8 tf)]) (y := yX3_excess) C S (va_runV (As := [.int (nI i)]) (rest := []) C.1 (kX3_excess l g P ra sa ta rf sf tf n b (uppN st Rr b p n) (lowN st Rr b p n) (nI ((pr st Rr b p n).1)) Rr st sg i (by first | assumption | omega) (by first | assumption | omega) (by first | assumption | omega) (by first | assumption | omega) (by first | assumption | omega) (by first | assumption | omega) (by first | assumption | omega) (by first | assumption | omega) (upp_le hn hp hSb hRb) (low_le hn hSb hRb) (by first | assumption | omega) H.size) (cwV 1 hts gX3_firstToBreak_X3_excess rfl rfl rfl (by decide +kernel) ⟨Nat.le_of_ble_eq_true rfl, Nat.le_of_ble_eq_true rfl⟩) (preV_at C S 0 rfl rfl [0, 1, 2, 3] rfl (by decide)) rfl rfl hl.1 rfl (lv_room (Nat.le_of_ble_eq_true rfl)) dX3_firstToBreak_42 ⟨Nat.le_of_ble_eq_true rfl, Nat.le_of_ble_eq_true rfl⟩) [0, 1, 2, 3] [] rfl (wr := []) rfl (by decide) (by decide) (fun r0 w0 H locs hq S => ?_)
            obtain ⟨rfl, rfl⟩ := hq
            have S : ST g A ss H locs [(P, ob 3 [.ref ra, .ref sa, .ref ta, .int (nI n), .int (nI b), .int (nI (uppN st Rr b p n)), .int (nI (lowN st Rr b p n)), .int (nI ((pr st Rr b p n).1))]), (ra, aI g 8 rf), (sa, aI g 8 sf), (ta, aI g 8 tf)] := S
            refine top_eq (y := nI (boN st Rr b (uppN st Rr b p n) (lowN st Rr b p n) i - sg i * lowN st Rr b p n)) (pk_sub (by omega)) ?_
            refine lv_istore_n (lv' := [(3, .int (nI (boN st Rr b (uppN st Rr b p n) (lowN st Rr b p n) i - sg i * lowN st Rr b p n))), (2, .int (nI i)), (4, .int (nI i)), (0, .ref P), (1, .int (nI p))]) hx hb dX3_firstToBreak_45 rfl hl (by decide) rfl (fun ls hl => ?_)
            refine lv_iinc (v := nI (i + 1)) (lv' := [(4, .int (nI (i + 1))), (3, .int (nI (boN st Rr b (uppN st Rr b p n) (lowN st Rr b p n) i - sg i * lowN st Rr b p n))), (2, .int (nI i)), (0, .ref P), (1, .int (nI p))]) hx hb dX3_firstToBreak_46 hl (k := 2) rfl (nI_add _ _) (by decide) rfl (fun ls hl => ?_)
            refine lv_goto (tgt := 17) hx hb dX3_firstToBreak_49 (by decide) ?_
            exact ih17 (i + 1) (boN st Rr b (uppN st Rr b p n) (lowN st Rr b p n) i - sg i * lowN st Rr b p n) (some i) (by omega) (by first | assumption | omega) (by simp only [fbk, ho, if_pos c_3]) (by first | assumption | omega) H locs ls (ST.eq S (rfl)) (lv_sub hl [0, 1, 2, 3, 4] (rfl))
    exact loop17 _ 0 0 none (Nat.lt_succ_self _) (by first | assumption | omega) (rfl) (by first | assumption | omega) H locs ls (ST.eq S (rfl)) (lv_sub hl [0, 1, 2, 3, 4] (rfl))
  · -- 5 F
    refine lv_iconst (v := (-1)) hx hb dX3_firstToBreak_8 (by decide) ?_
    exact ret_I C S hr dX3_firstToBreak_9 ⟨(by unfold fb; rw [if_neg (of_decide_eq_false c_1)] <;> rfl), (rfl)⟩

theorem inX3_wholeAfter_X3 : ∀ w ∈ wsX30, w ∈ wsX3_wholeAfter := by decide +kernel
set_option maxRecDepth 100000 in
set_option maxHeartbeats 4000000 in
theorem kX3_wholeAfter (l : Launch) (g : GG) (P : Nat) (ra : Nat) (sa : Nat) (ta : Nat) (rf : Nat → Int32) (sf : Nat → Int32) (tf : Nat → Int32) (n : Nat) (b : Nat) (p3 : Int32) (p4 : Int32) (p5 : Int32) (Rr : Nat → Nat) (st : Nat → Nat) (sg : Nat → Nat) (p : Nat) (hn : n ≤ 8) (hbb : b < 256) (hR : ∀ j, j < n → rf j = nI (Rr j)) (hS : ∀ j, j < n → sf j = nI (st j)) (hT : ∀ j, j < n → tf j = nI (sg j)) (hRb : ∀ i, i < n → Rr i ≤ 240) (hSb : ∀ i, i < n → st i ≤ 9) (hTb : ∀ i, i < n → sg i ≤ 99) (hp : p ≤ 999) : KI l g yX3_wholeAfter wsX3_wholeAfter 4 87 [.ref P, .int (nI p)] [(P, ob 3 [.ref ra, .ref sa, .ref ta, .int (nI n), .int (nI b), .int p3, .int p4, .int p5]), (ra, aI g 8 rf), (sa, aI g 8 sf), (ta, aI g 8 tf)] (fun (r : Int32) (w' : va_W) => r = (nI (wa (fb st Rr sg n p) 8 b)) ∧ ∃ (u' : Int32), ∃ (l' : Int32), ∃ (v' : Int32), w' = [(P, ob 3 [.ref ra, .ref sa, .ref ta, .int (nI n), .int (nI (wa (fb st Rr sg n p) 8 b)), .int u', .int l', .int v']), (ra, aI g 8 rf), (sa, aI g 8 sf), (ta, aI g 8 tf)]) := by
  refine kI_of (cc := cX3_wholeAfter) (maxL := 4) (by decide) rfl (Nat.le_of_ble_eq_true rfl) ?_
  intro pp ee ss mm bel mth cd A ls C S hr hl
  obtain ⟨hx, hb, hml, hown, hts⟩ := id C.1
  have hl : lv_has ls 4 [(0, .ref P), (1, .int (nI p))] := hl
  obtain ⟨H, hH⟩ : ∃ H, H = ss.heap := ⟨_, rfl⟩
  obtain ⟨locs, hL0⟩ : ∃ L : List Loc, L = [] := ⟨_, rfl⟩
  rw [← hH, ← hL0] at S ⊢
  refine lv_aload_n hx hb dX3_wholeAfter_0 rfl (lv_at hl 0 rfl) ?_
  refine lv_iload_n hx hb dX3_wholeAfter_1 rfl (lv_at hl 1 rfl) ?_
  refine after_I (wc := [(P, ob 3 [.ref ra, .ref sa, .ref ta, .int (nI n), .int (nI b), .int p3, .int p4, .int p5]), (ra, aI g 8 rf), (sa, aI g 8 sf), (ta, aI g 8 tf)]) (y := yX3_firstToBreak) C S (va_runV (As := [.int (nI p)]) (rest := []) C.1 (kX3_firstToBreak l g P ra sa ta rf sf tf n b p3 p4 p5 Rr st sg p (by first | assumption | omega) (by first | omega | exact Nat.lt_of_le_of_lt (clr_le _ _) (by omega)) (by first | assumption | omega) (by first | assumption | omega) (by first | assumption | omega) (by first | assumption | omega) (by first | assumption | omega) (by first | assumption | omega) (by first | assumption | omega) H.size) (cwV 1 hts gX3_wholeAfter_X3_firstToBreak rfl rfl rfl (by decide +kernel) ⟨Nat.le_of_ble_eq_true rfl, Nat.le_of_ble_eq_true rfl⟩) (preV_at C S 0 rfl rfl [0, 1, 2, 3] rfl (by decide)) rfl rfl hl.1 rfl (lv_room (Nat.le_of_ble_eq_true rfl)) dX3_wholeAfter_2 ⟨Nat.le_of_ble_eq_true rfl, Nat.le_of_ble_eq_true rfl⟩) [0, 1, 2, 3] [] rfl (wr := []) rfl (by decide) (by decide) (fun r0 w0 H locs hq S => ?_)
  obtain ⟨rfl, rfl⟩ := hq
  have S : ST g A ss H locs [(P, ob 3 [.ref ra, .ref sa, .ref ta, .int (nI n), .int (nI b), .int (nI (uppN st Rr b p n)), .int (nI (lowN st Rr b p n)), .int (nI ((pr st Rr b p n).1))]), (ra, aI g 8 rf), (sa, aI g 8 sf), (ta, aI g 8 tf)] := S
  refine lv_istore_n (lv' := [(2, .int (oI (fb st Rr sg n p b))), (0, .ref P), (1, .int (nI p))]) hx hb dX3_wholeAfter_5 rfl hl (by decide) rfl (fun ls hl => ?_)
  refine lv_iconst (v := 0) hx hb dX3_wholeAfter_6 (by decide) ?_
  refine lv_istore_n (lv' := [(3, .int 0), (2, .int (oI (fb st Rr sg n p b))), (0, .ref P), (1, .int (nI p))]) hx hb dX3_wholeAfter_7 rfl hl (by decide) rfl (fun ls hl => ?_)
  have loop8 : ∀ (N0 : Nat) (k : Nat) (b1 : Nat) (u1 : Int32) (l1 : Int32) (v1 : Int32), 8 - k < N0 → (k ≤ 8) → (b1 < 256) → (wa (fb st Rr sg n p) (8 - k) b1 = wa (fb st Rr sg n p) 8 b) → ∀ (H : Heap) (locs : List Loc) (ls : Array Slot), ST g A ss H locs [(P, ob 3 [.ref ra, .ref sa, .ref ta, .int (nI n), .int (nI b1), .int u1, .int l1, .int v1]), (ra, aI g 8 rf), (sa, aI g 8 sf), (ta, aI g 8 tf)] → lv_has ls 4 [(3, .int (nI k)), (2, .int (oI (fb st Rr sg n p b1))), (0, .ref P), (1, .int (nI p))] → W pp l ee { frames := 4, cells := 0, slots := 0, locals := 87 } ss mm ([.ref P, .int (nI p)] : List Value).toArray bel mth cd H locs 0 0 (QI bel ([.ref P, .int (nI p)] : List Value).toArray ss g A (fun (r : Int32) (w' : va_W) => r = (nI (wa (fb st Rr sg n p) 8 b)) ∧ ∃ (u' : Int32), ∃ (l' : Int32), ∃ (v' : Int32), w' = [(P, ob 3 [.ref ra, .ref sa, .ref ta, .int (nI n), .int (nI (wa (fb st Rr sg n p) 8 b)), .int u', .int l', .int v']), (ra, aI g 8 rf), (sa, aI g 8 sf), (ta, aI g 8 tf)])) (F0 mm 8 ls []) := by
    intro N0
    induction N0 with
    | zero => intro k b1 u1 l1 v1 hN; exact absurd hN (Nat.not_lt_zero _)
    | succ N0 ih8 =>
      intro k b1 u1 l1 v1 hN hk hb1 hwa H locs ls S hl
      refine lv_iload_n hx hb dX3_wholeAfter_8 rfl (lv_at hl 1 rfl) ?_
      refine lv_if_lt (tgt := 44) hx hb dX3_wholeAfter_9 (by decide) (fun c_1 => ?_) (fun c_1 => ?_)
      · -- 9 T
        have hnone := oI_neg (fun j9 h9 => by have := fb_lt h9; omega) c_1
        refine lv_aload_n hx hb dX3_wholeAfter_44 rfl (lv_at hl 2 rfl) ?_
        refine top_get C S inX3_wholeAfter_X3 rfl 0 rfl 4 (by decide) (by decide +kernel) rfl rfl dX3_wholeAfter_45 ?_
        exact ret_I C S hr dX3_wholeAfter_48 ⟨(by rw [← hwa]; first | rw [wa_none hnone] | (rw [show 8 - k = 0 by omega] <;> rfl)), u1, l1, v1, (by rw [← hwa]; first | rw [wa_none hnone] | (rw [show 8 - k = 0 by omega] <;> rfl))⟩
      · -- 9 F
        obtain ⟨j, hj⟩ := oI_pos c_1
        have hjn := fb_lt hj
        rw [hj] at hl
        have hl : lv_has ls 4 [(3, .int (nI k)), (2, .int (nI j)), (0, .ref P), (1, .int (nI p))] := hl
        refine lv_iload_n hx hb dX3_wholeAfter_12 rfl (lv_at hl 0 rfl) ?_
        refine lv_bipush (v := 8) hx hb dX3_wholeAfter_13 (by decide) ?_
        refine bn_ige (tgt := 44) (a := k) (b := 8) hx hb rfl rfl (by omega) (by omega) dX3_wholeAfter_15 (by decide) (fun c_2 => ?_) (fun c_2 => ?_)
        · -- 15 T
          refine lv_aload_n hx hb dX3_wholeAfter_44 rfl (lv_at hl 2 rfl) ?_
          refine top_get C S inX3_wholeAfter_X3 rfl 0 rfl 4 (by decide) (by decide +kernel) rfl rfl dX3_wholeAfter_45 ?_
          exact ret_I C S hr dX3_wholeAfter_48 ⟨(by rw [← hwa]; first | rw [wa_none hnone] | (rw [show 8 - k = 0 by omega] <;> rfl)), u1, l1, v1, (by rw [← hwa]; first | rw [wa_none hnone] | (rw [show 8 - k = 0 by omega] <;> rfl))⟩
        · -- 15 F
          refine lv_aload_n hx hb dX3_wholeAfter_18 rfl (lv_at hl 2 rfl) ?_
          refine lv_dup hx hb dX3_wholeAfter_19 rfl ?_
          refine top_get C S inX3_wholeAfter_X3 rfl 0 rfl 4 (by decide) (by decide +kernel) rfl rfl dX3_wholeAfter_20 ?_
          refine lv_iconst (v := 1) hx hb dX3_wholeAfter_23 (by decide) ?_
          refine lv_iload_n hx hb dX3_wholeAfter_24 rfl (lv_at hl 1 rfl) ?_
          refine lv_ishl hx hb dX3_wholeAfter_25 ?_
          refine top_eq (y := nI (2 ^ j)) (shl_1 (by omega)) ?_
          refine lv_iconst (v := (-1)) hx hb dX3_wholeAfter_26 (by decide) ?_
          refine lv_ixor hx hb dX3_wholeAfter_27 ?_
          refine lv_iand hx hb dX3_wholeAfter_28 ?_
          refine top_eq (y := nI (clr b1 j)) (clr_N hb1 (by omega)) ?_
          refine top_put (ty := .int) C S inX3_wholeAfter_X3 tyX3 tyX3_ok nmX3 rfl 0 rfl 4 (by decide) (by decide +kernel) rfl rfl (tyX3_ok 4 (by decide)) rfl rfl (Nat.le_of_ble_eq_true rfl) dX3_wholeAfter_29 (fun H locs S => ?_)
          have S : ST g A ss H locs [(P, ob 3 [.ref ra, .ref sa, .ref ta, .int (nI n), .int (nI (clr b1 j)), .int u1, .int l1, .int v1]), (ra, aI g 8 rf), (sa, aI g 8 sf), (ta, aI g 8 tf)] := S
          refine lv_aload_n hx hb dX3_wholeAfter_32 rfl (lv_at hl 2 rfl) ?_
          refine lv_iload_n hx hb dX3_wholeAfter_33 rfl (lv_at hl 3 rfl) ?_
          refine after_I (wc := [(P, ob 3 [.ref ra, .ref sa, .ref ta, .int (nI n), .int (nI (clr b1 j)), .int u1, .int l1, .int v1]), (ra, aI g 8 rf), (sa, aI g 8 sf), (ta, aI g 8 tf)]) (y := yX3_firstToBreak) C S (va_runV (As := [.int (nI p)]) (rest := []) C.1 (kX3_firstToBreak l g P ra sa ta rf sf tf n (clr b1 j) u1 l1 v1 Rr st sg p (by first | assumption | omega) (by first | omega | exact Nat.lt_of_le_of_lt (clr_le _ _) (by omega)) (by first | assumption | omega) (by first | assumption | omega) (by first | assumption | omega) (by first | assumption | omega) (by first | assumption | omega) (by first | assumption | omega) (by first | assumption | omega) H.size) (cwV 1 hts gX3_wholeAfter_X3_firstToBreak rfl rfl rfl (by decide +kernel) ⟨Nat.le_of_ble_eq_true rfl, Nat.le_of_ble_eq_true rfl⟩) (preV_at C S 0 rfl rfl [0, 1, 2, 3] rfl (by decide)) rfl rfl hl.1 rfl (lv_room (Nat.le_of_ble_eq_true rfl)) dX3_wholeAfter_34 ⟨Nat.le_of_ble_eq_true rfl, Nat.le_of_ble_eq_true rfl⟩) [0, 1, 2, 3] [] rfl (wr := []) rfl (by decide) (by decide) (fun r0 w0 H locs hq S => ?_)
          obtain ⟨rfl, rfl⟩ := hq
          have S : ST g A ss H locs [(P, ob 3 [.ref ra, .ref sa, .ref ta, .int (nI n), .int (nI (clr b1 j)), .int (nI (uppN st Rr (clr b1 j) p n)), .int (nI (lowN st Rr (clr b1 j) p n)), .int (nI ((pr st Rr (clr b1 j) p n).1))]), (ra, aI g 8 rf), (sa, aI g 8 sf), (ta, aI g 8 tf)] := S
          refine lv_istore_n (lv' := [(2, .int (oI (fb st Rr sg n p (clr b1 j)))), (3, .int (nI k)), (0, .ref P), (1, .int (nI p))]) hx hb dX3_wholeAfter_37 rfl hl (by decide) rfl (fun ls hl => ?_)
          refine lv_iinc (v := nI (k + 1)) (lv' := [(3, .int (nI (k + 1))), (2, .int (oI (fb st Rr sg n p (clr b1 j)))), (0, .ref P), (1, .int (nI p))]) hx hb dX3_wholeAfter_38 hl (k := 1) rfl (nI_add _ _) (by decide) rfl (fun ls hl => ?_)
          refine lv_goto (tgt := 8) hx hb dX3_wholeAfter_41 (by decide) ?_
          exact ih8 (k + 1) (clr b1 j) (nI (uppN st Rr (clr b1 j) p n)) (nI (lowN st Rr (clr b1 j) p n)) (nI ((pr st Rr (clr b1 j) p n).1)) (by omega) (by first | assumption | omega) (Nat.lt_of_le_of_lt (clr_le _ _) hb1) (by rw [← hwa, show 8 - k = (8 - (k + 1)) + 1 by omega, wa_some hj]) H locs ls (ST.eq S (rfl)) (lv_sub hl [0, 1, 2, 3] (rfl))
  exact loop8 _ 0 b (nI (uppN st Rr b p n)) (nI (lowN st Rr b p n)) (nI ((pr st Rr b p n).1)) (Nat.lt_succ_self _) (by first | assumption | omega) (by first | assumption | omega) (rfl) H locs ls (ST.eq S (rfl)) (lv_sub hl [0, 1, 2, 3] (rfl))

set_option maxRecDepth 100000 in
set_option maxHeartbeats 4000000 in
theorem kX3_leastTooMuch (l : Launch) (g : GG) (P : Nat) (ra : Nat) (sa : Nat) (ta : Nat) (rf : Nat → Int32) (sf : Nat → Int32) (tf : Nat → Int32) (n : Nat) (b : Nat) (p3 : Int32) (p4 : Int32) (p5 : Int32) (Rr : Nat → Nat) (st : Nat → Nat) (sg : Nat → Nat) (hn : n ≤ 8) (hbb : b < 512) (hR : ∀ j, j < n → rf j = nI (Rr j)) (hS : ∀ j, j < n → sf j = nI (st j)) (hT : ∀ j, j < n → tf j = nI (sg j)) (hRb : ∀ i, i < n → Rr i ≤ 240) (hSb : ∀ i, i < n → st i ≤ 9) (hTb : ∀ i, i < n → sg i ≤ 99) (hm : ∀ p9 q9, 1 ≤ p9 → p9 ≤ q9 → q9 ≤ 999 → fb st Rr sg n p9 b ≠ none → fb st Rr sg n q9 b ≠ none) : KI l g yX3_leastTooMuch wsX3_leastTooMuch 4 87 [.ref P] [(P, ob 3 [.ref ra, .ref sa, .ref ta, .int (nI n), .int (nI b), .int p3, .int p4, .int p5]), (ra, aI g 8 rf), (sa, aI g 8 sf), (ta, aI g 8 tf)] (fun (r : Int32) (w' : va_W) => r = (nI (lstN (fun p9 => fb st Rr sg n p9 b) 999 1)) ∧ ∃ (u' : Int32), ∃ (l' : Int32), ∃ (v' : Int32), w' = [(P, ob 3 [.ref ra, .ref sa, .ref ta, .int (nI n), .int (nI b), .int u', .int l', .int v']), (ra, aI g 8 rf), (sa, aI g 8 sf), (ta, aI g 8 tf)]) := by
  refine kI_of (cc := cX3_leastTooMuch) (maxL := 5) (by decide) rfl (Nat.le_of_ble_eq_true rfl) ?_
  intro pp ee ss mm bel mth cd A ls C S hr hl
  obtain ⟨hx, hb, hml, hown, hts⟩ := id C.1
  have hl : lv_has ls 5 [(0, .ref P)] := hl
  obtain ⟨H, hH⟩ : ∃ H, H = ss.heap := ⟨_, rfl⟩
  obtain ⟨locs, hL0⟩ : ∃ L : List Loc, L = [] := ⟨_, rfl⟩
  rw [← hH, ← hL0] at S ⊢
  refine lv_iconst (v := 1) hx hb dX3_leastTooMuch_0 (by decide) ?_
  refine lv_istore_n (lv' := [(1, .int 1), (0, .ref P)]) hx hb dX3_leastTooMuch_1 rfl hl (by decide) rfl (fun ls hl => ?_)
  refine lv_sipush (v := 1000) hx hb dX3_leastTooMuch_2 (by decide) ?_
  refine lv_istore_n (lv' := [(2, .int 1000), (1, .int 1), (0, .ref P)]) hx hb dX3_leastTooMuch_5 rfl hl (by decide) rfl (fun ls hl => ?_)
  refine lv_iconst (v := 0) hx hb dX3_leastTooMuch_6 (by decide) ?_
  refine lv_istore_n (lv' := [(3, .int 0), (2, .int 1000), (1, .int 1), (0, .ref P)]) hx hb dX3_leastTooMuch_7 rfl hl (by decide) rfl (fun ls hl => ?_)
  have loop8 : ∀ (N0 : Nat) (lo : Nat) (hi : Nat) (k : Nat) (u1 : Int32) (l1 : Int32) (v1 : Int32), hi - lo < N0 → (1 ≤ lo) → (lo ≤ hi) → (hi ≤ 1000) → (hi - lo + k ≤ 999) → (∀ q9, 1 ≤ q9 → q9 < lo → fb st Rr sg n q9 b = none) → (∀ q9, hi ≤ q9 → q9 ≤ 999 → fb st Rr sg n q9 b ≠ none) → ∀ (H : Heap) (locs : List Loc) (ls : Array Slot), ST g A ss H locs [(P, ob 3 [.ref ra, .ref sa, .ref ta, .int (nI n), .int (nI b), .int u1, .int l1, .int v1]), (ra, aI g 8 rf), (sa, aI g 8 sf), (ta, aI g 8 tf)] → lv_has ls 5 [(3, .int (nI k)), (2, .int (nI hi)), (1, .int (nI lo)), (0, .ref P)] → W pp l ee { frames := 4, cells := 0, slots := 0, locals := 87 } ss mm ([.ref P] : List Value).toArray bel mth cd H locs 0 0 (QI bel ([.ref P] : List Value).toArray ss g A (fun (r : Int32) (w' : va_W) => r = (nI (lstN (fun p9 => fb st Rr sg n p9 b) 999 1)) ∧ ∃ (u' : Int32), ∃ (l' : Int32), ∃ (v' : Int32), w' = [(P, ob 3 [.ref ra, .ref sa, .ref ta, .int (nI n), .int (nI b), .int u', .int l', .int v']), (ra, aI g 8 rf), (sa, aI g 8 sf), (ta, aI g 8 tf)])) (F0 mm 8 ls []) := by
    intro N0
    induction N0 with
    | zero => intro lo hi k u1 l1 v1 hN; exact absurd hN (Nat.not_lt_zero _)
    | succ N0 ih8 =>
      intro lo hi k u1 l1 v1 hN h0 h1 h2 hk h3 h4 H locs ls S hl
      refine lv_iload_n hx hb dX3_leastTooMuch_8 rfl (lv_at hl 2 rfl) ?_
      refine lv_iload_n hx hb dX3_leastTooMuch_9 rfl (lv_at hl 1 rfl) ?_
      refine bn_ige (tgt := 53) (a := lo) (b := hi) hx hb rfl rfl (by omega) (by omega) dX3_leastTooMuch_10 (by decide) (fun c_1 => ?_) (fun c_1 => ?_)
      · -- 10 T
        refine lv_iload_n hx hb dX3_leastTooMuch_53 rfl (lv_at hl 2 rfl) ?_
        exact ret_I C S hr dX3_leastTooMuch_54 ⟨(congrArg nI (lst_eq 999 1 lo h0 (by omega) (fun q9 a9 b9 => h3 q9 a9 b9) (fun z => h4 lo (by omega) (by omega)))), u1, l1, v1, (rfl)⟩
      · -- 10 F
        refine lv_iload_n hx hb dX3_leastTooMuch_13 rfl (lv_at hl 0 rfl) ?_
        refine lv_sipush (v := 1000) hx hb dX3_leastTooMuch_14 (by decide) ?_
        refine bn_ige (tgt := 53) (a := k) (b := 1000) hx hb rfl rfl (by omega) (by omega) dX3_leastTooMuch_17 (by decide) (fun c_2 => ?_) (fun c_2 => ?_)
        · -- 17 T
          exact absurd c_2 (by omega)
        · -- 17 F
          refine lv_iload_n hx hb dX3_leastTooMuch_20 rfl (lv_at hl 2 rfl) ?_
          refine lv_iload_n hx hb dX3_leastTooMuch_21 rfl (lv_at hl 1 rfl) ?_
          refine lv_iadd hx hb dX3_leastTooMuch_22 ?_
          refine top_eq (y := nI (lo + hi)) (nI_add _ _) ?_
          refine lv_iconst (v := 2) hx hb dX3_leastTooMuch_23 (by decide) ?_
          refine lv_idiv hx hb dX3_leastTooMuch_24 (nI_ne0 (n := 2) (by omega) (by omega)) ?_
          refine top_eq (y := nI ((lo + hi) / 2)) (pk_div (a := lo + hi) (d := 2) (by omega) (by omega) (by omega)) ?_
          refine lv_istore (lv' := [(4, .int (nI ((lo + hi) / 2))), (3, .int (nI k)), (2, .int (nI hi)), (1, .int (nI lo)), (0, .ref P)]) hx hb dX3_leastTooMuch_25 hl (by decide) rfl (fun ls hl => ?_)
          refine lv_aload_n hx hb dX3_leastTooMuch_27 rfl (lv_at hl 4 rfl) ?_
          refine lv_iload hx hb dX3_leastTooMuch_28 (lv_at hl 0 rfl) ?_
          refine after_I (wc := [(P, ob 3 [.ref ra, .ref sa, .ref ta, .int (nI n), .int (nI b), .int u1, .int l1, .int v1]), (ra, aI g 8 rf), (sa, aI g 8 sf), (ta, aI g 8 tf)]) (y := yX3_firstToBreak) C S (va_runV (As := [.int (nI ((lo + hi) / 2))]) (rest := []) C.1 (kX3_firstToBreak l g P ra sa ta rf sf tf n b u1 l1 v1 Rr st sg ((lo + hi) / 2) (by first | assumption | omega) (by first | assumption | omega) (by first | assumption | omega) (by first | assumption | omega) (by first | assumption | omega) (by first | assumption | omega) (by first | assumption | omega) (by first | assumption | omega) (by omega) H.size) (cwV 1 hts gX3_leastTooMuch_X3_firstToBreak rfl rfl rfl (by decide +kernel) ⟨Nat.le_of_ble_eq_true rfl, Nat.le_of_ble_eq_true rfl⟩) (preV_at C S 0 rfl rfl [0, 1, 2, 3] rfl (by decide)) rfl rfl hl.1 rfl (lv_room (Nat.le_of_ble_eq_true rfl)) dX3_leastTooMuch_30 ⟨Nat.le_of_ble_eq_true rfl, Nat.le_of_ble_eq_true rfl⟩) [0, 1, 2, 3] [] rfl (wr := []) rfl (by decide) (by decide) (fun r0 w0 H locs hq S => ?_)
          obtain ⟨rfl, rfl⟩ := hq
          have S : ST g A ss H locs [(P, ob 3 [.ref ra, .ref sa, .ref ta, .int (nI n), .int (nI b), .int (nI (uppN st Rr b ((lo + hi) / 2) n)), .int (nI (lowN st Rr b ((lo + hi) / 2) n)), .int (nI ((pr st Rr b ((lo + hi) / 2) n).1))]), (ra, aI g 8 rf), (sa, aI g 8 sf), (ta, aI g 8 tf)] := S
          refine lv_if_lt (tgt := 42) hx hb dX3_leastTooMuch_33 (by decide) (fun c_3 => ?_) (fun c_3 => ?_)
          · -- 33 T
            have hnone := oI_neg (fun j9 h9 => by have := fb_lt h9; omega) c_3
            refine lv_iload hx hb dX3_leastTooMuch_42 (lv_at hl 0 rfl) ?_
            refine lv_iconst (v := 1) hx hb dX3_leastTooMuch_44 (by decide) ?_
            refine lv_iadd hx hb dX3_leastTooMuch_45 ?_
            refine top_eq (y := nI (((lo + hi) / 2) + 1)) (nI_add _ _) ?_
            refine lv_istore_n (lv' := [(1, .int (nI (((lo + hi) / 2) + 1))), (4, .int (nI ((lo + hi) / 2))), (3, .int (nI k)), (2, .int (nI hi)), (0, .ref P)]) hx hb dX3_leastTooMuch_46 rfl hl (by decide) rfl (fun ls hl => ?_)
            refine lv_iinc (v := nI (k + 1)) (lv' := [(3, .int (nI (k + 1))), (1, .int (nI (((lo + hi) / 2) + 1))), (4, .int (nI ((lo + hi) / 2))), (2, .int (nI hi)), (0, .ref P)]) hx hb dX3_leastTooMuch_47 hl (k := 2) rfl (nI_add _ _) (by decide) rfl (fun ls hl => ?_)
            refine lv_goto (tgt := 8) hx hb dX3_leastTooMuch_50 (by decide) ?_
            exact ih8 (((lo + hi) / 2) + 1) hi (k + 1) (nI (uppN st Rr b ((lo + hi) / 2) n)) (nI (lowN st Rr b ((lo + hi) / 2) n)) (nI ((pr st Rr b ((lo + hi) / 2) n).1)) (by omega) (by first | assumption | omega) (by first | assumption | omega) (by first | assumption | omega) (by first | assumption | omega) (fun q9 a9 b9 => Classical.byContradiction (fun z9 => hm q9 ((lo + hi) / 2) a9 (by omega) (by omega) z9 hnone)) (h4) H locs ls (ST.eq S (rfl)) (lv_sub hl [0, 3, 1, 4] (rfl))
          · -- 33 F
            obtain ⟨j, hj⟩ := oI_pos c_3
            refine lv_iload hx hb dX3_leastTooMuch_36 (lv_at hl 0 rfl) ?_
            refine lv_istore_n (lv' := [(2, .int (nI ((lo + hi) / 2))), (4, .int (nI ((lo + hi) / 2))), (3, .int (nI k)), (1, .int (nI lo)), (0, .ref P)]) hx hb dX3_leastTooMuch_38 rfl hl (by decide) rfl (fun ls hl => ?_)
            refine lv_goto (tgt := 47) hx hb dX3_leastTooMuch_39 (by decide) ?_
            refine lv_iinc (v := nI (k + 1)) (lv' := [(3, .int (nI (k + 1))), (2, .int (nI ((lo + hi) / 2))), (4, .int (nI ((lo + hi) / 2))), (1, .int (nI lo)), (0, .ref P)]) hx hb dX3_leastTooMuch_47 hl (k := 2) rfl (nI_add _ _) (by decide) rfl (fun ls hl => ?_)
            refine lv_goto (tgt := 8) hx hb dX3_leastTooMuch_50 (by decide) ?_
            exact ih8 lo ((lo + hi) / 2) (k + 1) (nI (uppN st Rr b ((lo + hi) / 2) n)) (nI (lowN st Rr b ((lo + hi) / 2) n)) (nI ((pr st Rr b ((lo + hi) / 2) n).1)) (by omega) (by first | assumption | omega) (by first | assumption | omega) (by first | assumption | omega) (by first | assumption | omega) (h3) (fun q9 a9 b9 => hm ((lo + hi) / 2) q9 (by omega) a9 b9 (by rw [hj]; exact fun z => by cases z)) H locs ls (ST.eq S (rfl)) (lv_sub hl [0, 1, 3, 4] (rfl))
  exact loop8 _ 1 1000 0 p3 p4 p5 (Nat.lt_succ_self _) (by first | assumption | omega) (by first | assumption | omega) (by first | assumption | omega) (by first | assumption | omega) (fun q9 a9 b9 => absurd b9 (by omega)) (fun q9 a9 b9 => absurd b9 (by omega)) H locs ls (ST.eq S (rfl)) (lv_sub hl [0, 1, 2, 3] (rfl))

theorem inX3_loadAt_X3 : ∀ w ∈ wsX30, w ∈ wsX3_loadAt := by decide +kernel
set_option maxRecDepth 100000 in
set_option maxHeartbeats 4000000 in
theorem kX3_loadAt (l : Launch) (g : GG) (P : Nat) (ra : Nat) (sa : Nat) (ta : Nat) (rf : Nat → Int32) (sf : Nat → Int32) (tf : Nat → Int32) (n : Nat) (b : Nat) (p3 : Int32) (p4 : Int32) (p5 : Int32) (Rr : Nat → Nat) (st : Nat → Nat) (sg : Nat → Nat) (d : Nat) (hn : n ≤ 8) (hbb : b < 512) (hR : ∀ j, j < n → rf j = nI (Rr j)) (hS : ∀ j, j < n → sf j = nI (st j)) (hT : ∀ j, j < n → tf j = nI (sg j)) (hRb : ∀ i, i < n → Rr i ≤ 240) (hSb : ∀ i, i < n → st i ≤ 9) (hTb : ∀ i, i < n → sg i ≤ 99) (hd : d ≤ 240) : KI l g yX3_loadAt wsX3_loadAt 1 21 [.ref P, .int (nI d)] [(P, ob 3 [.ref ra, .ref sa, .ref ta, .int (nI n), .int (nI b), .int p3, .int p4, .int p5]), (ra, aI g 8 rf), (sa, aI g 8 sf), (ta, aI g 8 tf)] (fun (r : Int32) (w' : va_W) => r = (nI (laN st Rr b d n)) ∧ w' = [(P, ob 3 [.ref ra, .ref sa, .ref ta, .int (nI n), .int (nI b), .int p3, .int p4, .int p5]), (ra, aI g 8 rf), (sa, aI g 8 sf), (ta, aI g 8 tf)]) := by
  refine kI_of (cc := cX3_loadAt) (maxL := 4) (by decide) rfl (Nat.le_of_ble_eq_true rfl) ?_
  intro pp ee ss mm bel mth cd A ls C S hr hl
  obtain ⟨hx, hb, hml, hown, hts⟩ := id C.1
  have hl : lv_has ls 4 [(0, .ref P), (1, .int (nI d))] := hl
  obtain ⟨H, hH⟩ : ∃ H, H = ss.heap := ⟨_, rfl⟩
  obtain ⟨locs, hL0⟩ : ∃ L : List Loc, L = [] := ⟨_, rfl⟩
  rw [← hH, ← hL0] at S ⊢
  refine lv_iconst (v := 0) hx hb dX3_loadAt_0 (by decide) ?_
  refine lv_istore_n (lv' := [(2, .int 0), (0, .ref P), (1, .int (nI d))]) hx hb dX3_loadAt_1 rfl hl (by decide) rfl (fun ls hl => ?_)
  refine lv_iconst (v := 0) hx hb dX3_loadAt_2 (by decide) ?_
  refine lv_istore_n (lv' := [(3, .int 0), (2, .int 0), (0, .ref P), (1, .int (nI d))]) hx hb dX3_loadAt_3 rfl hl (by decide) rfl (fun ls hl => ?_)
  have loop4 : ∀ (N0 : Nat) (i : Nat) (x : Nat), n - i < N0 → (i ≤ n) → (x = laN st Rr b d i) → ∀ (H : Heap) (locs : List Loc) (ls : Array Slot), ST g A ss H locs [(P, ob 3 [.ref ra, .ref sa, .ref ta, .int (nI n), .int (nI b), .int p3, .int p4, .int p5]), (ra, aI g 8 rf), (sa, aI g 8 sf), (ta, aI g 8 tf)] → lv_has ls 4 [(3, .int (nI i)), (2, .int (nI x)), (0, .ref P), (1, .int (nI d))] → W pp l ee { frames := 1, cells := 0, slots := 0, locals := 21 } ss mm ([.ref P, .int (nI d)] : List Value).toArray bel mth cd H locs 0 0 (QI bel ([.ref P, .int (nI d)] : List Value).toArray ss g A (fun (r : Int32) (w' : va_W) => r = (nI (laN st Rr b d n)) ∧ w' = [(P, ob 3 [.ref ra, .ref sa, .ref ta, .int (nI n), .int (nI b), .int p3, .int p4, .int p5]), (ra, aI g 8 rf), (sa, aI g 8 sf), (ta, aI g 8 tf)])) (F0 mm 4 ls []) := by
    intro N0
    induction N0 with
    | zero => intro i x hN; exact absurd hN (Nat.not_lt_zero _)
    | succ N0 ih4 =>
      intro i x hN hi hx1 H locs ls S hl
      refine lv_iload_n hx hb dX3_loadAt_4 rfl (lv_at hl 0 rfl) ?_
      refine lv_aload_n hx hb dX3_loadAt_5 rfl (lv_at hl 2 rfl) ?_
      refine top_get C S inX3_loadAt_X3 rfl 0 rfl 3 (by decide) (by decide +kernel) rfl rfl dX3_loadAt_6 ?_
      refine bn_ige (tgt := 51) (a := i) (b := n) hx hb rfl rfl (by omega) (by omega) dX3_loadAt_9 (by decide) (fun c_1 => ?_) (fun c_1 => ?_)
      · -- 9 T
        refine lv_iload_n hx hb dX3_loadAt_51 rfl (lv_at hl 1 rfl) ?_
        exact ret_I C S hr dX3_loadAt_52 ⟨(by rw [hx1, show i = n by omega]), (rfl)⟩
      · -- 9 F
        have e1 := hRb i (by omega)
        refine lv_aload_n hx hb dX3_loadAt_12 rfl (lv_at hl 2 rfl) ?_
        refine top_get C S inX3_loadAt_X3 rfl 0 rfl 4 (by decide) (by decide +kernel) rfl rfl dX3_loadAt_13 ?_
        refine lv_iload_n hx hb dX3_loadAt_16 rfl (lv_at hl 0 rfl) ?_
        refine after_I (wc := []) (y := yX6_holds) C S (va_runSN (As := [.int (nI b), .int (nI i)]) (rest := []) C.1 (kX6_holds l g b i (by first | assumption | omega) (by first | assumption | omega) H.size) ⟨va_cnB 2 hts gX3_loadAt_X6_holds_n31 rfl rfl rfl (C.2.2.1.1.2 ("StackedLeaves$Pack", 31, yX6_holds) (by decide +kernel)) (hts (.initialized RX6) (by decide +kernel)) (by decide +kernel) ⟨Nat.le_of_ble_eq_true rfl, Nat.le_of_ble_eq_true rfl⟩, hts (.static yX6_holds) (by decide +kernel), trivial⟩ (preS_at C S [] rfl (by decide)) rfl rfl hl.1 rfl (lv_room (Nat.le_of_ble_eq_true rfl)) dX3_loadAt_17 ⟨Nat.le_of_ble_eq_true rfl, Nat.le_of_ble_eq_true rfl⟩) [] [0, 1, 2, 3] rfl (wr := [(P, ob 3 [.ref ra, .ref sa, .ref ta, .int (nI n), .int (nI b), .int p3, .int p4, .int p5]), (ra, aI g 8 rf), (sa, aI g 8 sf), (ta, aI g 8 tf)]) rfl (by decide) (by decide) (fun r0 w0 H locs hq S => ?_)
        obtain ⟨rfl, rfl⟩ := hq
        have S : ST g A ss H locs [(P, ob 3 [.ref ra, .ref sa, .ref ta, .int (nI n), .int (nI b), .int p3, .int p4, .int p5]), (ra, aI g 8 rf), (sa, aI g 8 sf), (ta, aI g 8 tf)] := S
        refine br_eqB (tgt := 45) hx hb dX3_loadAt_20 (by decide) (fun c_2 => ?_) (fun c_2 => ?_)
        · -- 20 T
          refine lv_iinc (v := nI (i + 1)) (lv' := [(3, .int (nI (i + 1))), (2, .int (nI x)), (0, .ref P), (1, .int (nI d))]) hx hb dX3_loadAt_45 hl (k := 0) rfl (nI_add _ _) (by decide) rfl (fun ls hl => ?_)
          refine lv_goto (tgt := 4) hx hb dX3_loadAt_48 (by decide) ?_
          exact ih4 (i + 1) x (by omega) (by first | assumption | omega) (by simp only [laN, hx1, if_neg (Bool.eq_false_iff.mp c_2)]) H locs ls (ST.eq S (rfl)) (lv_sub hl [0, 1, 2, 3] (rfl))
        · -- 20 F
          refine lv_iload_n hx hb dX3_loadAt_23 rfl (lv_at hl 1 rfl) ?_
          refine lv_aload_n hx hb dX3_loadAt_24 rfl (lv_at hl 2 rfl) ?_
          refine top_get C S inX3_loadAt_X3 rfl 0 rfl 1 (by decide) (by decide +kernel) rfl rfl dX3_loadAt_25 ?_
          refine lv_iload_n hx hb dX3_loadAt_28 rfl (lv_at hl 0 rfl) ?_
          refine top_ild C S 2 rfl (j := i) rfl (by omega) (by decide) dX3_loadAt_29 ?_
          refine top_eq (y := nI (st i)) (hS _ (by omega)) ?_
          refine lv_iconst (v := 0) hx hb dX3_loadAt_30 (by decide) ?_
          refine lv_iload_n hx hb dX3_loadAt_31 rfl (lv_at hl 3 rfl) ?_
          refine lv_aload_n hx hb dX3_loadAt_32 rfl (lv_at hl 2 rfl) ?_
          refine top_get C S inX3_loadAt_X3 rfl 0 rfl 0 (by decide) (by decide +kernel) rfl rfl dX3_loadAt_33 ?_
          refine lv_iload_n hx hb dX3_loadAt_36 rfl (lv_at hl 0 rfl) ?_
          refine top_ild C S 1 rfl (j := i) rfl (by omega) (by decide) dX3_loadAt_37 ?_
          refine top_eq (y := nI (Rr i)) (hR _ (by omega)) ?_
          refine lv_isub hx hb dX3_loadAt_38 ?_
          refine va_mmax hx hb (hml.trans hl.1.symm) hown (hts (.methodLink RX3 59 Lib.Math.max.name) (by decide +kernel)) (hts (.static Lib.Math.max.name) (by decide +kernel)) (hts (.initialized "java/lang/Math") (by decide +kernel)) (hts (.code Lib.Math.max.name Lib.Math.max.code 2 (some .int)) (by decide +kernel)) (Nat.le_of_ble_eq_true rfl) (Nat.le_of_ble_eq_true rfl) (Nat.le_of_ble_eq_true rfl) (Nat.le_of_ble_eq_true rfl) dX3_loadAt_39 ?_
          refine top_eq (y := imax 0 ((nI d) - (nI (Rr i)))) rfl ?_
          refine top_eq (y := nI (d - Rr i)) (max_0 (by omega) (by omega)) ?_
          refine lv_imul hx hb dX3_loadAt_42 ?_
          refine top_eq (y := nI ((st i) * (d - Rr i))) (pk_mul _ _) ?_
          refine lv_iadd hx hb dX3_loadAt_43 ?_
          refine top_eq (y := nI (x + ((st i) * (d - Rr i)))) (nI_add _ _) ?_
          refine lv_istore_n (lv' := [(2, .int (nI (x + ((st i) * (d - Rr i))))), (3, .int (nI i)), (0, .ref P), (1, .int (nI d))]) hx hb dX3_loadAt_44 rfl hl (by decide) rfl (fun ls hl => ?_)
          refine lv_iinc (v := nI (i + 1)) (lv' := [(3, .int (nI (i + 1))), (2, .int (nI (x + ((st i) * (d - Rr i))))), (0, .ref P), (1, .int (nI d))]) hx hb dX3_loadAt_45 hl (k := 1) rfl (nI_add _ _) (by decide) rfl (fun ls hl => ?_)
          refine lv_goto (tgt := 4) hx hb dX3_loadAt_48 (by decide) ?_
          exact ih4 (i + 1) (x + ((st i) * (d - Rr i))) (by omega) (by first | assumption | omega) (by simp only [laN, hx1, if_pos c_2]) H locs ls (ST.eq S (rfl)) (lv_sub hl [0, 1, 2, 3] (rfl))
  exact loop4 _ 0 0 (Nat.lt_succ_self _) (by first | assumption | omega) (rfl) H locs ls (ST.eq S (rfl)) (lv_sub hl [0, 1, 2, 3] (rfl))

theorem inX3_bearsWithin_X3 : ∀ w ∈ wsX30, w ∈ wsX3_bearsWithin := by decide +kernel
set_option maxRecDepth 100000 in
set_option maxHeartbeats 4000000 in
theorem kX3_bearsWithin (l : Launch) (g : GG) (P : Nat) (ra : Nat) (sa : Nat) (ta : Nat) (rf : Nat → Int32) (sf : Nat → Int32) (tf : Nat → Int32) (n : Nat) (b : Nat) (p3 : Int32) (p4 : Int32) (p5 : Int32) (Rr : Nat → Nat) (st : Nat → Nat) (sg : Nat → Nat) (p : Nat) (d : Nat) (hn : n ≤ 8) (hbb : b < 512) (hR : ∀ j, j < n → rf j = nI (Rr j)) (hS : ∀ j, j < n → sf j = nI (st j)) (hT : ∀ j, j < n → tf j = nI (sg j)) (hRb : ∀ i, i < n → Rr i ≤ 240) (hSb : ∀ i, i < n → st i ≤ 9) (hTb : ∀ i, i < n → sg i ≤ 99) (hp : p ≤ 999) (hd : d ≤ 99) : KI l g yX3_bearsWithin wsX3_bearsWithin 4 87 [.ref P, .int (nI p), .int (nI d)] [(P, ob 3 [.ref ra, .ref sa, .ref ta, .int (nI n), .int (nI b), .int p3, .int p4, .int p5]), (ra, aI g 8 rf), (sa, aI g 8 sf), (ta, aI g 8 tf)] (fun (r : Int32) (w' : va_W) => r = (bI (bwN st Rr sg n p d b)) ∧ ∃ (u' : Int32), ∃ (l' : Int32), ∃ (v' : Int32), w' = [(P, ob 3 [.ref ra, .ref sa, .ref ta, .int (nI n), .int (nI b), .int u', .int l', .int v']), (ra, aI g 8 rf), (sa, aI g 8 sf), (ta, aI g 8 tf)]) := by
  refine kI_of (cc := cX3_bearsWithin) (maxL := 3) (by decide) rfl (Nat.le_of_ble_eq_true rfl) ?_
  intro pp ee ss mm bel mth cd A ls C S hr hl
  obtain ⟨hx, hb, hml, hown, hts⟩ := id C.1
  have hl : lv_has ls 3 [(0, .ref P), (1, .int (nI p)), (2, .int (nI d))] := hl
  obtain ⟨H, hH⟩ : ∃ H, H = ss.heap := ⟨_, rfl⟩
  obtain ⟨locs, hL0⟩ : ∃ L : List Loc, L = [] := ⟨_, rfl⟩
  rw [← hH, ← hL0] at S ⊢
  have eU := upp_le (b := b) hn hp hSb hRb
  have eL := low_le (b := b) (p := p) hn hSb hRb
  have e3 : d * lowN st Rr b p n ≤ 99 * 72 := Nat.mul_le_mul hd eL
  refine lv_aload_n hx hb dX3_bearsWithin_0 rfl (lv_at hl 0 rfl) ?_
  refine lv_iload_n hx hb dX3_bearsWithin_1 rfl (lv_at hl 1 rfl) ?_
  refine after_I (wc := [(P, ob 3 [.ref ra, .ref sa, .ref ta, .int (nI n), .int (nI b), .int p3, .int p4, .int p5]), (ra, aI g 8 rf), (sa, aI g 8 sf), (ta, aI g 8 tf)]) (y := yX3_press) C S (va_runV (As := [.int (nI p)]) (rest := []) C.1 (kX3_press l g P ra sa ta rf sf tf n b p3 p4 p5 Rr st sg p (by first | assumption | omega) (by first | assumption | omega) (by first | assumption | omega) (by first | assumption | omega) (by first | assumption | omega) (by first | assumption | omega) (by first | assumption | omega) (by first | assumption | omega) (by first | assumption | omega) H.size) (cwV 1 hts gX3_bearsWithin_X3_press rfl rfl rfl (by decide +kernel) ⟨Nat.le_of_ble_eq_true rfl, Nat.le_of_ble_eq_true rfl⟩) (preV_at C S 0 rfl rfl [0, 1, 2, 3] rfl (by decide)) rfl rfl hl.1 rfl (lv_room (Nat.le_of_ble_eq_true rfl)) dX3_bearsWithin_2 ⟨Nat.le_of_ble_eq_true rfl, Nat.le_of_ble_eq_true rfl⟩) [0, 1, 2, 3] [] rfl (wr := []) rfl (by decide) (by decide) (fun r0 w0 H locs hq S => ?_)
  obtain ⟨rfl, rfl⟩ := hq
  have S : ST g A ss H locs [(P, ob 3 [.ref ra, .ref sa, .ref ta, .int (nI n), .int (nI b), .int (nI (uppN st Rr b p n)), .int (nI (lowN st Rr b p n)), .int (nI ((pr st Rr b p n).1))]), (ra, aI g 8 rf), (sa, aI g 8 sf), (ta, aI g 8 tf)] := S
  refine br_eqB (tgt := 33) hx hb dX3_bearsWithin_5 (by decide) (fun c_1 => ?_) (fun c_1 => ?_)
  · -- 5 T
    refine lv_iconst (v := 0) hx hb dX3_bearsWithin_33 (by decide) ?_
    exact ret_Z (bwN st Rr sg n p d b) C S hr dX3_bearsWithin_34 (by unfold bwN; rw [if_neg (of_decide_eq_false c_1)] <;> rfl) ⟨(by unfold bwN; rw [if_neg (of_decide_eq_false c_1)] <;> rfl), (nI (uppN st Rr b p n)), (nI (lowN st Rr b p n)), (nI ((pr st Rr b p n).1)), (rfl)⟩
  · -- 5 F
    have hpos := of_decide_eq_true c_1
    refine lv_aload_n hx hb dX3_bearsWithin_8 rfl (lv_at hl 0 rfl) ?_
    refine top_get C S inX3_bearsWithin_X3 rfl 0 rfl 5 (by decide) (by decide +kernel) rfl rfl dX3_bearsWithin_9 ?_
    refine lv_iload_n hx hb dX3_bearsWithin_12 rfl (lv_at hl 2 rfl) ?_
    refine lv_aload_n hx hb dX3_bearsWithin_13 rfl (lv_at hl 0 rfl) ?_
    refine top_get C S inX3_bearsWithin_X3 rfl 0 rfl 6 (by decide) (by decide +kernel) rfl rfl dX3_bearsWithin_14 ?_
    refine lv_imul hx hb dX3_bearsWithin_17 ?_
    refine top_eq (y := nI (d * (lowN st Rr b p n))) (pk_mul _ _) ?_
    refine bn_igt (tgt := 33) (a := uppN st Rr b p n) (b := d * (lowN st Rr b p n)) hx hb rfl rfl (by omega) (by omega) dX3_bearsWithin_18 (by decide) (fun c_2 => ?_) (fun c_2 => ?_)
    · -- 18 T
      refine lv_iconst (v := 0) hx hb dX3_bearsWithin_33 (by decide) ?_
      exact ret_Z (bwN st Rr sg n p d b) C S hr dX3_bearsWithin_34 (by unfold bwN; rw [if_pos hpos, if_pos c_2] <;> rfl) ⟨(by unfold bwN; rw [if_pos hpos, if_pos c_2] <;> rfl), (nI (uppN st Rr b p n)), (nI (lowN st Rr b p n)), (nI ((pr st Rr b p n).1)), (rfl)⟩
    · -- 18 F
      refine lv_aload_n hx hb dX3_bearsWithin_21 rfl (lv_at hl 0 rfl) ?_
      refine lv_iload_n hx hb dX3_bearsWithin_22 rfl (lv_at hl 1 rfl) ?_
      refine after_I (wc := [(P, ob 3 [.ref ra, .ref sa, .ref ta, .int (nI n), .int (nI b), .int (nI (uppN st Rr b p n)), .int (nI (lowN st Rr b p n)), .int (nI ((pr st Rr b p n).1))]), (ra, aI g 8 rf), (sa, aI g 8 sf), (ta, aI g 8 tf)]) (y := yX3_firstToBreak) C S (va_runV (As := [.int (nI p)]) (rest := []) C.1 (kX3_firstToBreak l g P ra sa ta rf sf tf n b (nI (uppN st Rr b p n)) (nI (lowN st Rr b p n)) (nI ((pr st Rr b p n).1)) Rr st sg p (by first | assumption | omega) (by first | assumption | omega) (by first | assumption | omega) (by first | assumption | omega) (by first | assumption | omega) (by first | assumption | omega) (by first | assumption | omega) (by first | assumption | omega) (by first | assumption | omega) H.size) (cwV 1 hts gX3_bearsWithin_X3_firstToBreak rfl rfl rfl (by decide +kernel) ⟨Nat.le_of_ble_eq_true rfl, Nat.le_of_ble_eq_true rfl⟩) (preV_at C S 0 rfl rfl [0, 1, 2, 3] rfl (by decide)) rfl rfl hl.1 rfl (lv_room (Nat.le_of_ble_eq_true rfl)) dX3_bearsWithin_23 ⟨Nat.le_of_ble_eq_true rfl, Nat.le_of_ble_eq_true rfl⟩) [0, 1, 2, 3] [] rfl (wr := []) rfl (by decide) (by decide) (fun r0 w0 H locs hq S => ?_)
      obtain ⟨rfl, rfl⟩ := hq
      have S : ST g A ss H locs [(P, ob 3 [.ref ra, .ref sa, .ref ta, .int (nI n), .int (nI b), .int (nI (uppN st Rr b p n)), .int (nI (lowN st Rr b p n)), .int (nI ((pr st Rr b p n).1))]), (ra, aI g 8 rf), (sa, aI g 8 sf), (ta, aI g 8 tf)] := S
      refine lv_if_ge (tgt := 33) hx hb dX3_bearsWithin_26 (by decide) (fun c_3 => ?_) (fun c_3 => ?_)
      · -- 26 T
        obtain ⟨j, hj⟩ := oI_pos' c_3
        refine lv_iconst (v := 0) hx hb dX3_bearsWithin_33 (by decide) ?_
        exact ret_Z (bwN st Rr sg n p d b) C S hr dX3_bearsWithin_34 (by unfold bwN; rw [if_pos hpos, if_neg c_2, hj] <;> rfl) ⟨(by unfold bwN; rw [if_pos hpos, if_neg c_2, hj] <;> rfl), (nI (uppN st Rr b p n)), (nI (lowN st Rr b p n)), (nI ((pr st Rr b p n).1)), (rfl)⟩
      · -- 26 F
        have hj := oI_neg' (fun j9 h9 => by have := fb_lt h9; omega) c_3
        refine lv_iconst (v := 1) hx hb dX3_bearsWithin_29 (by decide) ?_
        refine lv_goto (tgt := 34) hx hb dX3_bearsWithin_30 (by decide) ?_
        exact ret_Z (bwN st Rr sg n p d b) C S hr dX3_bearsWithin_34 (by unfold bwN; rw [if_pos hpos, if_neg c_2, hj] <;> rfl) ⟨(by unfold bwN; rw [if_pos hpos, if_neg c_2, hj] <;> rfl), (nI (uppN st Rr b p n)), (nI (lowN st Rr b p n)), (nI ((pr st Rr b p n).1)), (rfl)⟩
