theorem bc_d : ∀ W, W < 512 → sJ6_bitCount_0f7a4a (nI W) = nI (pop W) := by decide +kernel
theorem kJ6_bitCount_0f7a4 (l : Launch) (g : GG) (ww : Nat) (hw : ww < 512) : KI l g yJ6_bitCount_0f7a4 wsJ6_bitCount_0f7a4 0 0 [.int (nI ww)] [] (fun (r : Int32) (w' : va_W) => r = nI (pop ww) ∧ w' = []) := by
  have h := kJ6_bitCount_0f7a4a l g (nI ww)
  rw [bc_d ww hw] at h
  exact h

theorem inX3_stack_X2 : ∀ w ∈ wsX20, w ∈ wsX3_stack := by decide +kernel
theorem inX3_stack_X3 : ∀ w ∈ wsX30, w ∈ wsX3_stack := by decide +kernel
set_option maxRecDepth 100000 in
set_option maxHeartbeats 4000000 in
/-- the leaves M laid on one another -/
theorem kX3_stack (l : Launch) (g : GG) (P : Nat) (ra : Nat) (sa : Nat) (ta : Nat) (rf : Nat → Int32) (sf : Nat → Int32) (tf : Nat → Int32) (p1 : Int32) (p2 : Int32) (p3 : Int32) (p4 : Int32) (p5 : Int32) (h : Nat) (q : Nat) (f : Nat → Int32) (n : Nat) (ww : Nat) (nu : Nat → Nat → Nat) (M : Nat) (Wh : Nat) (hn : n ≤ 8) (hM : M < 512) (hWh : Wh < 512) (hf : ∀ a i, a < 4 → i < n → f (a * 8 + i) = nI (nu a i)) (hca : ∀ i, i < n → nu 2 i ≤ 30) : KV l g yX3_stack wsX3_stack 2 44 [.ref P, .ref h, .int (nI M), .int (nI Wh)] [(P, ob 3 [.ref ra, .ref sa, .ref ta, .int p1, .int p2, .int p3, .int p4, .int p5]), (ra, aI g 8 rf), (sa, aI g 8 sf), (ta, aI g 8 tf), (h, ob 2 [.ref q, .int (nI n), .int (nI ww)]), (q, aI g 32 f)] (fun (w' : va_W) => ∃ (rf' : Nat → Int32), ∃ (sf' : Nat → Int32), ∃ (tf' : Nat → Int32), (∀ j, j < n → rf' j = nI (RC (nu 2) M j)) ∧ (∀ j, j < n → sf' j = nI (nu 1 j)) ∧ (∀ j, j < n → tf' j = nI (nu 3 j)) ∧ w' = [(P, ob 3 [.ref ra, .ref sa, .ref ta, .int (nI n), .int (nI (M &&& Wh)), .int p3, .int p4, .int p5]), (ra, aI g 8 rf'), (sa, aI g 8 sf'), (ta, aI g 8 tf'), (h, ob 2 [.ref q, .int (nI n), .int (nI ww)]), (q, aI g 32 f)]) := by
  refine kV_of (cc := cX3_stack) (maxL := 7) (by decide) rfl (Nat.le_of_ble_eq_true rfl) ?_
  intro pp ee ss mm bel mth cd A ls C S hr hl
  obtain ⟨hx, hb, hml, hown, hts⟩ := id C.1
  have hl : lv_has ls 7 [(0, .ref P), (1, .ref h), (2, .int (nI M)), (3, .int (nI Wh))] := hl
  obtain ⟨H, hH⟩ : ∃ H, H = ss.heap := ⟨_, rfl⟩
  obtain ⟨locs, hL0⟩ : ∃ L : List Loc, L = [] := ⟨_, rfl⟩
  rw [← hH, ← hL0] at S ⊢
  refine lv_aload_n hx hb dX3_stack_0 rfl (lv_at hl 0 rfl) ?_
  refine lv_aload_n hx hb dX3_stack_1 rfl (lv_at hl 1 rfl) ?_
  refine top_getN C S inX3_stack_X2 rfl 4 rfl 1 (by decide) (by decide +kernel) rfl dX3_stack_2 ?_
  refine top_put (ty := .int) C S inX3_stack_X3 tyX3 tyX3_ok nmX3 rfl 0 rfl 3 (by decide) (by decide +kernel) rfl rfl (tyX3_ok 3 (by decide)) rfl rfl (Nat.le_of_ble_eq_true rfl) dX3_stack_5 (fun H locs S => ?_)
  have S : ST g A ss H locs [(P, ob 3 [.ref ra, .ref sa, .ref ta, .int (nI n), .int p2, .int p3, .int p4, .int p5]), (ra, aI g 8 rf), (sa, aI g 8 sf), (ta, aI g 8 tf), (h, ob 2 [.ref q, .int (nI n), .int (nI ww)]), (q, aI g 32 f)] := S
  refine lv_aload_n hx hb dX3_stack_8 rfl (lv_at hl 0 rfl) ?_
  refine lv_iload_n hx hb dX3_stack_9 rfl (lv_at hl 2 rfl) ?_
  refine lv_iload_n hx hb dX3_stack_10 rfl (lv_at hl 3 rfl) ?_
  refine lv_iand hx hb dX3_stack_11 ?_
  refine top_eq (y := nI (M &&& Wh)) (fa_and _ _) ?_
  refine top_put (ty := .int) C S inX3_stack_X3 tyX3 tyX3_ok nmX3 rfl 0 rfl 4 (by decide) (by decide +kernel) rfl rfl (tyX3_ok 4 (by decide)) rfl rfl (Nat.le_of_ble_eq_true rfl) dX3_stack_12 (fun H locs S => ?_)
  have S : ST g A ss H locs [(P, ob 3 [.ref ra, .ref sa, .ref ta, .int (nI n), .int (nI (M &&& Wh)), .int p3, .int p4, .int p5]), (ra, aI g 8 rf), (sa, aI g 8 sf), (ta, aI g 8 tf), (h, ob 2 [.ref q, .int (nI n), .int (nI ww)]), (q, aI g 32 f)] := S
  refine lv_iconst (v := (-1)) hx hb dX3_stack_15 (by decide) ?_
  refine lv_istore (lv' := [(4, .int (-1)), (0, .ref P), (1, .ref h), (2, .int (nI M)), (3, .int (nI Wh))]) hx hb dX3_stack_16 hl (by decide) rfl (fun ls hl => ?_)
  refine lv_iconst (v := 0) hx hb dX3_stack_18 (by decide) ?_
  refine lv_istore (lv' := [(5, .int 0), (4, .int (-1)), (0, .ref P), (1, .ref h), (2, .int (nI M)), (3, .int (nI Wh))]) hx hb dX3_stack_19 hl (by decide) rfl (fun ls hl => ?_)
  refine lv_iconst (v := 0) hx hb dX3_stack_21 (by decide) ?_
  refine lv_istore (lv' := [(6, .int 0), (5, .int 0), (4, .int (-1)), (0, .ref P), (1, .ref h), (2, .int (nI M)), (3, .int (nI Wh))]) hx hb dX3_stack_22 hl (by decide) rfl (fun ls hl => ?_)
  have loop24 : ∀ (N0 : Nat) (i : Nat) (x : Nat) (o : Option Nat) (r1 : Nat → Int32) (s1 : Nat → Int32) (t1 : Nat → Int32), n - i < N0 → (i ≤ n) → (rs (nu 2) M i = (o, x)) → (∀ j, j < i → r1 j = nI (RC (nu 2) M j)) → (∀ j, j < i → s1 j = nI (nu 1 j)) → (∀ j, j < i → t1 j = nI (nu 3 j)) → ∀ (H : Heap) (locs : List Loc) (ls : Array Slot), ST g A ss H locs [(P, ob 3 [.ref ra, .ref sa, .ref ta, .int (nI n), .int (nI (M &&& Wh)), .int p3, .int p4, .int p5]), (ra, aI g 8 r1), (sa, aI g 8 s1), (ta, aI g 8 t1), (h, ob 2 [.ref q, .int (nI n), .int (nI ww)]), (q, aI g 32 f)] → lv_has ls 7 [(6, .int (nI i)), (5, .int (nI x)), (4, .int (oI o)), (0, .ref P), (1, .ref h), (2, .int (nI M)), (3, .int (nI Wh))] → W pp l ee { frames := 2, cells := 0, slots := 0, locals := 44 } ss mm ([.ref P, .ref h, .int (nI M), .int (nI Wh)] : List Value).toArray bel mth cd H locs 0 0 (QV bel ([.ref P, .ref h, .int (nI M), .int (nI Wh)] : List Value).toArray ss g A (fun (w' : va_W) => ∃ (rf' : Nat → Int32), ∃ (sf' : Nat → Int32), ∃ (tf' : Nat → Int32), (∀ j, j < n → rf' j = nI (RC (nu 2) M j)) ∧ (∀ j, j < n → sf' j = nI (nu 1 j)) ∧ (∀ j, j < n → tf' j = nI (nu 3 j)) ∧ w' = [(P, ob 3 [.ref ra, .ref sa, .ref ta, .int (nI n), .int (nI (M &&& Wh)), .int p3, .int p4, .int p5]), (ra, aI g 8 rf'), (sa, aI g 8 sf'), (ta, aI g 8 tf'), (h, ob 2 [.ref q, .int (nI n), .int (nI ww)]), (q, aI g 32 f)])) (F0 mm 24 ls []) := by
    intro N0
    induction N0 with
    | zero => intro i x o r1 s1 t1 hN; exact absurd hN (Nat.not_lt_zero _)
    | succ N0 ih24 =>
      intro i x o r1 s1 t1 hN hi ho hR0 hS0 hT0 H locs ls S hl
      refine lv_iload hx hb dX3_stack_24 (lv_at hl 0 rfl) ?_
      refine lv_aload_n hx hb dX3_stack_26 rfl (lv_at hl 3 rfl) ?_
      refine top_get C S inX3_stack_X3 rfl 0 rfl 3 (by decide) (by decide +kernel) rfl rfl dX3_stack_27 ?_
      refine bn_ige (tgt := 102) (a := i) (b := n) hx hb rfl rfl (by omega) (by omega) dX3_stack_30 (by decide) (fun c_1 => ?_) (fun c_1 => ?_)
      · -- 30 T
        exact ret_V C S hr dX3_stack_102 ⟨r1, s1, t1, (fun j hj => hR0 j (by omega)), (fun j hj => hS0 j (by omega)), (fun j hj => hT0 j (by omega)), (by first | rfl | simp only [if_pos c_1])⟩
      · -- 30 F
        refine lv_iload_n hx hb dX3_stack_33 rfl (lv_at hl 5 rfl) ?_
        refine lv_iload hx hb dX3_stack_34 (lv_at hl 0 rfl) ?_
        refine after_I (wc := []) (y := yX6_holds) C S (va_runSN (As := [.int (nI M), .int (nI i)]) (rest := []) C.1 (kX6_holds l g M i (by first | assumption | omega) (by first | assumption | omega) H.size) ⟨va_cnB 2 hts gX3_stack_X6_holds_n31 rfl rfl rfl (C.2.2.1.1.2 ("StackedLeaves$Pack", 31, yX6_holds) (by decide +kernel)) (hts (.initialized RX6) (by decide +kernel)) (by decide +kernel) ⟨Nat.le_of_ble_eq_true rfl, Nat.le_of_ble_eq_true rfl⟩, hts (.static yX6_holds) (by decide +kernel), trivial⟩ (preS_at C S [] rfl (by decide)) rfl rfl hl.1 rfl (lv_room (Nat.le_of_ble_eq_true rfl)) dX3_stack_36 ⟨Nat.le_of_ble_eq_true rfl, Nat.le_of_ble_eq_true rfl⟩) [] [0, 1, 2, 3, 4, 5] rfl (wr := [(P, ob 3 [.ref ra, .ref sa, .ref ta, .int (nI n), .int (nI (M &&& Wh)), .int p3, .int p4, .int p5]), (ra, aI g 8 r1), (sa, aI g 8 s1), (ta, aI g 8 t1), (h, ob 2 [.ref q, .int (nI n), .int (nI ww)]), (q, aI g 32 f)]) rfl (by decide) (by decide) (fun r0 w0 H locs hq S => ?_)
        obtain ⟨rfl, rfl⟩ := hq
        have S : ST g A ss H locs [(P, ob 3 [.ref ra, .ref sa, .ref ta, .int (nI n), .int (nI (M &&& Wh)), .int p3, .int p4, .int p5]), (ra, aI g 8 r1), (sa, aI g 8 s1), (ta, aI g 8 t1), (h, ob 2 [.ref q, .int (nI n), .int (nI ww)]), (q, aI g 32 f)] := S
        refine br_eqB (tgt := 59) hx hb dX3_stack_39 (by decide) (fun c_2 => ?_) (fun c_2 => ?_)
        · -- 39 T
          refine lv_aload_n hx hb dX3_stack_59 rfl (lv_at hl 3 rfl) ?_
          refine top_get C S inX3_stack_X3 rfl 0 rfl 0 (by decide) (by decide +kernel) rfl rfl dX3_stack_60 ?_
          refine lv_iload hx hb dX3_stack_63 (lv_at hl 0 rfl) ?_
          refine lv_iload hx hb dX3_stack_65 (lv_at hl 1 rfl) ?_
          refine top_ist C S 1 rfl (j := i) rfl (by omega) (by decide) dX3_stack_67 (fun H locs S => ?_)
          have S : ST g A ss H locs [(P, ob 3 [.ref ra, .ref sa, .ref ta, .int (nI n), .int (nI (M &&& Wh)), .int p3, .int p4, .int p5]), (ra, aI g 8 (upd r1 i (nI x))), (sa, aI g 8 s1), (ta, aI g 8 t1), (h, ob 2 [.ref q, .int (nI n), .int (nI ww)]), (q, aI g 32 f)] := S
          refine lv_aload_n hx hb dX3_stack_68 rfl (lv_at hl 3 rfl) ?_
          refine top_get C S inX3_stack_X3 rfl 0 rfl 1 (by decide) (by decide +kernel) rfl rfl dX3_stack_69 ?_
          refine lv_iload hx hb dX3_stack_72 (lv_at hl 0 rfl) ?_
          refine lv_aload_n hx hb dX3_stack_74 rfl (lv_at hl 4 rfl) ?_
          refine lv_iconst (v := 1) hx hb dX3_stack_75 (by decide) ?_
          refine lv_iload hx hb dX3_stack_76 (lv_at hl 0 rfl) ?_
          refine after_I (wc := [(h, ob 2 [.ref q, .int (nI n), .int (nI ww)]), (q, aI g 32 f)]) (y := yX2_number) C S (va_runV (As := [.int 1, .int (nI i)]) (rest := [.int (nI i), .ref sa]) C.1 (kX2_number l g h q f n ww 1 i (by first | assumption | omega) (by first | assumption | omega) H.size) (cwV 2 hts gX3_stack_X2_number rfl rfl rfl (by decide +kernel) ⟨Nat.le_of_ble_eq_true rfl, Nat.le_of_ble_eq_true rfl⟩) (preV_at C S 4 rfl rfl [4, 5] rfl (by decide)) rfl rfl hl.1 rfl (lv_room (Nat.le_of_ble_eq_true rfl)) dX3_stack_78 ⟨Nat.le_of_ble_eq_true rfl, Nat.le_of_ble_eq_true rfl⟩) [4, 5] [0, 1, 2, 3] rfl (wr := [(P, ob 3 [.ref ra, .ref sa, .ref ta, .int (nI n), .int (nI (M &&& Wh)), .int p3, .int p4, .int p5]), (ra, aI g 8 (upd r1 i (nI x))), (sa, aI g 8 s1), (ta, aI g 8 t1)]) rfl (by decide) (by decide) (fun r0 w0 H locs hq S => ?_)
          obtain ⟨rfl, rfl⟩ := hq
          have S : ST g A ss H locs [(P, ob 3 [.ref ra, .ref sa, .ref ta, .int (nI n), .int (nI (M &&& Wh)), .int p3, .int p4, .int p5]), (ra, aI g 8 (upd r1 i (nI x))), (sa, aI g 8 s1), (ta, aI g 8 t1), (h, ob 2 [.ref q, .int (nI n), .int (nI ww)]), (q, aI g 32 f)] := S
          refine top_eq (y := nI (nu 1 i)) (hf _ _ (by omega) (by omega)) ?_
          refine top_ist C S 2 rfl (j := i) rfl (by omega) (by decide) dX3_stack_81 (fun H locs S => ?_)
          have S : ST g A ss H locs [(P, ob 3 [.ref ra, .ref sa, .ref ta, .int (nI n), .int (nI (M &&& Wh)), .int p3, .int p4, .int p5]), (ra, aI g 8 (upd r1 i (nI x))), (sa, aI g 8 (upd s1 i (nI (nu 1 i)))), (ta, aI g 8 t1), (h, ob 2 [.ref q, .int (nI n), .int (nI ww)]), (q, aI g 32 f)] := S
          refine lv_aload_n hx hb dX3_stack_82 rfl (lv_at hl 3 rfl) ?_
          refine top_get C S inX3_stack_X3 rfl 0 rfl 2 (by decide) (by decide +kernel) rfl rfl dX3_stack_83 ?_
          refine lv_iload hx hb dX3_stack_86 (lv_at hl 0 rfl) ?_
          refine lv_aload_n hx hb dX3_stack_88 rfl (lv_at hl 4 rfl) ?_
          refine lv_iconst (v := 3) hx hb dX3_stack_89 (by decide) ?_
          refine lv_iload hx hb dX3_stack_90 (lv_at hl 0 rfl) ?_
          refine after_I (wc := [(h, ob 2 [.ref q, .int (nI n), .int (nI ww)]), (q, aI g 32 f)]) (y := yX2_number) C S (va_runV (As := [.int 3, .int (nI i)]) (rest := [.int (nI i), .ref ta]) C.1 (kX2_number l g h q f n ww 3 i (by first | assumption | omega) (by first | assumption | omega) H.size) (cwV 2 hts gX3_stack_X2_number rfl rfl rfl (by decide +kernel) ⟨Nat.le_of_ble_eq_true rfl, Nat.le_of_ble_eq_true rfl⟩) (preV_at C S 4 rfl rfl [4, 5] rfl (by decide)) rfl rfl hl.1 rfl (lv_room (Nat.le_of_ble_eq_true rfl)) dX3_stack_92 ⟨Nat.le_of_ble_eq_true rfl, Nat.le_of_ble_eq_true rfl⟩) [4, 5] [0, 1, 2, 3] rfl (wr := [(P, ob 3 [.ref ra, .ref sa, .ref ta, .int (nI n), .int (nI (M &&& Wh)), .int p3, .int p4, .int p5]), (ra, aI g 8 (upd r1 i (nI x))), (sa, aI g 8 (upd s1 i (nI (nu 1 i)))), (ta, aI g 8 t1)]) rfl (by decide) (by decide) (fun r0 w0 H locs hq S => ?_)
          obtain ⟨rfl, rfl⟩ := hq
          have S : ST g A ss H locs [(P, ob 3 [.ref ra, .ref sa, .ref ta, .int (nI n), .int (nI (M &&& Wh)), .int p3, .int p4, .int p5]), (ra, aI g 8 (upd r1 i (nI x))), (sa, aI g 8 (upd s1 i (nI (nu 1 i)))), (ta, aI g 8 t1), (h, ob 2 [.ref q, .int (nI n), .int (nI ww)]), (q, aI g 32 f)] := S
          refine top_eq (y := nI (nu 3 i)) (hf _ _ (by omega) (by omega)) ?_
          refine top_ist C S 3 rfl (j := i) rfl (by omega) (by decide) dX3_stack_95 (fun H locs S => ?_)
          have S : ST g A ss H locs [(P, ob 3 [.ref ra, .ref sa, .ref ta, .int (nI n), .int (nI (M &&& Wh)), .int p3, .int p4, .int p5]), (ra, aI g 8 (upd r1 i (nI x))), (sa, aI g 8 (upd s1 i (nI (nu 1 i)))), (ta, aI g 8 (upd t1 i (nI (nu 3 i)))), (h, ob 2 [.ref q, .int (nI n), .int (nI ww)]), (q, aI g 32 f)] := S
          refine lv_iinc (v := nI (i + 1)) (lv' := [(6, .int (nI (i + 1))), (5, .int (nI x)), (4, .int (oI o)), (0, .ref P), (1, .ref h), (2, .int (nI M)), (3, .int (nI Wh))]) hx hb dX3_stack_96 hl (k := 0) rfl (nI_add _ _) (by decide) rfl (fun ls hl => ?_)
          refine lv_goto (tgt := 24) hx hb dX3_stack_99 (by decide) ?_
          exact ih24 (i + 1) x o (upd r1 i (nI x)) (upd s1 i (nI (nu 1 i))) (upd t1 i (nI (nu 3 i))) (by omega) (by first | assumption | omega) (by simp only [rs, ho, nipN, if_neg c_1, if_neg (Bool.eq_false_iff.mp c_2)]) (fun j hj => upd_lt (P := fun j => RC (nu 2) M j) hR0 (by show _ = nI (rs (nu 2) M (i + 1)).2; simp only [rs, ho, nipN, if_neg c_1, if_neg (Bool.eq_false_iff.mp c_2)]) j hj) (fun j hj => upd_lt (P := fun j => nu 1 j) hS0 rfl j hj) (fun j hj => upd_lt (P := fun j => nu 3 j) hT0 rfl j hj) H locs ls (ST.eq S (rfl)) (lv_sub hl [0, 1, 2, 3, 4, 5, 6] (rfl))
        · -- 39 F
          cases o with
          | none =>
            have hl : lv_has ls 7 [(6, .int (nI i)), (5, .int (nI x)), (4, .int (-1)), (0, .ref P), (1, .ref h), (2, .int (nI M)), (3, .int (nI Wh))] := hl
            refine lv_iload hx hb dX3_stack_42 (lv_at hl 1 rfl) ?_
            refine lv_aload_n hx hb dX3_stack_44 rfl (lv_at hl 4 rfl) ?_
            refine lv_iload hx hb dX3_stack_45 (lv_at hl 2 rfl) ?_
            refine lv_iload hx hb dX3_stack_47 (lv_at hl 0 rfl) ?_
            refine after_I (wc := [(h, ob 2 [.ref q, .int (nI n), .int (nI ww)]), (q, aI g 32 f)]) (y := yX2_nip) C S (va_runV (As := [.int (-1), .int (nI i)]) (rest := [.int (nI x)]) C.1 (kX2_nipn l g h q f n ww i H.size) (cwV 2 hts gX3_stack_X2_nip rfl rfl rfl (by decide +kernel) ⟨Nat.le_of_ble_eq_true rfl, Nat.le_of_ble_eq_true rfl⟩) (preV_at C S 4 rfl rfl [4, 5] rfl (by decide)) rfl rfl hl.1 rfl (lv_room (Nat.le_of_ble_eq_true rfl)) dX3_stack_49 ⟨Nat.le_of_ble_eq_true rfl, Nat.le_of_ble_eq_true rfl⟩) [4, 5] [0, 1, 2, 3] rfl (wr := [(P, ob 3 [.ref ra, .ref sa, .ref ta, .int (nI n), .int (nI (M &&& Wh)), .int p3, .int p4, .int p5]), (ra, aI g 8 r1), (sa, aI g 8 s1), (ta, aI g 8 t1)]) rfl (by decide) (by decide) (fun r0 w0 H locs hq S => ?_)
            obtain ⟨rfl, rfl⟩ := hq
            have S : ST g A ss H locs [(P, ob 3 [.ref ra, .ref sa, .ref ta, .int (nI n), .int (nI (M &&& Wh)), .int p3, .int p4, .int p5]), (ra, aI g 8 r1), (sa, aI g 8 s1), (ta, aI g 8 t1), (h, ob 2 [.ref q, .int (nI n), .int (nI ww)]), (q, aI g 32 f)] := S
            refine lv_iadd hx hb dX3_stack_52 ?_
            refine top_eq (y := nI (x + 0)) (nI_add _ _) ?_
            refine lv_istore (lv' := [(5, .int (nI (x + 0))), (6, .int (nI i)), (4, .int (-1)), (0, .ref P), (1, .ref h), (2, .int (nI M)), (3, .int (nI Wh))]) hx hb dX3_stack_53 hl (by decide) rfl (fun ls hl => ?_)
            refine lv_iload hx hb dX3_stack_55 (lv_at hl 1 rfl) ?_
            refine lv_istore (lv' := [(4, .int (nI i)), (5, .int (nI (x + 0))), (6, .int (nI i)), (0, .ref P), (1, .ref h), (2, .int (nI M)), (3, .int (nI Wh))]) hx hb dX3_stack_57 hl (by decide) rfl (fun ls hl => ?_)
            refine lv_aload_n hx hb dX3_stack_59 rfl (lv_at hl 3 rfl) ?_
            refine top_get C S inX3_stack_X3 rfl 0 rfl 0 (by decide) (by decide +kernel) rfl rfl dX3_stack_60 ?_
            refine lv_iload hx hb dX3_stack_63 (lv_at hl 2 rfl) ?_
            refine lv_iload hx hb dX3_stack_65 (lv_at hl 1 rfl) ?_
            refine top_ist C S 1 rfl (j := i) rfl (by omega) (by decide) dX3_stack_67 (fun H locs S => ?_)
            have S : ST g A ss H locs [(P, ob 3 [.ref ra, .ref sa, .ref ta, .int (nI n), .int (nI (M &&& Wh)), .int p3, .int p4, .int p5]), (ra, aI g 8 (upd r1 i (nI (x + 0)))), (sa, aI g 8 s1), (ta, aI g 8 t1), (h, ob 2 [.ref q, .int (nI n), .int (nI ww)]), (q, aI g 32 f)] := S
            refine lv_aload_n hx hb dX3_stack_68 rfl (lv_at hl 3 rfl) ?_
            refine top_get C S inX3_stack_X3 rfl 0 rfl 1 (by decide) (by decide +kernel) rfl rfl dX3_stack_69 ?_
            refine lv_iload hx hb dX3_stack_72 (lv_at hl 2 rfl) ?_
            refine lv_aload_n hx hb dX3_stack_74 rfl (lv_at hl 4 rfl) ?_
            refine lv_iconst (v := 1) hx hb dX3_stack_75 (by decide) ?_
            refine lv_iload hx hb dX3_stack_76 (lv_at hl 2 rfl) ?_
            refine after_I (wc := [(h, ob 2 [.ref q, .int (nI n), .int (nI ww)]), (q, aI g 32 f)]) (y := yX2_number) C S (va_runV (As := [.int 1, .int (nI i)]) (rest := [.int (nI i), .ref sa]) C.1 (kX2_number l g h q f n ww 1 i (by first | assumption | omega) (by first | assumption | omega) H.size) (cwV 2 hts gX3_stack_X2_number rfl rfl rfl (by decide +kernel) ⟨Nat.le_of_ble_eq_true rfl, Nat.le_of_ble_eq_true rfl⟩) (preV_at C S 4 rfl rfl [4, 5] rfl (by decide)) rfl rfl hl.1 rfl (lv_room (Nat.le_of_ble_eq_true rfl)) dX3_stack_78 ⟨Nat.le_of_ble_eq_true rfl, Nat.le_of_ble_eq_true rfl⟩) [4, 5] [0, 1, 2, 3] rfl (wr := [(P, ob 3 [.ref ra, .ref sa, .ref ta, .int (nI n), .int (nI (M &&& Wh)), .int p3, .int p4, .int p5]), (ra, aI g 8 (upd r1 i (nI (x + 0)))), (sa, aI g 8 s1), (ta, aI g 8 t1)]) rfl (by decide) (by decide) (fun r0 w0 H locs hq S => ?_)
            obtain ⟨rfl, rfl⟩ := hq
            have S : ST g A ss H locs [(P, ob 3 [.ref ra, .ref sa, .ref ta, .int (nI n), .int (nI (M &&& Wh)), .int p3, .int p4, .int p5]), (ra, aI g 8 (upd r1 i (nI (x + 0)))), (sa, aI g 8 s1), (ta, aI g 8 t1), (h, ob 2 [.ref q, .int (nI n), .int (nI ww)]), (q, aI g 32 f)] := S
            refine top_eq (y := nI (nu 1 i)) (hf _ _ (by omega) (by omega)) ?_
            refine top_ist C S 2 rfl (j := i) rfl (by omega) (by decide) dX3_stack_81 (fun H locs S => ?_)
            have S : ST g A ss H locs [(P, ob 3 [.ref ra, .ref sa, .ref ta, .int (nI n), .int (nI (M &&& Wh)), .int p3, .int p4, .int p5]), (ra, aI g 8 (upd r1 i (nI (x + 0)))), (sa, aI g 8 (upd s1 i (nI (nu 1 i)))), (ta, aI g 8 t1), (h, ob 2 [.ref q, .int (nI n), .int (nI ww)]), (q, aI g 32 f)] := S
            refine lv_aload_n hx hb dX3_stack_82 rfl (lv_at hl 3 rfl) ?_
            refine top_get C S inX3_stack_X3 rfl 0 rfl 2 (by decide) (by decide +kernel) rfl rfl dX3_stack_83 ?_
            refine lv_iload hx hb dX3_stack_86 (lv_at hl 2 rfl) ?_
            refine lv_aload_n hx hb dX3_stack_88 rfl (lv_at hl 4 rfl) ?_
            refine lv_iconst (v := 3) hx hb dX3_stack_89 (by decide) ?_
            refine lv_iload hx hb dX3_stack_90 (lv_at hl 2 rfl) ?_
            refine after_I (wc := [(h, ob 2 [.ref q, .int (nI n), .int (nI ww)]), (q, aI g 32 f)]) (y := yX2_number) C S (va_runV (As := [.int 3, .int (nI i)]) (rest := [.int (nI i), .ref ta]) C.1 (kX2_number l g h q f n ww 3 i (by first | assumption | omega) (by first | assumption | omega) H.size) (cwV 2 hts gX3_stack_X2_number rfl rfl rfl (by decide +kernel) ⟨Nat.le_of_ble_eq_true rfl, Nat.le_of_ble_eq_true rfl⟩) (preV_at C S 4 rfl rfl [4, 5] rfl (by decide)) rfl rfl hl.1 rfl (lv_room (Nat.le_of_ble_eq_true rfl)) dX3_stack_92 ⟨Nat.le_of_ble_eq_true rfl, Nat.le_of_ble_eq_true rfl⟩) [4, 5] [0, 1, 2, 3] rfl (wr := [(P, ob 3 [.ref ra, .ref sa, .ref ta, .int (nI n), .int (nI (M &&& Wh)), .int p3, .int p4, .int p5]), (ra, aI g 8 (upd r1 i (nI (x + 0)))), (sa, aI g 8 (upd s1 i (nI (nu 1 i)))), (ta, aI g 8 t1)]) rfl (by decide) (by decide) (fun r0 w0 H locs hq S => ?_)
            obtain ⟨rfl, rfl⟩ := hq
            have S : ST g A ss H locs [(P, ob 3 [.ref ra, .ref sa, .ref ta, .int (nI n), .int (nI (M &&& Wh)), .int p3, .int p4, .int p5]), (ra, aI g 8 (upd r1 i (nI (x + 0)))), (sa, aI g 8 (upd s1 i (nI (nu 1 i)))), (ta, aI g 8 t1), (h, ob 2 [.ref q, .int (nI n), .int (nI ww)]), (q, aI g 32 f)] := S
            refine top_eq (y := nI (nu 3 i)) (hf _ _ (by omega) (by omega)) ?_
            refine top_ist C S 3 rfl (j := i) rfl (by omega) (by decide) dX3_stack_95 (fun H locs S => ?_)
            have S : ST g A ss H locs [(P, ob 3 [.ref ra, .ref sa, .ref ta, .int (nI n), .int (nI (M &&& Wh)), .int p3, .int p4, .int p5]), (ra, aI g 8 (upd r1 i (nI (x + 0)))), (sa, aI g 8 (upd s1 i (nI (nu 1 i)))), (ta, aI g 8 (upd t1 i (nI (nu 3 i)))), (h, ob 2 [.ref q, .int (nI n), .int (nI ww)]), (q, aI g 32 f)] := S
            refine lv_iinc (v := nI (i + 1)) (lv' := [(6, .int (nI (i + 1))), (4, .int (nI i)), (5, .int (nI (x + 0))), (0, .ref P), (1, .ref h), (2, .int (nI M)), (3, .int (nI Wh))]) hx hb dX3_stack_96 hl (k := 2) rfl (nI_add _ _) (by decide) rfl (fun ls hl => ?_)
            refine lv_goto (tgt := 24) hx hb dX3_stack_99 (by decide) ?_
            exact ih24 (i + 1) (x + 0) (some i) (upd r1 i (nI (x + 0))) (upd s1 i (nI (nu 1 i))) (upd t1 i (nI (nu 3 i))) (by omega) (by first | assumption | omega) (by simp only [rs, ho, nipN, if_neg c_1, if_pos c_2]) (fun j hj => upd_lt (P := fun j => RC (nu 2) M j) hR0 (by show _ = nI (rs (nu 2) M (i + 1)).2; simp only [rs, ho, nipN, if_neg c_1, if_pos c_2]) j hj) (fun j hj => upd_lt (P := fun j => nu 1 j) hS0 rfl j hj) (fun j hj => upd_lt (P := fun j => nu 3 j) hT0 rfl j hj) H locs ls (ST.eq S (rfl)) (lv_sub hl [0, 2, 1, 3, 4, 5, 6] (rfl))
          | some j =>
            have hl : lv_has ls 7 [(6, .int (nI i)), (5, .int (nI x)), (4, .int (nI j)), (0, .ref P), (1, .ref h), (2, .int (nI M)), (3, .int (nI Wh))] := hl
            have hj : j < n := by have := rs_lt i j (by rw [ho]); omega
            refine lv_iload hx hb dX3_stack_42 (lv_at hl 1 rfl) ?_
            refine lv_aload_n hx hb dX3_stack_44 rfl (lv_at hl 4 rfl) ?_
            refine lv_iload hx hb dX3_stack_45 (lv_at hl 2 rfl) ?_
            refine lv_iload hx hb dX3_stack_47 (lv_at hl 0 rfl) ?_
            refine after_I (wc := [(h, ob 2 [.ref q, .int (nI n), .int (nI ww)]), (q, aI g 32 f)]) (y := yX2_nip) C S (va_runV (As := [.int (nI j), .int (nI i)]) (rest := [.int (nI x)]) C.1 (kX2_nips l g h q f n ww nu j i (by first | assumption | omega) (by first | assumption | omega) (by first | assumption | omega) (by first | assumption | omega) (by first | assumption | omega) H.size) (cwV 2 hts gX3_stack_X2_nip rfl rfl rfl (by decide +kernel) ⟨Nat.le_of_ble_eq_true rfl, Nat.le_of_ble_eq_true rfl⟩) (preV_at C S 4 rfl rfl [4, 5] rfl (by decide)) rfl rfl hl.1 rfl (lv_room (Nat.le_of_ble_eq_true rfl)) dX3_stack_49 ⟨Nat.le_of_ble_eq_true rfl, Nat.le_of_ble_eq_true rfl⟩) [4, 5] [0, 1, 2, 3] rfl (wr := [(P, ob 3 [.ref ra, .ref sa, .ref ta, .int (nI n), .int (nI (M &&& Wh)), .int p3, .int p4, .int p5]), (ra, aI g 8 r1), (sa, aI g 8 s1), (ta, aI g 8 t1)]) rfl (by decide) (by decide) (fun r0 w0 H locs hq S => ?_)
            obtain ⟨rfl, rfl⟩ := hq
            have S : ST g A ss H locs [(P, ob 3 [.ref ra, .ref sa, .ref ta, .int (nI n), .int (nI (M &&& Wh)), .int p3, .int p4, .int p5]), (ra, aI g 8 r1), (sa, aI g 8 s1), (ta, aI g 8 t1), (h, ob 2 [.ref q, .int (nI n), .int (nI ww)]), (q, aI g 32 f)] := S
            refine lv_iadd hx hb dX3_stack_52 ?_
            refine top_eq (y := nI (x + (nu 2 j - nu 2 i))) (nI_add _ _) ?_
            refine lv_istore (lv' := [(5, .int (nI (x + (nu 2 j - nu 2 i)))), (6, .int (nI i)), (4, .int (nI j)), (0, .ref P), (1, .ref h), (2, .int (nI M)), (3, .int (nI Wh))]) hx hb dX3_stack_53 hl (by decide) rfl (fun ls hl => ?_)
            refine lv_iload hx hb dX3_stack_55 (lv_at hl 1 rfl) ?_
            refine lv_istore (lv' := [(4, .int (nI i)), (5, .int (nI (x + (nu 2 j - nu 2 i)))), (6, .int (nI i)), (0, .ref P), (1, .ref h), (2, .int (nI M)), (3, .int (nI Wh))]) hx hb dX3_stack_57 hl (by decide) rfl (fun ls hl => ?_)
            refine lv_aload_n hx hb dX3_stack_59 rfl (lv_at hl 3 rfl) ?_
            refine top_get C S inX3_stack_X3 rfl 0 rfl 0 (by decide) (by decide +kernel) rfl rfl dX3_stack_60 ?_
            refine lv_iload hx hb dX3_stack_63 (lv_at hl 2 rfl) ?_
            refine lv_iload hx hb dX3_stack_65 (lv_at hl 1 rfl) ?_
            refine top_ist C S 1 rfl (j := i) rfl (by omega) (by decide) dX3_stack_67 (fun H locs S => ?_)
            have S : ST g A ss H locs [(P, ob 3 [.ref ra, .ref sa, .ref ta, .int (nI n), .int (nI (M &&& Wh)), .int p3, .int p4, .int p5]), (ra, aI g 8 (upd r1 i (nI (x + (nu 2 j - nu 2 i))))), (sa, aI g 8 s1), (ta, aI g 8 t1), (h, ob 2 [.ref q, .int (nI n), .int (nI ww)]), (q, aI g 32 f)] := S
            refine lv_aload_n hx hb dX3_stack_68 rfl (lv_at hl 3 rfl) ?_
            refine top_get C S inX3_stack_X3 rfl 0 rfl 1 (by decide) (by decide +kernel) rfl rfl dX3_stack_69 ?_
            refine lv_iload hx hb dX3_stack_72 (lv_at hl 2 rfl) ?_
            refine lv_aload_n hx hb dX3_stack_74 rfl (lv_at hl 4 rfl) ?_
            refine lv_iconst (v := 1) hx hb dX3_stack_75 (by decide) ?_
            refine lv_iload hx hb dX3_stack_76 (lv_at hl 2 rfl) ?_
            refine after_I (wc := [(h, ob 2 [.ref q, .int (nI n), .int (nI ww)]), (q, aI g 32 f)]) (y := yX2_number) C S (va_runV (As := [.int 1, .int (nI i)]) (rest := [.int (nI i), .ref sa]) C.1 (kX2_number l g h q f n ww 1 i (by first | assumption | omega) (by first | assumption | omega) H.size) (cwV 2 hts gX3_stack_X2_number rfl rfl rfl (by decide +kernel) ⟨Nat.le_of_ble_eq_true rfl, Nat.le_of_ble_eq_true rfl⟩) (preV_at C S 4 rfl rfl [4, 5] rfl (by decide)) rfl rfl hl.1 rfl (lv_room (Nat.le_of_ble_eq_true rfl)) dX3_stack_78 ⟨Nat.le_of_ble_eq_true rfl, Nat.le_of_ble_eq_true rfl⟩) [4, 5] [0, 1, 2, 3] rfl (wr := [(P, ob 3 [.ref ra, .ref sa, .ref ta, .int (nI n), .int (nI (M &&& Wh)), .int p3, .int p4, .int p5]), (ra, aI g 8 (upd r1 i (nI (x + (nu 2 j - nu 2 i))))), (sa, aI g 8 s1), (ta, aI g 8 t1)]) rfl (by decide) (by decide) (fun r0 w0 H locs hq S => ?_)
            obtain ⟨rfl, rfl⟩ := hq
            have S : ST g A ss H locs [(P, ob 3 [.ref ra, .ref sa, .ref ta, .int (nI n), .int (nI (M &&& Wh)), .int p3, .int p4, .int p5]), (ra, aI g 8 (upd r1 i (nI (x + (nu 2 j - nu 2 i))))), (sa, aI g 8 s1), (ta, aI g 8 t1), (h, ob 2 [.ref q, .int (nI n), .int (nI ww)]), (q, aI g 32 f)] := S
            refine top_eq (y := nI (nu 1 i)) (hf _ _ (by omega) (by omega)) ?_
            refine top_ist C S 2 rfl (j := i) rfl (by omega) (by decide) dX3_stack_81 (fun H locs S => ?_)
            have S : ST g A ss H locs [(P, ob 3 [.ref ra, .ref sa, .ref ta, .int (nI n), .int (nI (M &&& Wh)), .int p3, .int p4, .int p5]), (ra, aI g 8 (upd r1 i (nI (x + (nu 2 j - nu 2 i))))), (sa, aI g 8 (upd s1 i (nI (nu 1 i)))), (ta, aI g 8 t1), (h, ob 2 [.ref q, .int (nI n), .int (nI ww)]), (q, aI g 32 f)] := S
            refine lv_aload_n hx hb dX3_stack_82 rfl (lv_at hl 3 rfl) ?_
            refine top_get C S inX3_stack_X3 rfl 0 rfl 2 (by decide) (by decide +kernel) rfl rfl dX3_stack_83 ?_
            refine lv_iload hx hb dX3_stack_86 (lv_at hl 2 rfl) ?_
            refine lv_aload_n hx hb dX3_stack_88 rfl (lv_at hl 4 rfl) ?_
            refine lv_iconst (v := 3) hx hb dX3_stack_89 (by decide) ?_
            refine lv_iload hx hb dX3_stack_90 (lv_at hl 2 rfl) ?_
            refine after_I (wc := [(h, ob 2 [.ref q, .int (nI n), .int (nI ww)]), (q, aI g 32 f)]) (y := yX2_number) C S (va_runV (As := [.int 3, .int (nI i)]) (rest := [.int (nI i), .ref ta]) C.1 (kX2_number l g h q f n ww 3 i (by first | assumption | omega) (by first | assumption | omega) H.size) (cwV 2 hts gX3_stack_X2_number rfl rfl rfl (by decide +kernel) ⟨Nat.le_of_ble_eq_true rfl, Nat.le_of_ble_eq_true rfl⟩) (preV_at C S 4 rfl rfl [4, 5] rfl (by decide)) rfl rfl hl.1 rfl (lv_room (Nat.le_of_ble_eq_true rfl)) dX3_stack_92 ⟨Nat.le_of_ble_eq_true rfl, Nat.le_of_ble_eq_true rfl⟩) [4, 5] [0, 1, 2, 3] rfl (wr := [(P, ob 3 [.ref ra, .ref sa, .ref ta, .int (nI n), .int (nI (M &&& Wh)), .int p3, .int p4, .int p5]), (ra, aI g 8 (upd r1 i (nI (x + (nu 2 j - nu 2 i))))), (sa, aI g 8 (upd s1 i (nI (nu 1 i)))), (ta, aI g 8 t1)]) rfl (by decide) (by decide) (fun r0 w0 H locs hq S => ?_)
            obtain ⟨rfl, rfl⟩ := hq
            have S : ST g A ss H locs [(P, ob 3 [.ref ra, .ref sa, .ref ta, .int (nI n), .int (nI (M &&& Wh)), .int p3, .int p4, .int p5]), (ra, aI g 8 (upd r1 i (nI (x + (nu 2 j - nu 2 i))))), (sa, aI g 8 (upd s1 i (nI (nu 1 i)))), (ta, aI g 8 t1), (h, ob 2 [.ref q, .int (nI n), .int (nI ww)]), (q, aI g 32 f)] := S
            refine top_eq (y := nI (nu 3 i)) (hf _ _ (by omega) (by omega)) ?_
            refine top_ist C S 3 rfl (j := i) rfl (by omega) (by decide) dX3_stack_95 (fun H locs S => ?_)
            have S : ST g A ss H locs [(P, ob 3 [.ref ra, .ref sa, .ref ta, .int (nI n), .int (nI (M &&& Wh)), .int p3, .int p4, .int p5]), (ra, aI g 8 (upd r1 i (nI (x + (nu 2 j - nu 2 i))))), (sa, aI g 8 (upd s1 i (nI (nu 1 i)))), (ta, aI g 8 (upd t1 i (nI (nu 3 i)))), (h, ob 2 [.ref q, .int (nI n), .int (nI ww)]), (q, aI g 32 f)] := S
            refine lv_iinc (v := nI (i + 1)) (lv' := [(6, .int (nI (i + 1))), (4, .int (nI i)), (5, .int (nI (x + (nu 2 j - nu 2 i)))), (0, .ref P), (1, .ref h), (2, .int (nI M)), (3, .int (nI Wh))]) hx hb dX3_stack_96 hl (k := 2) rfl (nI_add _ _) (by decide) rfl (fun ls hl => ?_)
            refine lv_goto (tgt := 24) hx hb dX3_stack_99 (by decide) ?_
            exact ih24 (i + 1) (x + (nu 2 j - nu 2 i)) (some i) (upd r1 i (nI (x + (nu 2 j - nu 2 i)))) (upd s1 i (nI (nu 1 i))) (upd t1 i (nI (nu 3 i))) (by omega) (by first | assumption | omega) (by simp only [rs, ho, nipN, if_neg c_1, if_pos c_2]) (fun j hj => upd_lt (P := fun j => RC (nu 2) M j) hR0 (by show _ = nI (rs (nu 2) M (i + 1)).2; simp only [rs, ho, nipN, if_neg c_1, if_pos c_2]) j hj) (fun j hj => upd_lt (P := fun j => nu 1 j) hS0 rfl j hj) (fun j hj => upd_lt (P := fun j => nu 3 j) hT0 rfl j hj) H locs ls (ST.eq S (rfl)) (lv_sub hl [0, 2, 1, 3, 4, 5, 6] (rfl))
  exact loop24 _ 0 0 none rf sf tf (Nat.lt_succ_self _) (by first | assumption | omega) (rfl) (fun j hj => absurd hj (Nat.not_lt_zero _)) (fun j hj => absurd hj (Nat.not_lt_zero _)) (fun j hj => absurd hj (Nat.not_lt_zero _)) H locs ls (ST.eq S (rfl)) (lv_sub hl [0, 1, 2, 3, 4, 5, 6] (rfl))
