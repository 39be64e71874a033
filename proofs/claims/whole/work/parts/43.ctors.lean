def f0X2 : Nat → Int32 := upd (upd (upd (upd (fun _ => 0) 0 1) 8 1) 16 0) 24 99
theorem inX2_init_X2 : ∀ w ∈ wsX20, w ∈ wsX2_init := by decide +kernel
set_option maxRecDepth 100000 in
set_option maxHeartbeats 4000000 in
theorem kX2_init (l : Launch) (g : GG) (h : Nat) : KC l g yX2_init wsX2_init 1 12 1 32 [.ref h] [(h, ob 2 [.null, .int 0, .int 0])] (fun (w' : va_W) => ∃ (n_1 : Nat), w' = [(h, ob 2 [.ref n_1, .int 1, .int 1]), (n_1, aI g 32 f0X2)]) := by
  refine kC_of (cc := cX2_init) (maxL := 1) (by decide) rfl rfl (Nat.le_of_ble_eq_true rfl) ?_
  intro pp ee ss mm bel mth cd A ls C S hr hl hAO hin
  obtain ⟨hx, hb, hml, hown, hts⟩ := id C.1
  have hl : lv_has ls 1 [(0, .ref h)] := hl
  obtain ⟨H, hH⟩ : ∃ H, H = ss.heap := ⟨_, rfl⟩
  obtain ⟨locs, hL0⟩ : ∃ L : List Loc, L = [] := ⟨_, rfl⟩
  rw [← hH, ← hL0] at S ⊢
  refine lv_aload_n hx hb dX2_init_0 rfl (lv_at hl 0 rfl) ?_
  refine top_obj C hl.1 (hts (.methodLink RX2 3 objectInit) (by decide +kernel)) (hts (.instanceMethod objectInit) (by decide +kernel)) (hts (.code objectInit ⟨#[0xb1]⟩ 1 none) (by decide +kernel)) dX2_init_1 (Nat.le_of_ble_eq_true rfl) (Nat.le_of_ble_eq_true rfl) ?_
  refine lv_aload_n hx hb dX2_init_4 rfl (lv_at hl 0 rfl) ?_
  refine lv_bipush (v := 32) hx hb dX2_init_5 (by decide) ?_
  refine top_newI (cn := 1) (sn := 32) (N' := 32) C S (hts (.arrayClass .int) (by decide +kernel)) rfl (by decide) rfl rfl (Nat.le_of_ble_eq_true rfl) (Nat.le_of_ble_eq_true rfl) dX2_init_7 (fun n_1 H S => ?_)
  have S : ST g A ss H locs [(h, ob 2 [.null, .int 0, .int 0]), (n_1, aI g 32 (fun _ => 0))] := S
  refine top_putF (v := .ref n_1) (ty := tyX2 0) C S inX2_init_X2 tyX2 tyX2_ok nmX2 rfl 0 rfl 0 (by decide) (by decide +kernel) rfl hin rfl (tyX2_ok 0 (by decide)) (by rfl) (by rfl) (Nat.le_of_ble_eq_true rfl) dX2_init_9 (fun H locs S => ?_)
  have S : ST g A ss H locs [(h, ob 2 [.ref n_1, .int 0, .int 0]), (n_1, aI g 32 (fun _ => 0))] := S
  refine lv_aload_n hx hb dX2_init_12 rfl (lv_at hl 0 rfl) ?_
  refine lv_iconst (v := 1) hx hb dX2_init_13 (by decide) ?_
  refine top_put (ty := .int) C S inX2_init_X2 tyX2 tyX2_ok nmX2 rfl 0 rfl 1 (by decide) (by decide +kernel) rfl rfl (tyX2_ok 1 (by decide)) rfl rfl (Nat.le_of_ble_eq_true rfl) dX2_init_14 (fun H locs S => ?_)
  have S : ST g A ss H locs [(h, ob 2 [.ref n_1, .int 1, .int 0]), (n_1, aI g 32 (fun _ => 0))] := S
  refine lv_aload_n hx hb dX2_init_17 rfl (lv_at hl 0 rfl) ?_
  refine lv_iconst (v := 1) hx hb dX2_init_18 (by decide) ?_
  refine top_put (ty := .int) C S inX2_init_X2 tyX2 tyX2_ok nmX2 rfl 0 rfl 2 (by decide) (by decide +kernel) rfl rfl (tyX2_ok 2 (by decide)) rfl rfl (Nat.le_of_ble_eq_true rfl) dX2_init_19 (fun H locs S => ?_)
  have S : ST g A ss H locs [(h, ob 2 [.ref n_1, .int 1, .int 1]), (n_1, aI g 32 (fun _ => 0))] := S
  refine lv_aload_n hx hb dX2_init_22 rfl (lv_at hl 0 rfl) ?_
  refine top_get C S inX2_init_X2 rfl 0 rfl 0 (by decide) (by decide +kernel) rfl rfl dX2_init_23 ?_
  refine lv_iconst (v := 0) hx hb dX2_init_26 (by decide) ?_
  refine lv_iconst (v := 1) hx hb dX2_init_27 (by decide) ?_
  refine top_ist C S 1 rfl (j := 0) rfl (by omega) (by decide) dX2_init_28 (fun H locs S => ?_)
  have S : ST g A ss H locs [(h, ob 2 [.ref n_1, .int 1, .int 1]), (n_1, aI g 32 (upd (fun _ => 0) 0 1))] := S
  refine lv_aload_n hx hb dX2_init_29 rfl (lv_at hl 0 rfl) ?_
  refine top_get C S inX2_init_X2 rfl 0 rfl 0 (by decide) (by decide +kernel) rfl rfl dX2_init_30 ?_
  refine lv_bipush (v := 8) hx hb dX2_init_33 (by decide) ?_
  refine lv_iconst (v := 1) hx hb dX2_init_35 (by decide) ?_
  refine top_ist C S 1 rfl (j := 8) rfl (by omega) (by decide) dX2_init_36 (fun H locs S => ?_)
  have S : ST g A ss H locs [(h, ob 2 [.ref n_1, .int 1, .int 1]), (n_1, aI g 32 (upd (upd (fun _ => 0) 0 1) 8 1))] := S
  refine lv_aload_n hx hb dX2_init_37 rfl (lv_at hl 0 rfl) ?_
  refine top_get C S inX2_init_X2 rfl 0 rfl 0 (by decide) (by decide +kernel) rfl rfl dX2_init_38 ?_
  refine lv_bipush (v := 16) hx hb dX2_init_41 (by decide) ?_
  refine lv_iconst (v := 0) hx hb dX2_init_43 (by decide) ?_
  refine top_ist C S 1 rfl (j := 16) rfl (by omega) (by decide) dX2_init_44 (fun H locs S => ?_)
  have S : ST g A ss H locs [(h, ob 2 [.ref n_1, .int 1, .int 1]), (n_1, aI g 32 (upd (upd (upd (fun _ => 0) 0 1) 8 1) 16 0))] := S
  refine lv_aload_n hx hb dX2_init_45 rfl (lv_at hl 0 rfl) ?_
  refine top_get C S inX2_init_X2 rfl 0 rfl 0 (by decide) (by decide +kernel) rfl rfl dX2_init_46 ?_
  refine lv_bipush (v := 24) hx hb dX2_init_49 (by decide) ?_
  refine lv_bipush (v := 99) hx hb dX2_init_51 (by decide) ?_
  refine top_ist C S 1 rfl (j := 24) rfl (by omega) (by decide) dX2_init_53 (fun H locs S => ?_)
  have S : ST g A ss H locs [(h, ob 2 [.ref n_1, .int 1, .int 1]), (n_1, aI g 32 (upd (upd (upd (upd (fun _ => 0) 0 1) 8 1) 16 0) 24 99))] := S
  exact ret_C C S hr dX2_init_54 ⟨n_1, rfl⟩

theorem inX0_init_X0 : ∀ w ∈ wsX00, w ∈ wsX0_init := by decide +kernel
theorem inX0_init_X2 : ∀ w ∈ wsX20, w ∈ wsX0_init := by decide +kernel
set_option maxRecDepth 100000 in
set_option maxHeartbeats 4000000 in
theorem kX0_init (l : Launch) (g : GG) (h : Nat) : KC l g yX0_init wsX0_init 2 32 13 216 [.ref h] [(h, ob 0 [.null, .int 0, .int 0])] (fun (w' : va_W) => ∃ (n_1 n_3 n_4 n_6 n_7 n_9 n_10 n_12 n_13 n_15 n_16 n_18 n_19 : Nat), w' = [(h, ob 0 [.ref n_1, .int 0, .int 0]), (n_1, aO g 6 (va_up (va_up (va_up (va_up (va_up (va_up (fun _ => none) 0 (some n_3)) (0 + 1) (some n_6)) ((0 + 1) + 1) (some n_9)) (((0 + 1) + 1) + 1) (some n_12)) ((((0 + 1) + 1) + 1) + 1) (some n_15)) (((((0 + 1) + 1) + 1) + 1) + 1) (some n_18))), (n_3, ob 2 [.ref n_4, .int 1, .int 1]), (n_4, aI g 32 f0X2), (n_6, ob 2 [.ref n_7, .int 1, .int 1]), (n_7, aI g 32 f0X2), (n_9, ob 2 [.ref n_10, .int 1, .int 1]), (n_10, aI g 32 f0X2), (n_12, ob 2 [.ref n_13, .int 1, .int 1]), (n_13, aI g 32 f0X2), (n_15, ob 2 [.ref n_16, .int 1, .int 1]), (n_16, aI g 32 f0X2), (n_18, ob 2 [.ref n_19, .int 1, .int 1]), (n_19, aI g 32 f0X2)]) := by
  refine kC_of (cc := cX0_init) (maxL := 2) (by decide) rfl rfl (Nat.le_of_ble_eq_true rfl) ?_
  intro pp ee ss mm bel mth cd A ls C S hr hl hAO hin
  obtain ⟨hx, hb, hml, hown, hts⟩ := id C.1
  have hl : lv_has ls 2 [(0, .ref h)] := hl
  obtain ⟨H, hH⟩ : ∃ H, H = ss.heap := ⟨_, rfl⟩
  obtain ⟨locs, hL0⟩ : ∃ L : List Loc, L = [] := ⟨_, rfl⟩
  rw [← hH, ← hL0] at S ⊢
  refine lv_aload_n hx hb dX0_init_0 rfl (lv_at hl 0 rfl) ?_
  refine top_obj C hl.1 (hts (.methodLink RX0 3 objectInit) (by decide +kernel)) (hts (.instanceMethod objectInit) (by decide +kernel)) (hts (.code objectInit ⟨#[0xb1]⟩ 1 none) (by decide +kernel)) dX0_init_1 (Nat.le_of_ble_eq_true rfl) (Nat.le_of_ble_eq_true rfl) ?_
  refine lv_aload_n hx hb dX0_init_4 rfl (lv_at hl 0 rfl) ?_
  refine lv_bipush (v := 6) hx hb dX0_init_5 (by decide) ?_
  refine top_newO (cn := 1) (sn := 6) (N' := 6) C S hAO (hts (.classLink RX0 9 RX2) (by decide +kernel)) rfl (by decide) rfl rfl (Nat.le_of_ble_eq_true rfl) (Nat.le_of_ble_eq_true rfl) dX0_init_7 (fun n_1 H S => ?_)
  have S : ST g A ss H locs [(h, ob 0 [.null, .int 0, .int 0]), (n_1, aO g 6 (fun _ => none))] := S
  refine top_putF (v := .ref n_1) (ty := tyX0 0) C S inX0_init_X0 tyX0 tyX0_ok nmX0 rfl 0 rfl 0 (by decide) (by decide +kernel) rfl hin rfl (tyX0_ok 0 (by decide)) (by rfl) (by rfl) (Nat.le_of_ble_eq_true rfl) dX0_init_10 (fun H locs S => ?_)
  have S : ST g A ss H locs [(h, ob 0 [.ref n_1, .int 0, .int 0]), (n_1, aO g 6 (fun _ => none))] := S
  refine lv_iconst (v := 0) hx hb dX0_init_13 (by decide) ?_
  refine lv_istore_n (lv' := [(1, .int 0), (0, .ref h)]) hx hb dX0_init_14 rfl hl (by decide) rfl (fun ls hl => ?_)
  refine lv_iload_n hx hb dX0_init_15 rfl (lv_at hl 0 rfl) ?_
  refine lv_bipush (v := 6) hx hb dX0_init_16 (by decide) ?_
  refine bn_ige (tgt := 40) (a := 0) (b := 6) hx hb rfl rfl (by omega) (by omega) dX0_init_18 (by decide) (fun c_2 => ?_) (fun c_2 => ?_)
  · -- 18 T
    exact absurd c_2 (by decide)
  · -- 18 F
    refine lv_aload_n hx hb dX0_init_21 rfl (lv_at hl 1 rfl) ?_
    refine top_get C S inX0_init_X0 rfl 0 rfl 0 (by decide) (by decide +kernel) rfl rfl dX0_init_22 ?_
    refine lv_iload_n hx hb dX0_init_25 rfl (lv_at hl 0 rfl) ?_
    refine top_new (K := RX2) (T := TX2) (N := 3) (ci := 2) (fs := [.null, .int 0, .int 0]) (cn := 2) (sn := 9) C S inX0_init_X2 tyX2 tyX2_ok rfl (by decide +kernel) (by decide +kernel) (by decide +kernel) (fun j hj => by rcases (show j = 0 ∨ j = 1 ∨ j = 2 by omega) with rfl | rfl | rfl <;> rfl) rfl rfl (Nat.le_of_ble_eq_true rfl) (Nat.le_of_ble_eq_true rfl) dX0_init_26 (fun n_3 H S => ?_)
    have S : ST g A ss H locs [(h, ob 0 [.ref n_1, .int 0, .int 0]), (n_1, aO g 6 (fun _ => none)), (n_3, ob 2 [.null, .int 0, .int 0])] := S
    refine lv_dup hx hb dX0_init_29 rfl ?_
    refine after_C (wc := [(n_3, ob 2 [.null, .int 0, .int 0])]) (y := yX2_init) (cn := 3) (sn := 41) C S (va_runI (As := []) (rest := [.ref n_3, .int 0, .ref n_1]) C.1 (kX2_init l g n_3 H.size) (cwI 0 hts gX0_init_X2_init rfl rfl rfl (hts (.initialized RX2) (by decide +kernel)) (hts (.methodLink RX0 17 yX2_init) (by decide +kernel)) (hts (.instanceMethod yX2_init) (by decide +kernel)) rfl (by decide +kernel) ⟨Nat.le_of_ble_eq_true rfl, Nat.le_of_ble_eq_true rfl⟩) (prcS_at C S hAO [2] rfl (by decide)) rfl rfl hl.1 rfl (lv_room (Nat.le_of_ble_eq_true rfl)) dX0_init_30 ⟨Nat.le_of_ble_eq_true rfl, Nat.le_of_ble_eq_true rfl⟩) rfl rfl [2] [0, 1] rfl (wr := [(h, ob 0 [.ref n_1, .int 0, .int 0]), (n_1, aO g 6 (fun _ => none))]) rfl (by decide) (by decide) (fun w0 H locs hq S => ?_)
    obtain ⟨n_4, rfl⟩ := hq
    have S : ST g A ss H locs [(h, ob 0 [.ref n_1, .int 0, .int 0]), (n_1, aO g 6 (fun _ => none)), (n_3, ob 2 [.ref n_4, .int 1, .int 1]), (n_4, aI g 32 f0X2)] := S
    refine top_ost C S 1 rfl 2 rfl (j := 0) rfl (by decide) (by decide) dX0_init_33 (fun H locs S => ?_)
    have S : ST g A ss H locs [(h, ob 0 [.ref n_1, .int 0, .int 0]), (n_1, aO g 6 (va_up (fun _ => none) 0 (some n_3))), (n_3, ob 2 [.ref n_4, .int 1, .int 1]), (n_4, aI g 32 f0X2)] := S
    refine lv_iinc (v := nI (0 + 1)) (lv' := [(1, .int (nI (0 + 1))), (0, .ref h)]) hx hb dX0_init_34 hl (k := 0) rfl (nI_add _ _) (by decide) rfl (fun ls hl => ?_)
    refine lv_goto (tgt := 15) hx hb dX0_init_37 (by decide) ?_
    refine lv_iload_n hx hb dX0_init_15 rfl (lv_at hl 0 rfl) ?_
    refine lv_bipush (v := 6) hx hb dX0_init_16 (by decide) ?_
    refine bn_ige (tgt := 40) (a := 0 + 1) (b := 6) hx hb rfl rfl (by omega) (by omega) dX0_init_18 (by decide) (fun c_5 => ?_) (fun c_5 => ?_)
    · -- 18 T
      exact absurd c_5 (by decide)
    · -- 18 F
      refine lv_aload_n hx hb dX0_init_21 rfl (lv_at hl 1 rfl) ?_
      refine top_get C S inX0_init_X0 rfl 0 rfl 0 (by decide) (by decide +kernel) rfl rfl dX0_init_22 ?_
      refine lv_iload_n hx hb dX0_init_25 rfl (lv_at hl 0 rfl) ?_
      refine top_new (K := RX2) (T := TX2) (N := 3) (ci := 2) (fs := [.null, .int 0, .int 0]) (cn := 4) (sn := 44) C S inX0_init_X2 tyX2 tyX2_ok rfl (by decide +kernel) (by decide +kernel) (by decide +kernel) (fun j hj => by rcases (show j = 0 ∨ j = 1 ∨ j = 2 by omega) with rfl | rfl | rfl <;> rfl) rfl rfl (Nat.le_of_ble_eq_true rfl) (Nat.le_of_ble_eq_true rfl) dX0_init_26 (fun n_6 H S => ?_)
      have S : ST g A ss H locs [(h, ob 0 [.ref n_1, .int 0, .int 0]), (n_1, aO g 6 (va_up (fun _ => none) 0 (some n_3))), (n_3, ob 2 [.ref n_4, .int 1, .int 1]), (n_4, aI g 32 f0X2), (n_6, ob 2 [.null, .int 0, .int 0])] := S
      refine lv_dup hx hb dX0_init_29 rfl ?_
      refine after_C (wc := [(n_6, ob 2 [.null, .int 0, .int 0])]) (y := yX2_init) (cn := 5) (sn := 76) C S (va_runI (As := []) (rest := [.ref n_6, .int (nI (0 + 1)), .ref n_1]) C.1 (kX2_init l g n_6 H.size) (cwI 0 hts gX0_init_X2_init rfl rfl rfl (hts (.initialized RX2) (by decide +kernel)) (hts (.methodLink RX0 17 yX2_init) (by decide +kernel)) (hts (.instanceMethod yX2_init) (by decide +kernel)) rfl (by decide +kernel) ⟨Nat.le_of_ble_eq_true rfl, Nat.le_of_ble_eq_true rfl⟩) (prcS_at C S hAO [4] rfl (by decide)) rfl rfl hl.1 rfl (lv_room (Nat.le_of_ble_eq_true rfl)) dX0_init_30 ⟨Nat.le_of_ble_eq_true rfl, Nat.le_of_ble_eq_true rfl⟩) rfl rfl [4] [0, 1, 2, 3] rfl (wr := [(h, ob 0 [.ref n_1, .int 0, .int 0]), (n_1, aO g 6 (va_up (fun _ => none) 0 (some n_3))), (n_3, ob 2 [.ref n_4, .int 1, .int 1]), (n_4, aI g 32 f0X2)]) rfl (by decide) (by decide) (fun w0 H locs hq S => ?_)
      obtain ⟨n_7, rfl⟩ := hq
      have S : ST g A ss H locs [(h, ob 0 [.ref n_1, .int 0, .int 0]), (n_1, aO g 6 (va_up (fun _ => none) 0 (some n_3))), (n_3, ob 2 [.ref n_4, .int 1, .int 1]), (n_4, aI g 32 f0X2), (n_6, ob 2 [.ref n_7, .int 1, .int 1]), (n_7, aI g 32 f0X2)] := S
      refine top_ost C S 1 rfl 4 rfl (j := (0 + 1)) rfl (by decide) (by decide) dX0_init_33 (fun H locs S => ?_)
      have S : ST g A ss H locs [(h, ob 0 [.ref n_1, .int 0, .int 0]), (n_1, aO g 6 (va_up (va_up (fun _ => none) 0 (some n_3)) (0 + 1) (some n_6))), (n_3, ob 2 [.ref n_4, .int 1, .int 1]), (n_4, aI g 32 f0X2), (n_6, ob 2 [.ref n_7, .int 1, .int 1]), (n_7, aI g 32 f0X2)] := S
      refine lv_iinc (v := nI ((0 + 1) + 1)) (lv' := [(1, .int (nI ((0 + 1) + 1))), (0, .ref h)]) hx hb dX0_init_34 hl (k := 0) rfl (nI_add _ _) (by decide) rfl (fun ls hl => ?_)
      refine lv_goto (tgt := 15) hx hb dX0_init_37 (by decide) ?_
      refine lv_iload_n hx hb dX0_init_15 rfl (lv_at hl 0 rfl) ?_
      refine lv_bipush (v := 6) hx hb dX0_init_16 (by decide) ?_
      refine bn_ige (tgt := 40) (a := (0 + 1) + 1) (b := 6) hx hb rfl rfl (by omega) (by omega) dX0_init_18 (by decide) (fun c_8 => ?_) (fun c_8 => ?_)
      · -- 18 T
        exact absurd c_8 (by decide)
      · -- 18 F
        refine lv_aload_n hx hb dX0_init_21 rfl (lv_at hl 1 rfl) ?_
        refine top_get C S inX0_init_X0 rfl 0 rfl 0 (by decide) (by decide +kernel) rfl rfl dX0_init_22 ?_
        refine lv_iload_n hx hb dX0_init_25 rfl (lv_at hl 0 rfl) ?_
        refine top_new (K := RX2) (T := TX2) (N := 3) (ci := 2) (fs := [.null, .int 0, .int 0]) (cn := 6) (sn := 79) C S inX0_init_X2 tyX2 tyX2_ok rfl (by decide +kernel) (by decide +kernel) (by decide +kernel) (fun j hj => by rcases (show j = 0 ∨ j = 1 ∨ j = 2 by omega) with rfl | rfl | rfl <;> rfl) rfl rfl (Nat.le_of_ble_eq_true rfl) (Nat.le_of_ble_eq_true rfl) dX0_init_26 (fun n_9 H S => ?_)
        have S : ST g A ss H locs [(h, ob 0 [.ref n_1, .int 0, .int 0]), (n_1, aO g 6 (va_up (va_up (fun _ => none) 0 (some n_3)) (0 + 1) (some n_6))), (n_3, ob 2 [.ref n_4, .int 1, .int 1]), (n_4, aI g 32 f0X2), (n_6, ob 2 [.ref n_7, .int 1, .int 1]), (n_7, aI g 32 f0X2), (n_9, ob 2 [.null, .int 0, .int 0])] := S
        refine lv_dup hx hb dX0_init_29 rfl ?_
        refine after_C (wc := [(n_9, ob 2 [.null, .int 0, .int 0])]) (y := yX2_init) (cn := 7) (sn := 111) C S (va_runI (As := []) (rest := [.ref n_9, .int (nI ((0 + 1) + 1)), .ref n_1]) C.1 (kX2_init l g n_9 H.size) (cwI 0 hts gX0_init_X2_init rfl rfl rfl (hts (.initialized RX2) (by decide +kernel)) (hts (.methodLink RX0 17 yX2_init) (by decide +kernel)) (hts (.instanceMethod yX2_init) (by decide +kernel)) rfl (by decide +kernel) ⟨Nat.le_of_ble_eq_true rfl, Nat.le_of_ble_eq_true rfl⟩) (prcS_at C S hAO [6] rfl (by decide)) rfl rfl hl.1 rfl (lv_room (Nat.le_of_ble_eq_true rfl)) dX0_init_30 ⟨Nat.le_of_ble_eq_true rfl, Nat.le_of_ble_eq_true rfl⟩) rfl rfl [6] [0, 1, 2, 3, 4, 5] rfl (wr := [(h, ob 0 [.ref n_1, .int 0, .int 0]), (n_1, aO g 6 (va_up (va_up (fun _ => none) 0 (some n_3)) (0 + 1) (some n_6))), (n_3, ob 2 [.ref n_4, .int 1, .int 1]), (n_4, aI g 32 f0X2), (n_6, ob 2 [.ref n_7, .int 1, .int 1]), (n_7, aI g 32 f0X2)]) rfl (by decide) (by decide) (fun w0 H locs hq S => ?_)
        obtain ⟨n_10, rfl⟩ := hq
        have S : ST g A ss H locs [(h, ob 0 [.ref n_1, .int 0, .int 0]), (n_1, aO g 6 (va_up (va_up (fun _ => none) 0 (some n_3)) (0 + 1) (some n_6))), (n_3, ob 2 [.ref n_4, .int 1, .int 1]), (n_4, aI g 32 f0X2), (n_6, ob 2 [.ref n_7, .int 1, .int 1]), (n_7, aI g 32 f0X2), (n_9, ob 2 [.ref n_10, .int 1, .int 1]), (n_10, aI g 32 f0X2)] := S
        refine top_ost C S 1 rfl 6 rfl (j := ((0 + 1) + 1)) rfl (by decide) (by decide) dX0_init_33 (fun H locs S => ?_)
        have S : ST g A ss H locs [(h, ob 0 [.ref n_1, .int 0, .int 0]), (n_1, aO g 6 (va_up (va_up (va_up (fun _ => none) 0 (some n_3)) (0 + 1) (some n_6)) ((0 + 1) + 1) (some n_9))), (n_3, ob 2 [.ref n_4, .int 1, .int 1]), (n_4, aI g 32 f0X2), (n_6, ob 2 [.ref n_7, .int 1, .int 1]), (n_7, aI g 32 f0X2), (n_9, ob 2 [.ref n_10, .int 1, .int 1]), (n_10, aI g 32 f0X2)] := S
        refine lv_iinc (v := nI (((0 + 1) + 1) + 1)) (lv' := [(1, .int (nI (((0 + 1) + 1) + 1))), (0, .ref h)]) hx hb dX0_init_34 hl (k := 0) rfl (nI_add _ _) (by decide) rfl (fun ls hl => ?_)
        refine lv_goto (tgt := 15) hx hb dX0_init_37 (by decide) ?_
        refine lv_iload_n hx hb dX0_init_15 rfl (lv_at hl 0 rfl) ?_
        refine lv_bipush (v := 6) hx hb dX0_init_16 (by decide) ?_
        refine bn_ige (tgt := 40) (a := ((0 + 1) + 1) + 1) (b := 6) hx hb rfl rfl (by omega) (by omega) dX0_init_18 (by decide) (fun c_11 => ?_) (fun c_11 => ?_)
        · -- 18 T
          exact absurd c_11 (by decide)
        · -- 18 F
          refine lv_aload_n hx hb dX0_init_21 rfl (lv_at hl 1 rfl) ?_
          refine top_get C S inX0_init_X0 rfl 0 rfl 0 (by decide) (by decide +kernel) rfl rfl dX0_init_22 ?_
          refine lv_iload_n hx hb dX0_init_25 rfl (lv_at hl 0 rfl) ?_
          refine top_new (K := RX2) (T := TX2) (N := 3) (ci := 2) (fs := [.null, .int 0, .int 0]) (cn := 8) (sn := 114) C S inX0_init_X2 tyX2 tyX2_ok rfl (by decide +kernel) (by decide +kernel) (by decide +kernel) (fun j hj => by rcases (show j = 0 ∨ j = 1 ∨ j = 2 by omega) with rfl | rfl | rfl <;> rfl) rfl rfl (Nat.le_of_ble_eq_true rfl) (Nat.le_of_ble_eq_true rfl) dX0_init_26 (fun n_12 H S => ?_)
          have S : ST g A ss H locs [(h, ob 0 [.ref n_1, .int 0, .int 0]), (n_1, aO g 6 (va_up (va_up (va_up (fun _ => none) 0 (some n_3)) (0 + 1) (some n_6)) ((0 + 1) + 1) (some n_9))), (n_3, ob 2 [.ref n_4, .int 1, .int 1]), (n_4, aI g 32 f0X2), (n_6, ob 2 [.ref n_7, .int 1, .int 1]), (n_7, aI g 32 f0X2), (n_9, ob 2 [.ref n_10, .int 1, .int 1]), (n_10, aI g 32 f0X2), (n_12, ob 2 [.null, .int 0, .int 0])] := S
          refine lv_dup hx hb dX0_init_29 rfl ?_
          refine after_C (wc := [(n_12, ob 2 [.null, .int 0, .int 0])]) (y := yX2_init) (cn := 9) (sn := 146) C S (va_runI (As := []) (rest := [.ref n_12, .int (nI (((0 + 1) + 1) + 1)), .ref n_1]) C.1 (kX2_init l g n_12 H.size) (cwI 0 hts gX0_init_X2_init rfl rfl rfl (hts (.initialized RX2) (by decide +kernel)) (hts (.methodLink RX0 17 yX2_init) (by decide +kernel)) (hts (.instanceMethod yX2_init) (by decide +kernel)) rfl (by decide +kernel) ⟨Nat.le_of_ble_eq_true rfl, Nat.le_of_ble_eq_true rfl⟩) (prcS_at C S hAO [8] rfl (by decide)) rfl rfl hl.1 rfl (lv_room (Nat.le_of_ble_eq_true rfl)) dX0_init_30 ⟨Nat.le_of_ble_eq_true rfl, Nat.le_of_ble_eq_true rfl⟩) rfl rfl [8] [0, 1, 2, 3, 4, 5, 6, 7] rfl (wr := [(h, ob 0 [.ref n_1, .int 0, .int 0]), (n_1, aO g 6 (va_up (va_up (va_up (fun _ => none) 0 (some n_3)) (0 + 1) (some n_6)) ((0 + 1) + 1) (some n_9))), (n_3, ob 2 [.ref n_4, .int 1, .int 1]), (n_4, aI g 32 f0X2), (n_6, ob 2 [.ref n_7, .int 1, .int 1]), (n_7, aI g 32 f0X2), (n_9, ob 2 [.ref n_10, .int 1, .int 1]), (n_10, aI g 32 f0X2)]) rfl (by decide) (by decide) (fun w0 H locs hq S => ?_)
          obtain ⟨n_13, rfl⟩ := hq
          have S : ST g A ss H locs [(h, ob 0 [.ref n_1, .int 0, .int 0]), (n_1, aO g 6 (va_up (va_up (va_up (fun _ => none) 0 (some n_3)) (0 + 1) (some n_6)) ((0 + 1) + 1) (some n_9))), (n_3, ob 2 [.ref n_4, .int 1, .int 1]), (n_4, aI g 32 f0X2), (n_6, ob 2 [.ref n_7, .int 1, .int 1]), (n_7, aI g 32 f0X2), (n_9, ob 2 [.ref n_10, .int 1, .int 1]), (n_10, aI g 32 f0X2), (n_12, ob 2 [.ref n_13, .int 1, .int 1]), (n_13, aI g 32 f0X2)] := S
          refine top_ost C S 1 rfl 8 rfl (j := (((0 + 1) + 1) + 1)) rfl (by decide) (by decide) dX0_init_33 (fun H locs S => ?_)
          have S : ST g A ss H locs [(h, ob 0 [.ref n_1, .int 0, .int 0]), (n_1, aO g 6 (va_up (va_up (va_up (va_up (fun _ => none) 0 (some n_3)) (0 + 1) (some n_6)) ((0 + 1) + 1) (some n_9)) (((0 + 1) + 1) + 1) (some n_12))), (n_3, ob 2 [.ref n_4, .int 1, .int 1]), (n_4, aI g 32 f0X2), (n_6, ob 2 [.ref n_7, .int 1, .int 1]), (n_7, aI g 32 f0X2), (n_9, ob 2 [.ref n_10, .int 1, .int 1]), (n_10, aI g 32 f0X2), (n_12, ob 2 [.ref n_13, .int 1, .int 1]), (n_13, aI g 32 f0X2)] := S
          refine lv_iinc (v := nI ((((0 + 1) + 1) + 1) + 1)) (lv' := [(1, .int (nI ((((0 + 1) + 1) + 1) + 1))), (0, .ref h)]) hx hb dX0_init_34 hl (k := 0) rfl (nI_add _ _) (by decide) rfl (fun ls hl => ?_)
          refine lv_goto (tgt := 15) hx hb dX0_init_37 (by decide) ?_
          refine lv_iload_n hx hb dX0_init_15 rfl (lv_at hl 0 rfl) ?_
          refine lv_bipush (v := 6) hx hb dX0_init_16 (by decide) ?_
          refine bn_ige (tgt := 40) (a := (((0 + 1) + 1) + 1) + 1) (b := 6) hx hb rfl rfl (by omega) (by omega) dX0_init_18 (by decide) (fun c_14 => ?_) (fun c_14 => ?_)
          · -- 18 T
            exact absurd c_14 (by decide)
          · -- 18 F
            refine lv_aload_n hx hb dX0_init_21 rfl (lv_at hl 1 rfl) ?_
            refine top_get C S inX0_init_X0 rfl 0 rfl 0 (by decide) (by decide +kernel) rfl rfl dX0_init_22 ?_
            refine lv_iload_n hx hb dX0_init_25 rfl (lv_at hl 0 rfl) ?_
            refine top_new (K := RX2) (T := TX2) (N := 3) (ci := 2) (fs := [.null, .int 0, .int 0]) (cn := 10) (sn := 149) C S inX0_init_X2 tyX2 tyX2_ok rfl (by decide +kernel) (by decide +kernel) (by decide +kernel) (fun j hj => by rcases (show j = 0 ∨ j = 1 ∨ j = 2 by omega) with rfl | rfl | rfl <;> rfl) rfl rfl (Nat.le_of_ble_eq_true rfl) (Nat.le_of_ble_eq_true rfl) dX0_init_26 (fun n_15 H S => ?_)
            have S : ST g A ss H locs [(h, ob 0 [.ref n_1, .int 0, .int 0]), (n_1, aO g 6 (va_up (va_up (va_up (va_up (fun _ => none) 0 (some n_3)) (0 + 1) (some n_6)) ((0 + 1) + 1) (some n_9)) (((0 + 1) + 1) + 1) (some n_12))), (n_3, ob 2 [.ref n_4, .int 1, .int 1]), (n_4, aI g 32 f0X2), (n_6, ob 2 [.ref n_7, .int 1, .int 1]), (n_7, aI g 32 f0X2), (n_9, ob 2 [.ref n_10, .int 1, .int 1]), (n_10, aI g 32 f0X2), (n_12, ob 2 [.ref n_13, .int 1, .int 1]), (n_13, aI g 32 f0X2), (n_15, ob 2 [.null, .int 0, .int 0])] := S
            refine lv_dup hx hb dX0_init_29 rfl ?_
            refine after_C (wc := [(n_15, ob 2 [.null, .int 0, .int 0])]) (y := yX2_init) (cn := 11) (sn := 181) C S (va_runI (As := []) (rest := [.ref n_15, .int (nI ((((0 + 1) + 1) + 1) + 1)), .ref n_1]) C.1 (kX2_init l g n_15 H.size) (cwI 0 hts gX0_init_X2_init rfl rfl rfl (hts (.initialized RX2) (by decide +kernel)) (hts (.methodLink RX0 17 yX2_init) (by decide +kernel)) (hts (.instanceMethod yX2_init) (by decide +kernel)) rfl (by decide +kernel) ⟨Nat.le_of_ble_eq_true rfl, Nat.le_of_ble_eq_true rfl⟩) (prcS_at C S hAO [10] rfl (by decide)) rfl rfl hl.1 rfl (lv_room (Nat.le_of_ble_eq_true rfl)) dX0_init_30 ⟨Nat.le_of_ble_eq_true rfl, Nat.le_of_ble_eq_true rfl⟩) rfl rfl [10] [0, 1, 2, 3, 4, 5, 6, 7, 8, 9] rfl (wr := [(h, ob 0 [.ref n_1, .int 0, .int 0]), (n_1, aO g 6 (va_up (va_up (va_up (va_up (fun _ => none) 0 (some n_3)) (0 + 1) (some n_6)) ((0 + 1) + 1) (some n_9)) (((0 + 1) + 1) + 1) (some n_12))), (n_3, ob 2 [.ref n_4, .int 1, .int 1]), (n_4, aI g 32 f0X2), (n_6, ob 2 [.ref n_7, .int 1, .int 1]), (n_7, aI g 32 f0X2), (n_9, ob 2 [.ref n_10, .int 1, .int 1]), (n_10, aI g 32 f0X2), (n_12, ob 2 [.ref n_13, .int 1, .int 1]), (n_13, aI g 32 f0X2)]) rfl (by decide) (by decide) (fun w0 H locs hq S => ?_)
            obtain ⟨n_16, rfl⟩ := hq
            have S : ST g A ss H locs [(h, ob 0 [.ref n_1, .int 0, .int 0]), (n_1, aO g 6 (va_up (va_up (va_up (va_up (fun _ => none) 0 (some n_3)) (0 + 1) (some n_6)) ((0 + 1) + 1) (some n_9)) (((0 + 1) + 1) + 1) (some n_12))), (n_3, ob 2 [.ref n_4, .int 1, .int 1]), (n_4, aI g 32 f0X2), (n_6, ob 2 [.ref n_7, .int 1, .int 1]), (n_7, aI g 32 f0X2), (n_9, ob 2 [.ref n_10, .int 1, .int 1]), (n_10, aI g 32 f0X2), (n_12, ob 2 [.ref n_13, .int 1, .int 1]), (n_13, aI g 32 f0X2), (n_15, ob 2 [.ref n_16, .int 1, .int 1]), (n_16, aI g 32 f0X2)] := S
            refine top_ost C S 1 rfl 10 rfl (j := ((((0 + 1) + 1) + 1) + 1)) rfl (by decide) (by decide) dX0_init_33 (fun H locs S => ?_)
            have S : ST g A ss H locs [(h, ob 0 [.ref n_1, .int 0, .int 0]), (n_1, aO g 6 (va_up (va_up (va_up (va_up (va_up (fun _ => none) 0 (some n_3)) (0 + 1) (some n_6)) ((0 + 1) + 1) (some n_9)) (((0 + 1) + 1) + 1) (some n_12)) ((((0 + 1) + 1) + 1) + 1) (some n_15))), (n_3, ob 2 [.ref n_4, .int 1, .int 1]), (n_4, aI g 32 f0X2), (n_6, ob 2 [.ref n_7, .int 1, .int 1]), (n_7, aI g 32 f0X2), (n_9, ob 2 [.ref n_10, .int 1, .int 1]), (n_10, aI g 32 f0X2), (n_12, ob 2 [.ref n_13, .int 1, .int 1]), (n_13, aI g 32 f0X2), (n_15, ob 2 [.ref n_16, .int 1, .int 1]), (n_16, aI g 32 f0X2)] := S
            refine lv_iinc (v := nI (((((0 + 1) + 1) + 1) + 1) + 1)) (lv' := [(1, .int (nI (((((0 + 1) + 1) + 1) + 1) + 1))), (0, .ref h)]) hx hb dX0_init_34 hl (k := 0) rfl (nI_add _ _) (by decide) rfl (fun ls hl => ?_)
            refine lv_goto (tgt := 15) hx hb dX0_init_37 (by decide) ?_
            refine lv_iload_n hx hb dX0_init_15 rfl (lv_at hl 0 rfl) ?_
            refine lv_bipush (v := 6) hx hb dX0_init_16 (by decide) ?_
            refine bn_ige (tgt := 40) (a := ((((0 + 1) + 1) + 1) + 1) + 1) (b := 6) hx hb rfl rfl (by omega) (by omega) dX0_init_18 (by decide) (fun c_17 => ?_) (fun c_17 => ?_)
            · -- 18 T
              exact absurd c_17 (by decide)
            · -- 18 F
              refine lv_aload_n hx hb dX0_init_21 rfl (lv_at hl 1 rfl) ?_
              refine top_get C S inX0_init_X0 rfl 0 rfl 0 (by decide) (by decide +kernel) rfl rfl dX0_init_22 ?_
              refine lv_iload_n hx hb dX0_init_25 rfl (lv_at hl 0 rfl) ?_
              refine top_new (K := RX2) (T := TX2) (N := 3) (ci := 2) (fs := [.null, .int 0, .int 0]) (cn := 12) (sn := 184) C S inX0_init_X2 tyX2 tyX2_ok rfl (by decide +kernel) (by decide +kernel) (by decide +kernel) (fun j hj => by rcases (show j = 0 ∨ j = 1 ∨ j = 2 by omega) with rfl | rfl | rfl <;> rfl) rfl rfl (Nat.le_of_ble_eq_true rfl) (Nat.le_of_ble_eq_true rfl) dX0_init_26 (fun n_18 H S => ?_)
              have S : ST g A ss H locs [(h, ob 0 [.ref n_1, .int 0, .int 0]), (n_1, aO g 6 (va_up (va_up (va_up (va_up (va_up (fun _ => none) 0 (some n_3)) (0 + 1) (some n_6)) ((0 + 1) + 1) (some n_9)) (((0 + 1) + 1) + 1) (some n_12)) ((((0 + 1) + 1) + 1) + 1) (some n_15))), (n_3, ob 2 [.ref n_4, .int 1, .int 1]), (n_4, aI g 32 f0X2), (n_6, ob 2 [.ref n_7, .int 1, .int 1]), (n_7, aI g 32 f0X2), (n_9, ob 2 [.ref n_10, .int 1, .int 1]), (n_10, aI g 32 f0X2), (n_12, ob 2 [.ref n_13, .int 1, .int 1]), (n_13, aI g 32 f0X2), (n_15, ob 2 [.ref n_16, .int 1, .int 1]), (n_16, aI g 32 f0X2), (n_18, ob 2 [.null, .int 0, .int 0])] := S
              refine lv_dup hx hb dX0_init_29 rfl ?_
              refine after_C (wc := [(n_18, ob 2 [.null, .int 0, .int 0])]) (y := yX2_init) (cn := 13) (sn := 216) C S (va_runI (As := []) (rest := [.ref n_18, .int (nI (((((0 + 1) + 1) + 1) + 1) + 1)), .ref n_1]) C.1 (kX2_init l g n_18 H.size) (cwI 0 hts gX0_init_X2_init rfl rfl rfl (hts (.initialized RX2) (by decide +kernel)) (hts (.methodLink RX0 17 yX2_init) (by decide +kernel)) (hts (.instanceMethod yX2_init) (by decide +kernel)) rfl (by decide +kernel) ⟨Nat.le_of_ble_eq_true rfl, Nat.le_of_ble_eq_true rfl⟩) (prcS_at C S hAO [12] rfl (by decide)) rfl rfl hl.1 rfl (lv_room (Nat.le_of_ble_eq_true rfl)) dX0_init_30 ⟨Nat.le_of_ble_eq_true rfl, Nat.le_of_ble_eq_true rfl⟩) rfl rfl [12] [0, 1, 2, 3, 4, 5, 6, 7, 8, 9, 10, 11] rfl (wr := [(h, ob 0 [.ref n_1, .int 0, .int 0]), (n_1, aO g 6 (va_up (va_up (va_up (va_up (va_up (fun _ => none) 0 (some n_3)) (0 + 1) (some n_6)) ((0 + 1) + 1) (some n_9)) (((0 + 1) + 1) + 1) (some n_12)) ((((0 + 1) + 1) + 1) + 1) (some n_15))), (n_3, ob 2 [.ref n_4, .int 1, .int 1]), (n_4, aI g 32 f0X2), (n_6, ob 2 [.ref n_7, .int 1, .int 1]), (n_7, aI g 32 f0X2), (n_9, ob 2 [.ref n_10, .int 1, .int 1]), (n_10, aI g 32 f0X2), (n_12, ob 2 [.ref n_13, .int 1, .int 1]), (n_13, aI g 32 f0X2), (n_15, ob 2 [.ref n_16, .int 1, .int 1]), (n_16, aI g 32 f0X2)]) rfl (by decide) (by decide) (fun w0 H locs hq S => ?_)
              obtain ⟨n_19, rfl⟩ := hq
              have S : ST g A ss H locs [(h, ob 0 [.ref n_1, .int 0, .int 0]), (n_1, aO g 6 (va_up (va_up (va_up (va_up (va_up (fun _ => none) 0 (some n_3)) (0 + 1) (some n_6)) ((0 + 1) + 1) (some n_9)) (((0 + 1) + 1) + 1) (some n_12)) ((((0 + 1) + 1) + 1) + 1) (some n_15))), (n_3, ob 2 [.ref n_4, .int 1, .int 1]), (n_4, aI g 32 f0X2), (n_6, ob 2 [.ref n_7, .int 1, .int 1]), (n_7, aI g 32 f0X2), (n_9, ob 2 [.ref n_10, .int 1, .int 1]), (n_10, aI g 32 f0X2), (n_12, ob 2 [.ref n_13, .int 1, .int 1]), (n_13, aI g 32 f0X2), (n_15, ob 2 [.ref n_16, .int 1, .int 1]), (n_16, aI g 32 f0X2), (n_18, ob 2 [.ref n_19, .int 1, .int 1]), (n_19, aI g 32 f0X2)] := S
              refine top_ost C S 1 rfl 12 rfl (j := (((((0 + 1) + 1) + 1) + 1) + 1)) rfl (by decide) (by decide) dX0_init_33 (fun H locs S => ?_)
              have S : ST g A ss H locs [(h, ob 0 [.ref n_1, .int 0, .int 0]), (n_1, aO g 6 (va_up (va_up (va_up (va_up (va_up (va_up (fun _ => none) 0 (some n_3)) (0 + 1) (some n_6)) ((0 + 1) + 1) (some n_9)) (((0 + 1) + 1) + 1) (some n_12)) ((((0 + 1) + 1) + 1) + 1) (some n_15)) (((((0 + 1) + 1) + 1) + 1) + 1) (some n_18))), (n_3, ob 2 [.ref n_4, .int 1, .int 1]), (n_4, aI g 32 f0X2), (n_6, ob 2 [.ref n_7, .int 1, .int 1]), (n_7, aI g 32 f0X2), (n_9, ob 2 [.ref n_10, .int 1, .int 1]), (n_10, aI g 32 f0X2), (n_12, ob 2 [.ref n_13, .int 1, .int 1]), (n_13, aI g 32 f0X2), (n_15, ob 2 [.ref n_16, .int 1, .int 1]), (n_16, aI g 32 f0X2), (n_18, ob 2 [.ref n_19, .int 1, .int 1]), (n_19, aI g 32 f0X2)] := S
              refine lv_iinc (v := nI ((((((0 + 1) + 1) + 1) + 1) + 1) + 1)) (lv' := [(1, .int (nI ((((((0 + 1) + 1) + 1) + 1) + 1) + 1))), (0, .ref h)]) hx hb dX0_init_34 hl (k := 0) rfl (nI_add _ _) (by decide) rfl (fun ls hl => ?_)
              refine lv_goto (tgt := 15) hx hb dX0_init_37 (by decide) ?_
              refine lv_iload_n hx hb dX0_init_15 rfl (lv_at hl 0 rfl) ?_
              refine lv_bipush (v := 6) hx hb dX0_init_16 (by decide) ?_
              refine bn_ige (tgt := 40) (a := (((((0 + 1) + 1) + 1) + 1) + 1) + 1) (b := 6) hx hb rfl rfl (by omega) (by omega) dX0_init_18 (by decide) (fun c_20 => ?_) (fun c_20 => ?_)
              · -- 18 T
                exact ret_C C S hr dX0_init_40 ⟨n_1, n_3, n_4, n_6, n_7, n_9, n_10, n_12, n_13, n_15, n_16, n_18, n_19, rfl⟩
              · -- 18 F
                exact absurd c_20 (by decide)

theorem inX1_init_X1 : ∀ w ∈ wsX10, w ∈ wsX1_init := by decide +kernel
theorem inX1_init_X2 : ∀ w ∈ wsX20, w ∈ wsX1_init := by decide +kernel
set_option maxRecDepth 100000 in
set_option maxHeartbeats 4000000 in
theorem kX1_init (l : Launch) (g : GG) (h : Nat) : KC l g yX1_init wsX1_init 2 32 5 72 [.ref h] [(h, ob 1 [.null, .int 0])] (fun (w' : va_W) => ∃ (n_1 n_3 n_4 n_6 n_7 : Nat), w' = [(h, ob 1 [.ref n_1, .int 0]), (n_1, aO g 2 (va_up (va_up (fun _ => none) 0 (some n_3)) (0 + 1) (some n_6))), (n_3, ob 2 [.ref n_4, .int 1, .int 1]), (n_4, aI g 32 f0X2), (n_6, ob 2 [.ref n_7, .int 1, .int 1]), (n_7, aI g 32 f0X2)]) := by
  refine kC_of (cc := cX1_init) (maxL := 2) (by decide) rfl rfl (Nat.le_of_ble_eq_true rfl) ?_
  intro pp ee ss mm bel mth cd A ls C S hr hl hAO hin
  obtain ⟨hx, hb, hml, hown, hts⟩ := id C.1
  have hl : lv_has ls 2 [(0, .ref h)] := hl
  obtain ⟨H, hH⟩ : ∃ H, H = ss.heap := ⟨_, rfl⟩
  obtain ⟨locs, hL0⟩ : ∃ L : List Loc, L = [] := ⟨_, rfl⟩
  rw [← hH, ← hL0] at S ⊢
  refine lv_aload_n hx hb dX1_init_0 rfl (lv_at hl 0 rfl) ?_
  refine top_obj C hl.1 (hts (.methodLink RX1 3 objectInit) (by decide +kernel)) (hts (.instanceMethod objectInit) (by decide +kernel)) (hts (.code objectInit ⟨#[0xb1]⟩ 1 none) (by decide +kernel)) dX1_init_1 (Nat.le_of_ble_eq_true rfl) (Nat.le_of_ble_eq_true rfl) ?_
  refine lv_aload_n hx hb dX1_init_4 rfl (lv_at hl 0 rfl) ?_
  refine lv_iconst (v := 2) hx hb dX1_init_5 (by decide) ?_
  refine top_newO (cn := 1) (sn := 2) (N' := 2) C S hAO (hts (.classLink RX1 9 RX2) (by decide +kernel)) rfl (by decide) rfl rfl (Nat.le_of_ble_eq_true rfl) (Nat.le_of_ble_eq_true rfl) dX1_init_6 (fun n_1 H S => ?_)
  have S : ST g A ss H locs [(h, ob 1 [.null, .int 0]), (n_1, aO g 2 (fun _ => none))] := S
  refine top_putF (v := .ref n_1) (ty := tyX1 0) C S inX1_init_X1 tyX1 tyX1_ok nmX1 rfl 0 rfl 0 (by decide) (by decide +kernel) rfl hin rfl (tyX1_ok 0 (by decide)) (by rfl) (by rfl) (Nat.le_of_ble_eq_true rfl) dX1_init_9 (fun H locs S => ?_)
  have S : ST g A ss H locs [(h, ob 1 [.ref n_1, .int 0]), (n_1, aO g 2 (fun _ => none))] := S
  refine lv_iconst (v := 0) hx hb dX1_init_12 (by decide) ?_
  refine lv_istore_n (lv' := [(1, .int 0), (0, .ref h)]) hx hb dX1_init_13 rfl hl (by decide) rfl (fun ls hl => ?_)
  refine lv_iload_n hx hb dX1_init_14 rfl (lv_at hl 0 rfl) ?_
  refine lv_iconst (v := 2) hx hb dX1_init_15 (by decide) ?_
  refine bn_ige (tgt := 38) (a := 0) (b := 2) hx hb rfl rfl (by omega) (by omega) dX1_init_16 (by decide) (fun c_2 => ?_) (fun c_2 => ?_)
  · -- 16 T
    exact absurd c_2 (by decide)
  · -- 16 F
    refine lv_aload_n hx hb dX1_init_19 rfl (lv_at hl 1 rfl) ?_
    refine top_get C S inX1_init_X1 rfl 0 rfl 0 (by decide) (by decide +kernel) rfl rfl dX1_init_20 ?_
    refine lv_iload_n hx hb dX1_init_23 rfl (lv_at hl 0 rfl) ?_
    refine top_new (K := RX2) (T := TX2) (N := 3) (ci := 2) (fs := [.null, .int 0, .int 0]) (cn := 2) (sn := 5) C S inX1_init_X2 tyX2 tyX2_ok rfl (by decide +kernel) (by decide +kernel) (by decide +kernel) (fun j hj => by rcases (show j = 0 ∨ j = 1 ∨ j = 2 by omega) with rfl | rfl | rfl <;> rfl) rfl rfl (Nat.le_of_ble_eq_true rfl) (Nat.le_of_ble_eq_true rfl) dX1_init_24 (fun n_3 H S => ?_)
    have S : ST g A ss H locs [(h, ob 1 [.ref n_1, .int 0]), (n_1, aO g 2 (fun _ => none)), (n_3, ob 2 [.null, .int 0, .int 0])] := S
    refine lv_dup hx hb dX1_init_27 rfl ?_
    refine after_C (wc := [(n_3, ob 2 [.null, .int 0, .int 0])]) (y := yX2_init) (cn := 3) (sn := 37) C S (va_runI (As := []) (rest := [.ref n_3, .int 0, .ref n_1]) C.1 (kX2_init l g n_3 H.size) (cwI 0 hts gX1_init_X2_init rfl rfl rfl (hts (.initialized RX2) (by decide +kernel)) (hts (.methodLink RX1 17 yX2_init) (by decide +kernel)) (hts (.instanceMethod yX2_init) (by decide +kernel)) rfl (by decide +kernel) ⟨Nat.le_of_ble_eq_true rfl, Nat.le_of_ble_eq_true rfl⟩) (prcS_at C S hAO [2] rfl (by decide)) rfl rfl hl.1 rfl (lv_room (Nat.le_of_ble_eq_true rfl)) dX1_init_28 ⟨Nat.le_of_ble_eq_true rfl, Nat.le_of_ble_eq_true rfl⟩) rfl rfl [2] [0, 1] rfl (wr := [(h, ob 1 [.ref n_1, .int 0]), (n_1, aO g 2 (fun _ => none))]) rfl (by decide) (by decide) (fun w0 H locs hq S => ?_)
    obtain ⟨n_4, rfl⟩ := hq
    have S : ST g A ss H locs [(h, ob 1 [.ref n_1, .int 0]), (n_1, aO g 2 (fun _ => none)), (n_3, ob 2 [.ref n_4, .int 1, .int 1]), (n_4, aI g 32 f0X2)] := S
    refine top_ost C S 1 rfl 2 rfl (j := 0) rfl (by decide) (by decide) dX1_init_31 (fun H locs S => ?_)
    have S : ST g A ss H locs [(h, ob 1 [.ref n_1, .int 0]), (n_1, aO g 2 (va_up (fun _ => none) 0 (some n_3))), (n_3, ob 2 [.ref n_4, .int 1, .int 1]), (n_4, aI g 32 f0X2)] := S
    refine lv_iinc (v := nI (0 + 1)) (lv' := [(1, .int (nI (0 + 1))), (0, .ref h)]) hx hb dX1_init_32 hl (k := 0) rfl (nI_add _ _) (by decide) rfl (fun ls hl => ?_)
    refine lv_goto (tgt := 14) hx hb dX1_init_35 (by decide) ?_
    refine lv_iload_n hx hb dX1_init_14 rfl (lv_at hl 0 rfl) ?_
    refine lv_iconst (v := 2) hx hb dX1_init_15 (by decide) ?_
    refine bn_ige (tgt := 38) (a := 0 + 1) (b := 2) hx hb rfl rfl (by omega) (by omega) dX1_init_16 (by decide) (fun c_5 => ?_) (fun c_5 => ?_)
    · -- 16 T
      exact absurd c_5 (by decide)
    · -- 16 F
      refine lv_aload_n hx hb dX1_init_19 rfl (lv_at hl 1 rfl) ?_
      refine top_get C S inX1_init_X1 rfl 0 rfl 0 (by decide) (by decide +kernel) rfl rfl dX1_init_20 ?_
      refine lv_iload_n hx hb dX1_init_23 rfl (lv_at hl 0 rfl) ?_
      refine top_new (K := RX2) (T := TX2) (N := 3) (ci := 2) (fs := [.null, .int 0, .int 0]) (cn := 4) (sn := 40) C S inX1_init_X2 tyX2 tyX2_ok rfl (by decide +kernel) (by decide +kernel) (by decide +kernel) (fun j hj => by rcases (show j = 0 ∨ j = 1 ∨ j = 2 by omega) with rfl | rfl | rfl <;> rfl) rfl rfl (Nat.le_of_ble_eq_true rfl) (Nat.le_of_ble_eq_true rfl) dX1_init_24 (fun n_6 H S => ?_)
      have S : ST g A ss H locs [(h, ob 1 [.ref n_1, .int 0]), (n_1, aO g 2 (va_up (fun _ => none) 0 (some n_3))), (n_3, ob 2 [.ref n_4, .int 1, .int 1]), (n_4, aI g 32 f0X2), (n_6, ob 2 [.null, .int 0, .int 0])] := S
      refine lv_dup hx hb dX1_init_27 rfl ?_
      refine after_C (wc := [(n_6, ob 2 [.null, .int 0, .int 0])]) (y := yX2_init) (cn := 5) (sn := 72) C S (va_runI (As := []) (rest := [.ref n_6, .int (nI (0 + 1)), .ref n_1]) C.1 (kX2_init l g n_6 H.size) (cwI 0 hts gX1_init_X2_init rfl rfl rfl (hts (.initialized RX2) (by decide +kernel)) (hts (.methodLink RX1 17 yX2_init) (by decide +kernel)) (hts (.instanceMethod yX2_init) (by decide +kernel)) rfl (by decide +kernel) ⟨Nat.le_of_ble_eq_true rfl, Nat.le_of_ble_eq_true rfl⟩) (prcS_at C S hAO [4] rfl (by decide)) rfl rfl hl.1 rfl (lv_room (Nat.le_of_ble_eq_true rfl)) dX1_init_28 ⟨Nat.le_of_ble_eq_true rfl, Nat.le_of_ble_eq_true rfl⟩) rfl rfl [4] [0, 1, 2, 3] rfl (wr := [(h, ob 1 [.ref n_1, .int 0]), (n_1, aO g 2 (va_up (fun _ => none) 0 (some n_3))), (n_3, ob 2 [.ref n_4, .int 1, .int 1]), (n_4, aI g 32 f0X2)]) rfl (by decide) (by decide) (fun w0 H locs hq S => ?_)
      obtain ⟨n_7, rfl⟩ := hq
      have S : ST g A ss H locs [(h, ob 1 [.ref n_1, .int 0]), (n_1, aO g 2 (va_up (fun _ => none) 0 (some n_3))), (n_3, ob 2 [.ref n_4, .int 1, .int 1]), (n_4, aI g 32 f0X2), (n_6, ob 2 [.ref n_7, .int 1, .int 1]), (n_7, aI g 32 f0X2)] := S
      refine top_ost C S 1 rfl 4 rfl (j := (0 + 1)) rfl (by decide) (by decide) dX1_init_31 (fun H locs S => ?_)
      have S : ST g A ss H locs [(h, ob 1 [.ref n_1, .int 0]), (n_1, aO g 2 (va_up (va_up (fun _ => none) 0 (some n_3)) (0 + 1) (some n_6))), (n_3, ob 2 [.ref n_4, .int 1, .int 1]), (n_4, aI g 32 f0X2), (n_6, ob 2 [.ref n_7, .int 1, .int 1]), (n_7, aI g 32 f0X2)] := S
      refine lv_iinc (v := nI ((0 + 1) + 1)) (lv' := [(1, .int (nI ((0 + 1) + 1))), (0, .ref h)]) hx hb dX1_init_32 hl (k := 0) rfl (nI_add _ _) (by decide) rfl (fun ls hl => ?_)
      refine lv_goto (tgt := 14) hx hb dX1_init_35 (by decide) ?_
      refine lv_iload_n hx hb dX1_init_14 rfl (lv_at hl 0 rfl) ?_
      refine lv_iconst (v := 2) hx hb dX1_init_15 (by decide) ?_
      refine bn_ige (tgt := 38) (a := (0 + 1) + 1) (b := 2) hx hb rfl rfl (by omega) (by omega) dX1_init_16 (by decide) (fun c_8 => ?_) (fun c_8 => ?_)
      · -- 16 T
        exact ret_C C S hr dX1_init_38 ⟨n_1, n_3, n_4, n_6, n_7, rfl⟩
      · -- 16 F
        exact absurd c_8 (by decide)

theorem inX3_init_X3 : ∀ w ∈ wsX30, w ∈ wsX3_init := by decide +kernel
set_option maxRecDepth 100000 in
set_option maxHeartbeats 4000000 in
theorem kX3_init (l : Launch) (g : GG) (h : Nat) : KC l g yX3_init wsX3_init 1 12 3 24 [.ref h] [(h, ob 3 [.null, .null, .null, .int 0, .int 0, .int 0, .int 0, .int 0])] (fun (w' : va_W) => ∃ (n_1 n_2 n_3 : Nat), w' = [(h, ob 3 [.ref n_1, .ref n_2, .ref n_3, .int 0, .int 0, .int 0, .int 0, .int 0]), (n_1, aI g 8 (fun _ => 0)), (n_2, aI g 8 (fun _ => 0)), (n_3, aI g 8 (fun _ => 0))]) := by
  refine kC_of (cc := cX3_init) (maxL := 1) (by decide) rfl rfl (Nat.le_of_ble_eq_true rfl) ?_
  intro pp ee ss mm bel mth cd A ls C S hr hl hAO hin
  obtain ⟨hx, hb, hml, hown, hts⟩ := id C.1
  have hl : lv_has ls 1 [(0, .ref h)] := hl
  obtain ⟨H, hH⟩ : ∃ H, H = ss.heap := ⟨_, rfl⟩
  obtain ⟨locs, hL0⟩ : ∃ L : List Loc, L = [] := ⟨_, rfl⟩
  rw [← hH, ← hL0] at S ⊢
  refine lv_aload_n hx hb dX3_init_0 rfl (lv_at hl 0 rfl) ?_
  refine top_obj C hl.1 (hts (.methodLink RX3 3 objectInit) (by decide +kernel)) (hts (.instanceMethod objectInit) (by decide +kernel)) (hts (.code objectInit ⟨#[0xb1]⟩ 1 none) (by decide +kernel)) dX3_init_1 (Nat.le_of_ble_eq_true rfl) (Nat.le_of_ble_eq_true rfl) ?_
  refine lv_aload_n hx hb dX3_init_4 rfl (lv_at hl 0 rfl) ?_
  refine lv_bipush (v := 8) hx hb dX3_init_5 (by decide) ?_
  refine top_newI (cn := 1) (sn := 8) (N' := 8) C S (hts (.arrayClass .int) (by decide +kernel)) rfl (by decide) rfl rfl (Nat.le_of_ble_eq_true rfl) (Nat.le_of_ble_eq_true rfl) dX3_init_7 (fun n_1 H S => ?_)
  have S : ST g A ss H locs [(h, ob 3 [.null, .null, .null, .int 0, .int 0, .int 0, .int 0, .int 0]), (n_1, aI g 8 (fun _ => 0))] := S
  refine top_putF (v := .ref n_1) (ty := tyX3 0) C S inX3_init_X3 tyX3 tyX3_ok nmX3 rfl 0 rfl 0 (by decide) (by decide +kernel) rfl hin rfl (tyX3_ok 0 (by decide)) (by rfl) (by rfl) (Nat.le_of_ble_eq_true rfl) dX3_init_9 (fun H locs S => ?_)
  have S : ST g A ss H locs [(h, ob 3 [.ref n_1, .null, .null, .int 0, .int 0, .int 0, .int 0, .int 0]), (n_1, aI g 8 (fun _ => 0))] := S
  refine lv_aload_n hx hb dX3_init_12 rfl (lv_at hl 0 rfl) ?_
  refine lv_bipush (v := 8) hx hb dX3_init_13 (by decide) ?_
  refine top_newI (cn := 2) (sn := 16) (N' := 8) C S (hts (.arrayClass .int) (by decide +kernel)) rfl (by decide) rfl rfl (Nat.le_of_ble_eq_true rfl) (Nat.le_of_ble_eq_true rfl) dX3_init_15 (fun n_2 H S => ?_)
  have S : ST g A ss H locs [(h, ob 3 [.ref n_1, .null, .null, .int 0, .int 0, .int 0, .int 0, .int 0]), (n_1, aI g 8 (fun _ => 0)), (n_2, aI g 8 (fun _ => 0))] := S
  refine top_putF (v := .ref n_2) (ty := tyX3 1) C S inX3_init_X3 tyX3 tyX3_ok nmX3 rfl 0 rfl 1 (by decide) (by decide +kernel) rfl hin rfl (tyX3_ok 1 (by decide)) (by rfl) (by rfl) (Nat.le_of_ble_eq_true rfl) dX3_init_17 (fun H locs S => ?_)
  have S : ST g A ss H locs [(h, ob 3 [.ref n_1, .ref n_2, .null, .int 0, .int 0, .int 0, .int 0, .int 0]), (n_1, aI g 8 (fun _ => 0)), (n_2, aI g 8 (fun _ => 0))] := S
  refine lv_aload_n hx hb dX3_init_20 rfl (lv_at hl 0 rfl) ?_
  refine lv_bipush (v := 8) hx hb dX3_init_21 (by decide) ?_
  refine top_newI (cn := 3) (sn := 24) (N' := 8) C S (hts (.arrayClass .int) (by decide +kernel)) rfl (by decide) rfl rfl (Nat.le_of_ble_eq_true rfl) (Nat.le_of_ble_eq_true rfl) dX3_init_23 (fun n_3 H S => ?_)
  have S : ST g A ss H locs [(h, ob 3 [.ref n_1, .ref n_2, .null, .int 0, .int 0, .int 0, .int 0, .int 0]), (n_1, aI g 8 (fun _ => 0)), (n_2, aI g 8 (fun _ => 0)), (n_3, aI g 8 (fun _ => 0))] := S
  refine top_putF (v := .ref n_3) (ty := tyX3 2) C S inX3_init_X3 tyX3 tyX3_ok nmX3 rfl 0 rfl 2 (by decide) (by decide +kernel) rfl hin rfl (tyX3_ok 2 (by decide)) (by rfl) (by rfl) (Nat.le_of_ble_eq_true rfl) dX3_init_25 (fun H locs S => ?_)
  have S : ST g A ss H locs [(h, ob 3 [.ref n_1, .ref n_2, .ref n_3, .int 0, .int 0, .int 0, .int 0, .int 0]), (n_1, aI g 8 (fun _ => 0)), (n_2, aI g 8 (fun _ => 0)), (n_3, aI g 8 (fun _ => 0))] := S
  exact ret_C C S hr dX3_init_28 ⟨n_1, n_2, n_3, rfl⟩

theorem inX4_init_X4 : ∀ w ∈ wsX40, w ∈ wsX4_init := by decide +kernel
set_option maxRecDepth 100000 in
set_option maxHeartbeats 4000000 in
theorem kX4_init (l : Launch) (g : GG) (h : Nat) : KC l g yX4_init wsX4_init 1 12 2 12 [.ref h] [(h, ob 4 [.null, .null, .int 0])] (fun (w' : va_W) => ∃ (n_1 n_2 : Nat), w' = [(h, ob 4 [.ref n_1, .ref n_2, .int 0]), (n_1, aI g 6 (fun _ => 0)), (n_2, aI g 6 (fun _ => 0))]) := by
  refine kC_of (cc := cX4_init) (maxL := 1) (by decide) rfl rfl (Nat.le_of_ble_eq_true rfl) ?_
  intro pp ee ss mm bel mth cd A ls C S hr hl hAO hin
  obtain ⟨hx, hb, hml, hown, hts⟩ := id C.1
  have hl : lv_has ls 1 [(0, .ref h)] := hl
  obtain ⟨H, hH⟩ : ∃ H, H = ss.heap := ⟨_, rfl⟩
  obtain ⟨locs, hL0⟩ : ∃ L : List Loc, L = [] := ⟨_, rfl⟩
  rw [← hH, ← hL0] at S ⊢
  refine lv_aload_n hx hb dX4_init_0 rfl (lv_at hl 0 rfl) ?_
  refine top_obj C hl.1 (hts (.methodLink RX4 3 objectInit) (by decide +kernel)) (hts (.instanceMethod objectInit) (by decide +kernel)) (hts (.code objectInit ⟨#[0xb1]⟩ 1 none) (by decide +kernel)) dX4_init_1 (Nat.le_of_ble_eq_true rfl) (Nat.le_of_ble_eq_true rfl) ?_
  refine lv_aload_n hx hb dX4_init_4 rfl (lv_at hl 0 rfl) ?_
  refine lv_bipush (v := 6) hx hb dX4_init_5 (by decide) ?_
  refine top_newI (cn := 1) (sn := 6) (N' := 6) C S (hts (.arrayClass .int) (by decide +kernel)) rfl (by decide) rfl rfl (Nat.le_of_ble_eq_true rfl) (Nat.le_of_ble_eq_true rfl) dX4_init_7 (fun n_1 H S => ?_)
  have S : ST g A ss H locs [(h, ob 4 [.null, .null, .int 0]), (n_1, aI g 6 (fun _ => 0))] := S
  refine top_putF (v := .ref n_1) (ty := tyX4 0) C S inX4_init_X4 tyX4 tyX4_ok nmX4 rfl 0 rfl 0 (by decide) (by decide +kernel) rfl hin rfl (tyX4_ok 0 (by decide)) (by rfl) (by rfl) (Nat.le_of_ble_eq_true rfl) dX4_init_9 (fun H locs S => ?_)
  have S : ST g A ss H locs [(h, ob 4 [.ref n_1, .null, .int 0]), (n_1, aI g 6 (fun _ => 0))] := S
  refine lv_aload_n hx hb dX4_init_12 rfl (lv_at hl 0 rfl) ?_
  refine lv_bipush (v := 6) hx hb dX4_init_13 (by decide) ?_
  refine top_newI (cn := 2) (sn := 12) (N' := 6) C S (hts (.arrayClass .int) (by decide +kernel)) rfl (by decide) rfl rfl (Nat.le_of_ble_eq_true rfl) (Nat.le_of_ble_eq_true rfl) dX4_init_15 (fun n_2 H S => ?_)
  have S : ST g A ss H locs [(h, ob 4 [.ref n_1, .null, .int 0]), (n_1, aI g 6 (fun _ => 0)), (n_2, aI g 6 (fun _ => 0))] := S
  refine top_putF (v := .ref n_2) (ty := tyX4 1) C S inX4_init_X4 tyX4 tyX4_ok nmX4 rfl 0 rfl 1 (by decide) (by decide +kernel) rfl hin rfl (tyX4_ok 1 (by decide)) (by rfl) (by rfl) (Nat.le_of_ble_eq_true rfl) dX4_init_17 (fun H locs S => ?_)
  have S : ST g A ss H locs [(h, ob 4 [.ref n_1, .ref n_2, .int 0]), (n_1, aI g 6 (fun _ => 0)), (n_2, aI g 6 (fun _ => 0))] := S
  exact ret_C C S hr dX4_init_20 ⟨n_1, n_2, rfl⟩

theorem inX5_init_X5 : ∀ w ∈ wsX50, w ∈ wsX5_init := by decide +kernel
set_option maxRecDepth 100000 in
set_option maxHeartbeats 4000000 in
theorem kX5_init (l : Launch) (g : GG) (h : Nat) : KC l g yX5_init wsX5_init 1 12 1 100 [.ref h] [(h, ob 5 [.null, .int 0])] (fun (w' : va_W) => ∃ (n_1 : Nat), w' = [(h, ob 5 [.ref n_1, .int 0]), (n_1, aC g 100 (fun _ => 0))]) := by
  refine kC_of (cc := cX5_init) (maxL := 1) (by decide) rfl rfl (Nat.le_of_ble_eq_true rfl) ?_
  intro pp ee ss mm bel mth cd A ls C S hr hl hAO hin
  obtain ⟨hx, hb, hml, hown, hts⟩ := id C.1
  have hl : lv_has ls 1 [(0, .ref h)] := hl
  obtain ⟨H, hH⟩ : ∃ H, H = ss.heap := ⟨_, rfl⟩
  obtain ⟨locs, hL0⟩ : ∃ L : List Loc, L = [] := ⟨_, rfl⟩
  rw [← hH, ← hL0] at S ⊢
  refine lv_aload_n hx hb dX5_init_0 rfl (lv_at hl 0 rfl) ?_
  refine top_obj C hl.1 (hts (.methodLink RX5 3 objectInit) (by decide +kernel)) (hts (.instanceMethod objectInit) (by decide +kernel)) (hts (.code objectInit ⟨#[0xb1]⟩ 1 none) (by decide +kernel)) dX5_init_1 (Nat.le_of_ble_eq_true rfl) (Nat.le_of_ble_eq_true rfl) ?_
  refine lv_aload_n hx hb dX5_init_4 rfl (lv_at hl 0 rfl) ?_
  refine lv_bipush (v := 100) hx hb dX5_init_5 (by decide) ?_
  refine top_newC (cn := 1) (sn := 100) (N' := 100) C S (hts (.arrayClass .char) (by decide +kernel)) rfl (by decide) rfl rfl (Nat.le_of_ble_eq_true rfl) (Nat.le_of_ble_eq_true rfl) dX5_init_7 (fun n_1 H S => ?_)
  have S : ST g A ss H locs [(h, ob 5 [.null, .int 0]), (n_1, aC g 100 (fun _ => 0))] := S
  refine top_putF (v := .ref n_1) (ty := tyX5 0) C S inX5_init_X5 tyX5 tyX5_ok nmX5 rfl 0 rfl 0 (by decide) (by decide +kernel) rfl hin rfl (tyX5_ok 0 (by decide)) (by rfl) (by rfl) (Nat.le_of_ble_eq_true rfl) dX5_init_9 (fun H locs S => ?_)
  have S : ST g A ss H locs [(h, ob 5 [.ref n_1, .int 0]), (n_1, aC g 100 (fun _ => 0))] := S
  exact ret_C C S hr dX5_init_12 ⟨n_1, rfl⟩

def f0X7 : Nat → Int32 := upd (upd (upd (upd (upd (fun _ => 0) 0 1) 1 1) 2 1) 4 99) 5 1
theorem inX7_init_X7 : ∀ w ∈ wsX70, w ∈ wsX7_init := by decide +kernel
set_option maxRecDepth 100000 in
set_option maxHeartbeats 4000000 in
theorem kX7_init (l : Launch) (g : GG) (h : Nat) : KC l g yX7_init wsX7_init 1 12 12 558 [.ref h] [(h, ob 7 [.null, .null, .null, .int 0, .null, .null, .null, .null, .int 0, .null, .int 0, .int 0, .int 0, .int 0, .int 0, .null, .null, .int 0, .int 0, .int 0, .int 0, .null, .null])] (fun (w' : va_W) => ∃ (n_1 n_2 n_3 n_4 n_5 n_6 n_7 n_8 n_9 n_10 n_11 n_12 : Nat), w' = [(h, ob 7 [.ref n_1, .ref n_2, .ref n_3, .int 0, .ref n_4, .ref n_5, .ref n_6, .ref n_7, .int 0, .ref n_8, .int 0, .int 0, .int 0, .int 0, .int 0, .ref n_9, .ref n_10, .int 0, .int 0, .int 0, .int 0, .ref n_11, .ref n_12]), (n_1, aI g 41 f0X7), (n_2, aI g 41 (fun _ => 0)), (n_3, aI g 246 (fun _ => 0)), (n_4, aI g 82 (fun _ => 0)), (n_5, aZ g 2 (fun _ => 0)), (n_6, aI g 6 (fun _ => 0)), (n_7, aI g 6 (fun _ => 0)), (n_8, aI g 100 (fun _ => 0)), (n_9, aI g 8 (fun _ => 0)), (n_10, aI g 8 (fun _ => 0)), (n_11, aZ g 9 (fun _ => 0)), (n_12, aI g 9 (fun _ => 0))]) := by
  refine kC_of (cc := cX7_init) (maxL := 1) (by decide) rfl rfl (Nat.le_of_ble_eq_true rfl) ?_
  intro pp ee ss mm bel mth cd A ls C S hr hl hAO hin
  obtain ⟨hx, hb, hml, hown, hts⟩ := id C.1
  have hl : lv_has ls 1 [(0, .ref h)] := hl
  obtain ⟨H, hH⟩ : ∃ H, H = ss.heap := ⟨_, rfl⟩
  obtain ⟨locs, hL0⟩ : ∃ L : List Loc, L = [] := ⟨_, rfl⟩
  rw [← hH, ← hL0] at S ⊢
  refine lv_aload_n hx hb dX7_init_0 rfl (lv_at hl 0 rfl) ?_
  refine top_obj C hl.1 (hts (.methodLink RX7 1 objectInit) (by decide +kernel)) (hts (.instanceMethod objectInit) (by decide +kernel)) (hts (.code objectInit ⟨#[0xb1]⟩ 1 none) (by decide +kernel)) dX7_init_1 (Nat.le_of_ble_eq_true rfl) (Nat.le_of_ble_eq_true rfl) ?_
  refine lv_aload_n hx hb dX7_init_4 rfl (lv_at hl 0 rfl) ?_
  refine lv_bipush (v := 41) hx hb dX7_init_5 (by decide) ?_
  refine top_newI (cn := 1) (sn := 41) (N' := 41) C S (hts (.arrayClass .int) (by decide +kernel)) rfl (by decide) rfl rfl (Nat.le_of_ble_eq_true rfl) (Nat.le_of_ble_eq_true rfl) dX7_init_7 (fun n_1 H S => ?_)
  have S : ST g A ss H locs [(h, ob 7 [.null, .null, .null, .int 0, .null, .null, .null, .null, .int 0, .null, .int 0, .int 0, .int 0, .int 0, .int 0, .null, .null, .int 0, .int 0, .int 0, .int 0, .null, .null]), (n_1, aI g 41 (fun _ => 0))] := S
  refine top_putF (v := .ref n_1) (ty := tyX7 0) C S inX7_init_X7 tyX7 tyX7_ok nmX7 rfl 0 rfl 0 (by decide) (by decide +kernel) rfl hin rfl (tyX7_ok 0 (by decide)) (by rfl) (by rfl) (Nat.le_of_ble_eq_true rfl) dX7_init_9 (fun H locs S => ?_)
  have S : ST g A ss H locs [(h, ob 7 [.ref n_1, .null, .null, .int 0, .null, .null, .null, .null, .int 0, .null, .int 0, .int 0, .int 0, .int 0, .int 0, .null, .null, .int 0, .int 0, .int 0, .int 0, .null, .null]), (n_1, aI g 41 (fun _ => 0))] := S
  refine lv_aload_n hx hb dX7_init_12 rfl (lv_at hl 0 rfl) ?_
  refine lv_bipush (v := 41) hx hb dX7_init_13 (by decide) ?_
  refine top_newI (cn := 2) (sn := 82) (N' := 41) C S (hts (.arrayClass .int) (by decide +kernel)) rfl (by decide) rfl rfl (Nat.le_of_ble_eq_true rfl) (Nat.le_of_ble_eq_true rfl) dX7_init_15 (fun n_2 H S => ?_)
  have S : ST g A ss H locs [(h, ob 7 [.ref n_1, .null, .null, .int 0, .null, .null, .null, .null, .int 0, .null, .int 0, .int 0, .int 0, .int 0, .int 0, .null, .null, .int 0, .int 0, .int 0, .int 0, .null, .null]), (n_1, aI g 41 (fun _ => 0)), (n_2, aI g 41 (fun _ => 0))] := S
  refine top_putF (v := .ref n_2) (ty := tyX7 1) C S inX7_init_X7 tyX7 tyX7_ok nmX7 rfl 0 rfl 1 (by decide) (by decide +kernel) rfl hin rfl (tyX7_ok 1 (by decide)) (by rfl) (by rfl) (Nat.le_of_ble_eq_true rfl) dX7_init_17 (fun H locs S => ?_)
  have S : ST g A ss H locs [(h, ob 7 [.ref n_1, .ref n_2, .null, .int 0, .null, .null, .null, .null, .int 0, .null, .int 0, .int 0, .int 0, .int 0, .int 0, .null, .null, .int 0, .int 0, .int 0, .int 0, .null, .null]), (n_1, aI g 41 (fun _ => 0)), (n_2, aI g 41 (fun _ => 0))] := S
  refine lv_aload_n hx hb dX7_init_20 rfl (lv_at hl 0 rfl) ?_
  refine lv_sipush (v := 246) hx hb dX7_init_21 (by decide) ?_
  refine top_newI (cn := 3) (sn := 328) (N' := 246) C S (hts (.arrayClass .int) (by decide +kernel)) rfl (by decide) rfl rfl (Nat.le_of_ble_eq_true rfl) (Nat.le_of_ble_eq_true rfl) dX7_init_24 (fun n_3 H S => ?_)
  have S : ST g A ss H locs [(h, ob 7 [.ref n_1, .ref n_2, .null, .int 0, .null, .null, .null, .null, .int 0, .null, .int 0, .int 0, .int 0, .int 0, .int 0, .null, .null, .int 0, .int 0, .int 0, .int 0, .null, .null]), (n_1, aI g 41 (fun _ => 0)), (n_2, aI g 41 (fun _ => 0)), (n_3, aI g 246 (fun _ => 0))] := S
  refine top_putF (v := .ref n_3) (ty := tyX7 2) C S inX7_init_X7 tyX7 tyX7_ok nmX7 rfl 0 rfl 2 (by decide) (by decide +kernel) rfl hin rfl (tyX7_ok 2 (by decide)) (by rfl) (by rfl) (Nat.le_of_ble_eq_true rfl) dX7_init_26 (fun H locs S => ?_)
  have S : ST g A ss H locs [(h, ob 7 [.ref n_1, .ref n_2, .ref n_3, .int 0, .null, .null, .null, .null, .int 0, .null, .int 0, .int 0, .int 0, .int 0, .int 0, .null, .null, .int 0, .int 0, .int 0, .int 0, .null, .null]), (n_1, aI g 41 (fun _ => 0)), (n_2, aI g 41 (fun _ => 0)), (n_3, aI g 246 (fun _ => 0))] := S
  refine lv_aload_n hx hb dX7_init_29 rfl (lv_at hl 0 rfl) ?_
  refine lv_bipush (v := 82) hx hb dX7_init_30 (by decide) ?_
  refine top_newI (cn := 4) (sn := 410) (N' := 82) C S (hts (.arrayClass .int) (by decide +kernel)) rfl (by decide) rfl rfl (Nat.le_of_ble_eq_true rfl) (Nat.le_of_ble_eq_true rfl) dX7_init_32 (fun n_4 H S => ?_)
  have S : ST g A ss H locs [(h, ob 7 [.ref n_1, .ref n_2, .ref n_3, .int 0, .null, .null, .null, .null, .int 0, .null, .int 0, .int 0, .int 0, .int 0, .int 0, .null, .null, .int 0, .int 0, .int 0, .int 0, .null, .null]), (n_1, aI g 41 (fun _ => 0)), (n_2, aI g 41 (fun _ => 0)), (n_3, aI g 246 (fun _ => 0)), (n_4, aI g 82 (fun _ => 0))] := S
  refine top_putF (v := .ref n_4) (ty := tyX7 4) C S inX7_init_X7 tyX7 tyX7_ok nmX7 rfl 0 rfl 4 (by decide) (by decide +kernel) rfl hin rfl (tyX7_ok 4 (by decide)) (by rfl) (by rfl) (Nat.le_of_ble_eq_true rfl) dX7_init_34 (fun H locs S => ?_)
  have S : ST g A ss H locs [(h, ob 7 [.ref n_1, .ref n_2, .ref n_3, .int 0, .ref n_4, .null, .null, .null, .int 0, .null, .int 0, .int 0, .int 0, .int 0, .int 0, .null, .null, .int 0, .int 0, .int 0, .int 0, .null, .null]), (n_1, aI g 41 (fun _ => 0)), (n_2, aI g 41 (fun _ => 0)), (n_3, aI g 246 (fun _ => 0)), (n_4, aI g 82 (fun _ => 0))] := S
  refine lv_aload_n hx hb dX7_init_37 rfl (lv_at hl 0 rfl) ?_
  refine lv_iconst (v := 2) hx hb dX7_init_38 (by decide) ?_
  refine top_newZ (cn := 5) (sn := 412) (N' := 2) C S (hts (.arrayClass .boolean) (by decide +kernel)) rfl (by decide) rfl rfl (Nat.le_of_ble_eq_true rfl) (Nat.le_of_ble_eq_true rfl) dX7_init_39 (fun n_5 H S => ?_)
  have S : ST g A ss H locs [(h, ob 7 [.ref n_1, .ref n_2, .ref n_3, .int 0, .ref n_4, .null, .null, .null, .int 0, .null, .int 0, .int 0, .int 0, .int 0, .int 0, .null, .null, .int 0, .int 0, .int 0, .int 0, .null, .null]), (n_1, aI g 41 (fun _ => 0)), (n_2, aI g 41 (fun _ => 0)), (n_3, aI g 246 (fun _ => 0)), (n_4, aI g 82 (fun _ => 0)), (n_5, aZ g 2 (fun _ => 0))] := S
  refine top_putF (v := .ref n_5) (ty := tyX7 5) C S inX7_init_X7 tyX7 tyX7_ok nmX7 rfl 0 rfl 5 (by decide) (by decide +kernel) rfl hin rfl (tyX7_ok 5 (by decide)) (by rfl) (by rfl) (Nat.le_of_ble_eq_true rfl) dX7_init_41 (fun H locs S => ?_)
  have S : ST g A ss H locs [(h, ob 7 [.ref n_1, .ref n_2, .ref n_3, .int 0, .ref n_4, .ref n_5, .null, .null, .int 0, .null, .int 0, .int 0, .int 0, .int 0, .int 0, .null, .null, .int 0, .int 0, .int 0, .int 0, .null, .null]), (n_1, aI g 41 (fun _ => 0)), (n_2, aI g 41 (fun _ => 0)), (n_3, aI g 246 (fun _ => 0)), (n_4, aI g 82 (fun _ => 0)), (n_5, aZ g 2 (fun _ => 0))] := S
  refine lv_aload_n hx hb dX7_init_44 rfl (lv_at hl 0 rfl) ?_
  refine lv_bipush (v := 6) hx hb dX7_init_45 (by decide) ?_
  refine top_newI (cn := 6) (sn := 418) (N' := 6) C S (hts (.arrayClass .int) (by decide +kernel)) rfl (by decide) rfl rfl (Nat.le_of_ble_eq_true rfl) (Nat.le_of_ble_eq_true rfl) dX7_init_47 (fun n_6 H S => ?_)
  have S : ST g A ss H locs [(h, ob 7 [.ref n_1, .ref n_2, .ref n_3, .int 0, .ref n_4, .ref n_5, .null, .null, .int 0, .null, .int 0, .int 0, .int 0, .int 0, .int 0, .null, .null, .int 0, .int 0, .int 0, .int 0, .null, .null]), (n_1, aI g 41 (fun _ => 0)), (n_2, aI g 41 (fun _ => 0)), (n_3, aI g 246 (fun _ => 0)), (n_4, aI g 82 (fun _ => 0)), (n_5, aZ g 2 (fun _ => 0)), (n_6, aI g 6 (fun _ => 0))] := S
  refine top_putF (v := .ref n_6) (ty := tyX7 6) C S inX7_init_X7 tyX7 tyX7_ok nmX7 rfl 0 rfl 6 (by decide) (by decide +kernel) rfl hin rfl (tyX7_ok 6 (by decide)) (by rfl) (by rfl) (Nat.le_of_ble_eq_true rfl) dX7_init_49 (fun H locs S => ?_)
  have S : ST g A ss H locs [(h, ob 7 [.ref n_1, .ref n_2, .ref n_3, .int 0, .ref n_4, .ref n_5, .ref n_6, .null, .int 0, .null, .int 0, .int 0, .int 0, .int 0, .int 0, .null, .null, .int 0, .int 0, .int 0, .int 0, .null, .null]), (n_1, aI g 41 (fun _ => 0)), (n_2, aI g 41 (fun _ => 0)), (n_3, aI g 246 (fun _ => 0)), (n_4, aI g 82 (fun _ => 0)), (n_5, aZ g 2 (fun _ => 0)), (n_6, aI g 6 (fun _ => 0))] := S
  refine lv_aload_n hx hb dX7_init_52 rfl (lv_at hl 0 rfl) ?_
  refine lv_bipush (v := 6) hx hb dX7_init_53 (by decide) ?_
  refine top_newI (cn := 7) (sn := 424) (N' := 6) C S (hts (.arrayClass .int) (by decide +kernel)) rfl (by decide) rfl rfl (Nat.le_of_ble_eq_true rfl) (Nat.le_of_ble_eq_true rfl) dX7_init_55 (fun n_7 H S => ?_)
  have S : ST g A ss H locs [(h, ob 7 [.ref n_1, .ref n_2, .ref n_3, .int 0, .ref n_4, .ref n_5, .ref n_6, .null, .int 0, .null, .int 0, .int 0, .int 0, .int 0, .int 0, .null, .null, .int 0, .int 0, .int 0, .int 0, .null, .null]), (n_1, aI g 41 (fun _ => 0)), (n_2, aI g 41 (fun _ => 0)), (n_3, aI g 246 (fun _ => 0)), (n_4, aI g 82 (fun _ => 0)), (n_5, aZ g 2 (fun _ => 0)), (n_6, aI g 6 (fun _ => 0)), (n_7, aI g 6 (fun _ => 0))] := S
  refine top_putF (v := .ref n_7) (ty := tyX7 7) C S inX7_init_X7 tyX7 tyX7_ok nmX7 rfl 0 rfl 7 (by decide) (by decide +kernel) rfl hin rfl (tyX7_ok 7 (by decide)) (by rfl) (by rfl) (Nat.le_of_ble_eq_true rfl) dX7_init_57 (fun H locs S => ?_)
  have S : ST g A ss H locs [(h, ob 7 [.ref n_1, .ref n_2, .ref n_3, .int 0, .ref n_4, .ref n_5, .ref n_6, .ref n_7, .int 0, .null, .int 0, .int 0, .int 0, .int 0, .int 0, .null, .null, .int 0, .int 0, .int 0, .int 0, .null, .null]), (n_1, aI g 41 (fun _ => 0)), (n_2, aI g 41 (fun _ => 0)), (n_3, aI g 246 (fun _ => 0)), (n_4, aI g 82 (fun _ => 0)), (n_5, aZ g 2 (fun _ => 0)), (n_6, aI g 6 (fun _ => 0)), (n_7, aI g 6 (fun _ => 0))] := S
  refine lv_aload_n hx hb dX7_init_60 rfl (lv_at hl 0 rfl) ?_
  refine lv_bipush (v := 100) hx hb dX7_init_61 (by decide) ?_
  refine top_newI (cn := 8) (sn := 524) (N' := 100) C S (hts (.arrayClass .int) (by decide +kernel)) rfl (by decide) rfl rfl (Nat.le_of_ble_eq_true rfl) (Nat.le_of_ble_eq_true rfl) dX7_init_63 (fun n_8 H S => ?_)
  have S : ST g A ss H locs [(h, ob 7 [.ref n_1, .ref n_2, .ref n_3, .int 0, .ref n_4, .ref n_5, .ref n_6, .ref n_7, .int 0, .null, .int 0, .int 0, .int 0, .int 0, .int 0, .null, .null, .int 0, .int 0, .int 0, .int 0, .null, .null]), (n_1, aI g 41 (fun _ => 0)), (n_2, aI g 41 (fun _ => 0)), (n_3, aI g 246 (fun _ => 0)), (n_4, aI g 82 (fun _ => 0)), (n_5, aZ g 2 (fun _ => 0)), (n_6, aI g 6 (fun _ => 0)), (n_7, aI g 6 (fun _ => 0)), (n_8, aI g 100 (fun _ => 0))] := S
  refine top_putF (v := .ref n_8) (ty := tyX7 9) C S inX7_init_X7 tyX7 tyX7_ok nmX7 rfl 0 rfl 9 (by decide) (by decide +kernel) rfl hin rfl (tyX7_ok 9 (by decide)) (by rfl) (by rfl) (Nat.le_of_ble_eq_true rfl) dX7_init_65 (fun H locs S => ?_)
  have S : ST g A ss H locs [(h, ob 7 [.ref n_1, .ref n_2, .ref n_3, .int 0, .ref n_4, .ref n_5, .ref n_6, .ref n_7, .int 0, .ref n_8, .int 0, .int 0, .int 0, .int 0, .int 0, .null, .null, .int 0, .int 0, .int 0, .int 0, .null, .null]), (n_1, aI g 41 (fun _ => 0)), (n_2, aI g 41 (fun _ => 0)), (n_3, aI g 246 (fun _ => 0)), (n_4, aI g 82 (fun _ => 0)), (n_5, aZ g 2 (fun _ => 0)), (n_6, aI g 6 (fun _ => 0)), (n_7, aI g 6 (fun _ => 0)), (n_8, aI g 100 (fun _ => 0))] := S
  refine lv_aload_n hx hb dX7_init_68 rfl (lv_at hl 0 rfl) ?_
  refine lv_bipush (v := 8) hx hb dX7_init_69 (by decide) ?_
  refine top_newI (cn := 9) (sn := 532) (N' := 8) C S (hts (.arrayClass .int) (by decide +kernel)) rfl (by decide) rfl rfl (Nat.le_of_ble_eq_true rfl) (Nat.le_of_ble_eq_true rfl) dX7_init_71 (fun n_9 H S => ?_)
  have S : ST g A ss H locs [(h, ob 7 [.ref n_1, .ref n_2, .ref n_3, .int 0, .ref n_4, .ref n_5, .ref n_6, .ref n_7, .int 0, .ref n_8, .int 0, .int 0, .int 0, .int 0, .int 0, .null, .null, .int 0, .int 0, .int 0, .int 0, .null, .null]), (n_1, aI g 41 (fun _ => 0)), (n_2, aI g 41 (fun _ => 0)), (n_3, aI g 246 (fun _ => 0)), (n_4, aI g 82 (fun _ => 0)), (n_5, aZ g 2 (fun _ => 0)), (n_6, aI g 6 (fun _ => 0)), (n_7, aI g 6 (fun _ => 0)), (n_8, aI g 100 (fun _ => 0)), (n_9, aI g 8 (fun _ => 0))] := S
  refine top_putF (v := .ref n_9) (ty := tyX7 15) C S inX7_init_X7 tyX7 tyX7_ok nmX7 rfl 0 rfl 15 (by decide) (by decide +kernel) rfl hin rfl (tyX7_ok 15 (by decide)) (by rfl) (by rfl) (Nat.le_of_ble_eq_true rfl) dX7_init_73 (fun H locs S => ?_)
  have S : ST g A ss H locs [(h, ob 7 [.ref n_1, .ref n_2, .ref n_3, .int 0, .ref n_4, .ref n_5, .ref n_6, .ref n_7, .int 0, .ref n_8, .int 0, .int 0, .int 0, .int 0, .int 0, .ref n_9, .null, .int 0, .int 0, .int 0, .int 0, .null, .null]), (n_1, aI g 41 (fun _ => 0)), (n_2, aI g 41 (fun _ => 0)), (n_3, aI g 246 (fun _ => 0)), (n_4, aI g 82 (fun _ => 0)), (n_5, aZ g 2 (fun _ => 0)), (n_6, aI g 6 (fun _ => 0)), (n_7, aI g 6 (fun _ => 0)), (n_8, aI g 100 (fun _ => 0)), (n_9, aI g 8 (fun _ => 0))] := S
  refine lv_aload_n hx hb dX7_init_76 rfl (lv_at hl 0 rfl) ?_
  refine lv_bipush (v := 8) hx hb dX7_init_77 (by decide) ?_
  refine top_newI (cn := 10) (sn := 540) (N' := 8) C S (hts (.arrayClass .int) (by decide +kernel)) rfl (by decide) rfl rfl (Nat.le_of_ble_eq_true rfl) (Nat.le_of_ble_eq_true rfl) dX7_init_79 (fun n_10 H S => ?_)
  have S : ST g A ss H locs [(h, ob 7 [.ref n_1, .ref n_2, .ref n_3, .int 0, .ref n_4, .ref n_5, .ref n_6, .ref n_7, .int 0, .ref n_8, .int 0, .int 0, .int 0, .int 0, .int 0, .ref n_9, .null, .int 0, .int 0, .int 0, .int 0, .null, .null]), (n_1, aI g 41 (fun _ => 0)), (n_2, aI g 41 (fun _ => 0)), (n_3, aI g 246 (fun _ => 0)), (n_4, aI g 82 (fun _ => 0)), (n_5, aZ g 2 (fun _ => 0)), (n_6, aI g 6 (fun _ => 0)), (n_7, aI g 6 (fun _ => 0)), (n_8, aI g 100 (fun _ => 0)), (n_9, aI g 8 (fun _ => 0)), (n_10, aI g 8 (fun _ => 0))] := S
  refine top_putF (v := .ref n_10) (ty := tyX7 16) C S inX7_init_X7 tyX7 tyX7_ok nmX7 rfl 0 rfl 16 (by decide) (by decide +kernel) rfl hin rfl (tyX7_ok 16 (by decide)) (by rfl) (by rfl) (Nat.le_of_ble_eq_true rfl) dX7_init_81 (fun H locs S => ?_)
  have S : ST g A ss H locs [(h, ob 7 [.ref n_1, .ref n_2, .ref n_3, .int 0, .ref n_4, .ref n_5, .ref n_6, .ref n_7, .int 0, .ref n_8, .int 0, .int 0, .int 0, .int 0, .int 0, .ref n_9, .ref n_10, .int 0, .int 0, .int 0, .int 0, .null, .null]), (n_1, aI g 41 (fun _ => 0)), (n_2, aI g 41 (fun _ => 0)), (n_3, aI g 246 (fun _ => 0)), (n_4, aI g 82 (fun _ => 0)), (n_5, aZ g 2 (fun _ => 0)), (n_6, aI g 6 (fun _ => 0)), (n_7, aI g 6 (fun _ => 0)), (n_8, aI g 100 (fun _ => 0)), (n_9, aI g 8 (fun _ => 0)), (n_10, aI g 8 (fun _ => 0))] := S
  refine lv_aload_n hx hb dX7_init_84 rfl (lv_at hl 0 rfl) ?_
  refine lv_bipush (v := 9) hx hb dX7_init_85 (by decide) ?_
  refine top_newZ (cn := 11) (sn := 549) (N' := 9) C S (hts (.arrayClass .boolean) (by decide +kernel)) rfl (by decide) rfl rfl (Nat.le_of_ble_eq_true rfl) (Nat.le_of_ble_eq_true rfl) dX7_init_87 (fun n_11 H S => ?_)
  have S : ST g A ss H locs [(h, ob 7 [.ref n_1, .ref n_2, .ref n_3, .int 0, .ref n_4, .ref n_5, .ref n_6, .ref n_7, .int 0, .ref n_8, .int 0, .int 0, .int 0, .int 0, .int 0, .ref n_9, .ref n_10, .int 0, .int 0, .int 0, .int 0, .null, .null]), (n_1, aI g 41 (fun _ => 0)), (n_2, aI g 41 (fun _ => 0)), (n_3, aI g 246 (fun _ => 0)), (n_4, aI g 82 (fun _ => 0)), (n_5, aZ g 2 (fun _ => 0)), (n_6, aI g 6 (fun _ => 0)), (n_7, aI g 6 (fun _ => 0)), (n_8, aI g 100 (fun _ => 0)), (n_9, aI g 8 (fun _ => 0)), (n_10, aI g 8 (fun _ => 0)), (n_11, aZ g 9 (fun _ => 0))] := S
  refine top_putF (v := .ref n_11) (ty := tyX7 21) C S inX7_init_X7 tyX7 tyX7_ok nmX7 rfl 0 rfl 21 (by decide) (by decide +kernel) rfl hin rfl (tyX7_ok 21 (by decide)) (by rfl) (by rfl) (Nat.le_of_ble_eq_true rfl) dX7_init_89 (fun H locs S => ?_)
  have S : ST g A ss H locs [(h, ob 7 [.ref n_1, .ref n_2, .ref n_3, .int 0, .ref n_4, .ref n_5, .ref n_6, .ref n_7, .int 0, .ref n_8, .int 0, .int 0, .int 0, .int 0, .int 0, .ref n_9, .ref n_10, .int 0, .int 0, .int 0, .int 0, .ref n_11, .null]), (n_1, aI g 41 (fun _ => 0)), (n_2, aI g 41 (fun _ => 0)), (n_3, aI g 246 (fun _ => 0)), (n_4, aI g 82 (fun _ => 0)), (n_5, aZ g 2 (fun _ => 0)), (n_6, aI g 6 (fun _ => 0)), (n_7, aI g 6 (fun _ => 0)), (n_8, aI g 100 (fun _ => 0)), (n_9, aI g 8 (fun _ => 0)), (n_10, aI g 8 (fun _ => 0)), (n_11, aZ g 9 (fun _ => 0))] := S
  refine lv_aload_n hx hb dX7_init_92 rfl (lv_at hl 0 rfl) ?_
  refine lv_bipush (v := 9) hx hb dX7_init_93 (by decide) ?_
  refine top_newI (cn := 12) (sn := 558) (N' := 9) C S (hts (.arrayClass .int) (by decide +kernel)) rfl (by decide) rfl rfl (Nat.le_of_ble_eq_true rfl) (Nat.le_of_ble_eq_true rfl) dX7_init_95 (fun n_12 H S => ?_)
  have S : ST g A ss H locs [(h, ob 7 [.ref n_1, .ref n_2, .ref n_3, .int 0, .ref n_4, .ref n_5, .ref n_6, .ref n_7, .int 0, .ref n_8, .int 0, .int 0, .int 0, .int 0, .int 0, .ref n_9, .ref n_10, .int 0, .int 0, .int 0, .int 0, .ref n_11, .null]), (n_1, aI g 41 (fun _ => 0)), (n_2, aI g 41 (fun _ => 0)), (n_3, aI g 246 (fun _ => 0)), (n_4, aI g 82 (fun _ => 0)), (n_5, aZ g 2 (fun _ => 0)), (n_6, aI g 6 (fun _ => 0)), (n_7, aI g 6 (fun _ => 0)), (n_8, aI g 100 (fun _ => 0)), (n_9, aI g 8 (fun _ => 0)), (n_10, aI g 8 (fun _ => 0)), (n_11, aZ g 9 (fun _ => 0)), (n_12, aI g 9 (fun _ => 0))] := S
  refine top_putF (v := .ref n_12) (ty := tyX7 22) C S inX7_init_X7 tyX7 tyX7_ok nmX7 rfl 0 rfl 22 (by decide) (by decide +kernel) rfl hin rfl (tyX7_ok 22 (by decide)) (by rfl) (by rfl) (Nat.le_of_ble_eq_true rfl) dX7_init_97 (fun H locs S => ?_)
  have S : ST g A ss H locs [(h, ob 7 [.ref n_1, .ref n_2, .ref n_3, .int 0, .ref n_4, .ref n_5, .ref n_6, .ref n_7, .int 0, .ref n_8, .int 0, .int 0, .int 0, .int 0, .int 0, .ref n_9, .ref n_10, .int 0, .int 0, .int 0, .int 0, .ref n_11, .ref n_12]), (n_1, aI g 41 (fun _ => 0)), (n_2, aI g 41 (fun _ => 0)), (n_3, aI g 246 (fun _ => 0)), (n_4, aI g 82 (fun _ => 0)), (n_5, aZ g 2 (fun _ => 0)), (n_6, aI g 6 (fun _ => 0)), (n_7, aI g 6 (fun _ => 0)), (n_8, aI g 100 (fun _ => 0)), (n_9, aI g 8 (fun _ => 0)), (n_10, aI g 8 (fun _ => 0)), (n_11, aZ g 9 (fun _ => 0)), (n_12, aI g 9 (fun _ => 0))] := S
  refine lv_aload_n hx hb dX7_init_100 rfl (lv_at hl 0 rfl) ?_
  refine top_get C S inX7_init_X7 rfl 0 rfl 0 (by decide) (by decide +kernel) rfl rfl dX7_init_101 ?_
  refine lv_iconst (v := 0) hx hb dX7_init_104 (by decide) ?_
  refine lv_iconst (v := 1) hx hb dX7_init_105 (by decide) ?_
  refine top_ist C S 1 rfl (j := 0) rfl (by omega) (by decide) dX7_init_106 (fun H locs S => ?_)
  have S : ST g A ss H locs [(h, ob 7 [.ref n_1, .ref n_2, .ref n_3, .int 0, .ref n_4, .ref n_5, .ref n_6, .ref n_7, .int 0, .ref n_8, .int 0, .int 0, .int 0, .int 0, .int 0, .ref n_9, .ref n_10, .int 0, .int 0, .int 0, .int 0, .ref n_11, .ref n_12]), (n_1, aI g 41 (upd (fun _ => 0) 0 1)), (n_2, aI g 41 (fun _ => 0)), (n_3, aI g 246 (fun _ => 0)), (n_4, aI g 82 (fun _ => 0)), (n_5, aZ g 2 (fun _ => 0)), (n_6, aI g 6 (fun _ => 0)), (n_7, aI g 6 (fun _ => 0)), (n_8, aI g 100 (fun _ => 0)), (n_9, aI g 8 (fun _ => 0)), (n_10, aI g 8 (fun _ => 0)), (n_11, aZ g 9 (fun _ => 0)), (n_12, aI g 9 (fun _ => 0))] := S
  refine lv_aload_n hx hb dX7_init_107 rfl (lv_at hl 0 rfl) ?_
  refine top_get C S inX7_init_X7 rfl 0 rfl 0 (by decide) (by decide +kernel) rfl rfl dX7_init_108 ?_
  refine lv_iconst (v := 1) hx hb dX7_init_111 (by decide) ?_
  refine lv_iconst (v := 1) hx hb dX7_init_112 (by decide) ?_
  refine top_ist C S 1 rfl (j := 1) rfl (by omega) (by decide) dX7_init_113 (fun H locs S => ?_)
  have S : ST g A ss H locs [(h, ob 7 [.ref n_1, .ref n_2, .ref n_3, .int 0, .ref n_4, .ref n_5, .ref n_6, .ref n_7, .int 0, .ref n_8, .int 0, .int 0, .int 0, .int 0, .int 0, .ref n_9, .ref n_10, .int 0, .int 0, .int 0, .int 0, .ref n_11, .ref n_12]), (n_1, aI g 41 (upd (upd (fun _ => 0) 0 1) 1 1)), (n_2, aI g 41 (fun _ => 0)), (n_3, aI g 246 (fun _ => 0)), (n_4, aI g 82 (fun _ => 0)), (n_5, aZ g 2 (fun _ => 0)), (n_6, aI g 6 (fun _ => 0)), (n_7, aI g 6 (fun _ => 0)), (n_8, aI g 100 (fun _ => 0)), (n_9, aI g 8 (fun _ => 0)), (n_10, aI g 8 (fun _ => 0)), (n_11, aZ g 9 (fun _ => 0)), (n_12, aI g 9 (fun _ => 0))] := S
  refine lv_aload_n hx hb dX7_init_114 rfl (lv_at hl 0 rfl) ?_
  refine top_get C S inX7_init_X7 rfl 0 rfl 0 (by decide) (by decide +kernel) rfl rfl dX7_init_115 ?_
  refine lv_iconst (v := 2) hx hb dX7_init_118 (by decide) ?_
  refine lv_iconst (v := 1) hx hb dX7_init_119 (by decide) ?_
  refine top_ist C S 1 rfl (j := 2) rfl (by omega) (by decide) dX7_init_120 (fun H locs S => ?_)
  have S : ST g A ss H locs [(h, ob 7 [.ref n_1, .ref n_2, .ref n_3, .int 0, .ref n_4, .ref n_5, .ref n_6, .ref n_7, .int 0, .ref n_8, .int 0, .int 0, .int 0, .int 0, .int 0, .ref n_9, .ref n_10, .int 0, .int 0, .int 0, .int 0, .ref n_11, .ref n_12]), (n_1, aI g 41 (upd (upd (upd (fun _ => 0) 0 1) 1 1) 2 1)), (n_2, aI g 41 (fun _ => 0)), (n_3, aI g 246 (fun _ => 0)), (n_4, aI g 82 (fun _ => 0)), (n_5, aZ g 2 (fun _ => 0)), (n_6, aI g 6 (fun _ => 0)), (n_7, aI g 6 (fun _ => 0)), (n_8, aI g 100 (fun _ => 0)), (n_9, aI g 8 (fun _ => 0)), (n_10, aI g 8 (fun _ => 0)), (n_11, aZ g 9 (fun _ => 0)), (n_12, aI g 9 (fun _ => 0))] := S
  refine lv_aload_n hx hb dX7_init_121 rfl (lv_at hl 0 rfl) ?_
  refine top_get C S inX7_init_X7 rfl 0 rfl 0 (by decide) (by decide +kernel) rfl rfl dX7_init_122 ?_
  refine lv_iconst (v := 4) hx hb dX7_init_125 (by decide) ?_
  refine lv_bipush (v := 99) hx hb dX7_init_126 (by decide) ?_
  refine top_ist C S 1 rfl (j := 4) rfl (by omega) (by decide) dX7_init_128 (fun H locs S => ?_)
  have S : ST g A ss H locs [(h, ob 7 [.ref n_1, .ref n_2, .ref n_3, .int 0, .ref n_4, .ref n_5, .ref n_6, .ref n_7, .int 0, .ref n_8, .int 0, .int 0, .int 0, .int 0, .int 0, .ref n_9, .ref n_10, .int 0, .int 0, .int 0, .int 0, .ref n_11, .ref n_12]), (n_1, aI g 41 (upd (upd (upd (upd (fun _ => 0) 0 1) 1 1) 2 1) 4 99)), (n_2, aI g 41 (fun _ => 0)), (n_3, aI g 246 (fun _ => 0)), (n_4, aI g 82 (fun _ => 0)), (n_5, aZ g 2 (fun _ => 0)), (n_6, aI g 6 (fun _ => 0)), (n_7, aI g 6 (fun _ => 0)), (n_8, aI g 100 (fun _ => 0)), (n_9, aI g 8 (fun _ => 0)), (n_10, aI g 8 (fun _ => 0)), (n_11, aZ g 9 (fun _ => 0)), (n_12, aI g 9 (fun _ => 0))] := S
  refine lv_aload_n hx hb dX7_init_129 rfl (lv_at hl 0 rfl) ?_
  refine top_get C S inX7_init_X7 rfl 0 rfl 0 (by decide) (by decide +kernel) rfl rfl dX7_init_130 ?_
  refine lv_iconst (v := 5) hx hb dX7_init_133 (by decide) ?_
  refine lv_iconst (v := 1) hx hb dX7_init_134 (by decide) ?_
  refine top_ist C S 1 rfl (j := 5) rfl (by omega) (by decide) dX7_init_135 (fun H locs S => ?_)
  have S : ST g A ss H locs [(h, ob 7 [.ref n_1, .ref n_2, .ref n_3, .int 0, .ref n_4, .ref n_5, .ref n_6, .ref n_7, .int 0, .ref n_8, .int 0, .int 0, .int 0, .int 0, .int 0, .ref n_9, .ref n_10, .int 0, .int 0, .int 0, .int 0, .ref n_11, .ref n_12]), (n_1, aI g 41 (upd (upd (upd (upd (upd (fun _ => 0) 0 1) 1 1) 2 1) 4 99) 5 1)), (n_2, aI g 41 (fun _ => 0)), (n_3, aI g 246 (fun _ => 0)), (n_4, aI g 82 (fun _ => 0)), (n_5, aZ g 2 (fun _ => 0)), (n_6, aI g 6 (fun _ => 0)), (n_7, aI g 6 (fun _ => 0)), (n_8, aI g 100 (fun _ => 0)), (n_9, aI g 8 (fun _ => 0)), (n_10, aI g 8 (fun _ => 0)), (n_11, aZ g 9 (fun _ => 0)), (n_12, aI g 9 (fun _ => 0))] := S
  exact ret_C C S hr dX7_init_136 ⟨n_1, n_2, n_3, n_4, n_5, n_6, n_7, n_8, n_9, n_10, n_11, n_12, rfl⟩

theorem inX6_init_X0 : ∀ w ∈ wsX00, w ∈ wsX6_init := by decide +kernel
theorem inX6_init_X1 : ∀ w ∈ wsX10, w ∈ wsX6_init := by decide +kernel
theorem inX6_init_X2 : ∀ w ∈ wsX20, w ∈ wsX6_init := by decide +kernel
theorem inX6_init_X3 : ∀ w ∈ wsX30, w ∈ wsX6_init := by decide +kernel
theorem inX6_init_X4 : ∀ w ∈ wsX40, w ∈ wsX6_init := by decide +kernel
theorem inX6_init_X5 : ∀ w ∈ wsX50, w ∈ wsX6_init := by decide +kernel
theorem inX6_init_X6 : ∀ w ∈ wsX60, w ∈ wsX6_init := by decide +kernel
set_option maxRecDepth 100000 in
set_option maxHeartbeats 4000000 in
theorem kX6_init (l : Launch) (g : GG) (h : Nat) : KC l g yX6_init wsX6_init 3 53 34 521 [.ref h] [(h, ob 6 [.null, .null, .null, .null, .null, .null, .null, .null])] (fun (w' : va_W) => ∃ (n_1 n_2 n_3 n_4 n_5 n_6 n_7 n_8 n_9 n_10 n_11 n_12 n_13 n_14 n_15 n_16 n_17 n_18 n_19 n_20 n_21 n_22 n_23 n_24 n_25 n_26 n_27 n_28 n_29 n_30 n_31 n_32 n_33 n_34 : Nat), w' = [(h, ob 6 [.ref n_1, .ref n_3, .ref n_5, .ref n_7, .ref n_21, .ref n_27, .ref n_30, .ref n_34]), (n_1, ob 2 [.ref n_2, .int 1, .int 1]), (n_2, aI g 32 f0X2), (n_3, ob 2 [.ref n_4, .int 1, .int 1]), (n_4, aI g 32 f0X2), (n_5, ob 5 [.ref n_6, .int 0]), (n_6, aC g 100 (fun _ => 0)), (n_7, ob 0 [.ref n_8, .int 0, .int 0]), (n_8, aO g 6 (va_up (va_up (va_up (va_up (va_up (va_up (fun _ => none) 0 (some n_9)) (0 + 1) (some n_11)) ((0 + 1) + 1) (some n_13)) (((0 + 1) + 1) + 1) (some n_15)) ((((0 + 1) + 1) + 1) + 1) (some n_17)) (((((0 + 1) + 1) + 1) + 1) + 1) (some n_19))), (n_9, ob 2 [.ref n_10, .int 1, .int 1]), (n_10, aI g 32 f0X2), (n_11, ob 2 [.ref n_12, .int 1, .int 1]), (n_12, aI g 32 f0X2), (n_13, ob 2 [.ref n_14, .int 1, .int 1]), (n_14, aI g 32 f0X2), (n_15, ob 2 [.ref n_16, .int 1, .int 1]), (n_16, aI g 32 f0X2), (n_17, ob 2 [.ref n_18, .int 1, .int 1]), (n_18, aI g 32 f0X2), (n_19, ob 2 [.ref n_20, .int 1, .int 1]), (n_20, aI g 32 f0X2), (n_21, ob 1 [.ref n_22, .int 0]), (n_22, aO g 2 (va_up (va_up (fun _ => none) 0 (some n_23)) (0 + 1) (some n_25))), (n_23, ob 2 [.ref n_24, .int 1, .int 1]), (n_24, aI g 32 f0X2), (n_25, ob 2 [.ref n_26, .int 1, .int 1]), (n_26, aI g 32 f0X2), (n_27, ob 4 [.ref n_28, .ref n_29, .int 0]), (n_28, aI g 6 (fun _ => 0)), (n_29, aI g 6 (fun _ => 0)), (n_30, ob 3 [.ref n_31, .ref n_32, .ref n_33, .int 0, .int 0, .int 0, .int 0, .int 0]), (n_31, aI g 8 (fun _ => 0)), (n_32, aI g 8 (fun _ => 0)), (n_33, aI g 8 (fun _ => 0)), (n_34, aI g 9 (fun _ => 0))]) := by
  refine kC_of (cc := cX6_init) (maxL := 1) (by decide) rfl rfl (Nat.le_of_ble_eq_true rfl) ?_
  intro pp ee ss mm bel mth cd A ls C S hr hl hAO hin
  obtain ⟨hx, hb, hml, hown, hts⟩ := id C.1
  have hl : lv_has ls 1 [(0, .ref h)] := hl
  obtain ⟨H, hH⟩ : ∃ H, H = ss.heap := ⟨_, rfl⟩
  obtain ⟨locs, hL0⟩ : ∃ L : List Loc, L = [] := ⟨_, rfl⟩
  rw [← hH, ← hL0] at S ⊢
  refine lv_aload_n hx hb dX6_init_0 rfl (lv_at hl 0 rfl) ?_
  refine top_obj C hl.1 (hts (.methodLink RX6 3 objectInit) (by decide +kernel)) (hts (.instanceMethod objectInit) (by decide +kernel)) (hts (.code objectInit ⟨#[0xb1]⟩ 1 none) (by decide +kernel)) dX6_init_1 (Nat.le_of_ble_eq_true rfl) (Nat.le_of_ble_eq_true rfl) ?_
  refine lv_aload_n hx hb dX6_init_4 rfl (lv_at hl 0 rfl) ?_
  refine top_new (K := RX2) (T := TX2) (N := 3) (ci := 2) (fs := [.null, .int 0, .int 0]) (cn := 1) (sn := 3) C S inX6_init_X2 tyX2 tyX2_ok rfl (by decide +kernel) (by decide +kernel) (by decide +kernel) (fun j hj => by rcases (show j = 0 ∨ j = 1 ∨ j = 2 by omega) with rfl | rfl | rfl <;> rfl) rfl rfl (Nat.le_of_ble_eq_true rfl) (Nat.le_of_ble_eq_true rfl) dX6_init_5 (fun n_1 H S => ?_)
  have S : ST g A ss H locs [(h, ob 6 [.null, .null, .null, .null, .null, .null, .null, .null]), (n_1, ob 2 [.null, .int 0, .int 0])] := S
  refine lv_dup hx hb dX6_init_8 rfl ?_
  refine after_C (wc := [(n_1, ob 2 [.null, .int 0, .int 0])]) (y := yX2_init) (cn := 2) (sn := 35) C S (va_runI (As := []) (rest := [.ref n_1, .ref h]) C.1 (kX2_init l g n_1 H.size) (cwI 0 hts gX6_init_X2_init rfl rfl rfl (hts (.initialized RX2) (by decide +kernel)) (hts (.methodLink RX6 11 yX2_init) (by decide +kernel)) (hts (.instanceMethod yX2_init) (by decide +kernel)) rfl (by decide +kernel) ⟨Nat.le_of_ble_eq_true rfl, Nat.le_of_ble_eq_true rfl⟩) (prcS_at C S hAO [1] rfl (by decide)) rfl rfl hl.1 rfl (lv_room (Nat.le_of_ble_eq_true rfl)) dX6_init_9 ⟨Nat.le_of_ble_eq_true rfl, Nat.le_of_ble_eq_true rfl⟩) rfl rfl [1] [0] rfl (wr := [(h, ob 6 [.null, .null, .null, .null, .null, .null, .null, .null])]) rfl (by decide) (by decide) (fun w0 H locs hq S => ?_)
  obtain ⟨n_2, rfl⟩ := hq
  have S : ST g A ss H locs [(h, ob 6 [.null, .null, .null, .null, .null, .null, .null, .null]), (n_1, ob 2 [.ref n_2, .int 1, .int 1]), (n_2, aI g 32 f0X2)] := S
  refine top_putF (v := .ref n_1) (ty := tyX6 0) C S inX6_init_X6 tyX6 tyX6_ok nmX6 rfl 0 rfl 0 (by decide) (by decide +kernel) rfl hin rfl (tyX6_ok 0 (by decide)) (by rfl) (by rfl) (Nat.le_of_ble_eq_true rfl) dX6_init_12 (fun H locs S => ?_)
  have S : ST g A ss H locs [(h, ob 6 [.ref n_1, .null, .null, .null, .null, .null, .null, .null]), (n_1, ob 2 [.ref n_2, .int 1, .int 1]), (n_2, aI g 32 f0X2)] := S
  refine lv_aload_n hx hb dX6_init_15 rfl (lv_at hl 0 rfl) ?_
  refine top_new (K := RX2) (T := TX2) (N := 3) (ci := 2) (fs := [.null, .int 0, .int 0]) (cn := 3) (sn := 38) C S inX6_init_X2 tyX2 tyX2_ok rfl (by decide +kernel) (by decide +kernel) (by decide +kernel) (fun j hj => by rcases (show j = 0 ∨ j = 1 ∨ j = 2 by omega) with rfl | rfl | rfl <;> rfl) rfl rfl (Nat.le_of_ble_eq_true rfl) (Nat.le_of_ble_eq_true rfl) dX6_init_16 (fun n_3 H S => ?_)
  have S : ST g A ss H locs [(h, ob 6 [.ref n_1, .null, .null, .null, .null, .null, .null, .null]), (n_1, ob 2 [.ref n_2, .int 1, .int 1]), (n_2, aI g 32 f0X2), (n_3, ob 2 [.null, .int 0, .int 0])] := S
  refine lv_dup hx hb dX6_init_19 rfl ?_
  refine after_C (wc := [(n_3, ob 2 [.null, .int 0, .int 0])]) (y := yX2_init) (cn := 4) (sn := 70) C S (va_runI (As := []) (rest := [.ref n_3, .ref h]) C.1 (kX2_init l g n_3 H.size) (cwI 0 hts gX6_init_X2_init rfl rfl rfl (hts (.initialized RX2) (by decide +kernel)) (hts (.methodLink RX6 11 yX2_init) (by decide +kernel)) (hts (.instanceMethod yX2_init) (by decide +kernel)) rfl (by decide +kernel) ⟨Nat.le_of_ble_eq_true rfl, Nat.le_of_ble_eq_true rfl⟩) (prcS_at C S hAO [3] rfl (by decide)) rfl rfl hl.1 rfl (lv_room (Nat.le_of_ble_eq_true rfl)) dX6_init_20 ⟨Nat.le_of_ble_eq_true rfl, Nat.le_of_ble_eq_true rfl⟩) rfl rfl [3] [0, 1, 2] rfl (wr := [(h, ob 6 [.ref n_1, .null, .null, .null, .null, .null, .null, .null]), (n_1, ob 2 [.ref n_2, .int 1, .int 1]), (n_2, aI g 32 f0X2)]) rfl (by decide) (by decide) (fun w0 H locs hq S => ?_)
  obtain ⟨n_4, rfl⟩ := hq
  have S : ST g A ss H locs [(h, ob 6 [.ref n_1, .null, .null, .null, .null, .null, .null, .null]), (n_1, ob 2 [.ref n_2, .int 1, .int 1]), (n_2, aI g 32 f0X2), (n_3, ob 2 [.ref n_4, .int 1, .int 1]), (n_4, aI g 32 f0X2)] := S
  refine top_putF (v := .ref n_3) (ty := tyX6 1) C S inX6_init_X6 tyX6 tyX6_ok nmX6 rfl 0 rfl 1 (by decide) (by decide +kernel) rfl hin rfl (tyX6_ok 1 (by decide)) (by rfl) (by rfl) (Nat.le_of_ble_eq_true rfl) dX6_init_23 (fun H locs S => ?_)
  have S : ST g A ss H locs [(h, ob 6 [.ref n_1, .ref n_3, .null, .null, .null, .null, .null, .null]), (n_1, ob 2 [.ref n_2, .int 1, .int 1]), (n_2, aI g 32 f0X2), (n_3, ob 2 [.ref n_4, .int 1, .int 1]), (n_4, aI g 32 f0X2)] := S
  refine lv_aload_n hx hb dX6_init_26 rfl (lv_at hl 0 rfl) ?_
  refine top_new (K := RX5) (T := TX5) (N := 2) (ci := 5) (fs := [.null, .int 0]) (cn := 5) (sn := 72) C S inX6_init_X5 tyX5 tyX5_ok rfl (by decide +kernel) (by decide +kernel) (by decide +kernel) (fun j hj => by rcases (show j = 0 ∨ j = 1 by omega) with rfl | rfl <;> rfl) rfl rfl (Nat.le_of_ble_eq_true rfl) (Nat.le_of_ble_eq_true rfl) dX6_init_27 (fun n_5 H S => ?_)
  have S : ST g A ss H locs [(h, ob 6 [.ref n_1, .ref n_3, .null, .null, .null, .null, .null, .null]), (n_1, ob 2 [.ref n_2, .int 1, .int 1]), (n_2, aI g 32 f0X2), (n_3, ob 2 [.ref n_4, .int 1, .int 1]), (n_4, aI g 32 f0X2), (n_5, ob 5 [.null, .int 0])] := S
  refine lv_dup hx hb dX6_init_30 rfl ?_
  refine after_C (wc := [(n_5, ob 5 [.null, .int 0])]) (y := yX5_init) (cn := 6) (sn := 172) C S (va_runIN (As := []) (rest := [.ref n_5, .ref h]) C.1 (kX5_init l g n_5 H.size) ⟨va_cnB 0 hts gX6_init_X5_init_n21 rfl rfl rfl (C.2.2.1.1.2 ("StackedLeaves", 21, yX5_init) (by decide +kernel)) (hts (.initialized RX5) (by decide +kernel)) (by decide +kernel) ⟨Nat.le_of_ble_eq_true rfl, Nat.le_of_ble_eq_true rfl⟩, rfl, hts (.instanceMethod yX5_init) (by decide +kernel)⟩ (prcS_at C S hAO [5] rfl (by decide)) rfl rfl hl.1 rfl (lv_room (Nat.le_of_ble_eq_true rfl)) dX6_init_31 ⟨Nat.le_of_ble_eq_true rfl, Nat.le_of_ble_eq_true rfl⟩) rfl rfl [5] [0, 1, 2, 3, 4] rfl (wr := [(h, ob 6 [.ref n_1, .ref n_3, .null, .null, .null, .null, .null, .null]), (n_1, ob 2 [.ref n_2, .int 1, .int 1]), (n_2, aI g 32 f0X2), (n_3, ob 2 [.ref n_4, .int 1, .int 1]), (n_4, aI g 32 f0X2)]) rfl (by decide) (by decide) (fun w0 H locs hq S => ?_)
  obtain ⟨n_6, rfl⟩ := hq
  have S : ST g A ss H locs [(h, ob 6 [.ref n_1, .ref n_3, .null, .null, .null, .null, .null, .null]), (n_1, ob 2 [.ref n_2, .int 1, .int 1]), (n_2, aI g 32 f0X2), (n_3, ob 2 [.ref n_4, .int 1, .int 1]), (n_4, aI g 32 f0X2), (n_5, ob 5 [.ref n_6, .int 0]), (n_6, aC g 100 (fun _ => 0))] := S
  refine top_putF (v := .ref n_5) (ty := tyX6 2) C S inX6_init_X6 tyX6 tyX6_ok nmX6 rfl 0 rfl 2 (by decide) (by decide +kernel) rfl hin rfl (tyX6_ok 2 (by decide)) (by rfl) (by rfl) (Nat.le_of_ble_eq_true rfl) dX6_init_34 (fun H locs S => ?_)
  have S : ST g A ss H locs [(h, ob 6 [.ref n_1, .ref n_3, .ref n_5, .null, .null, .null, .null, .null]), (n_1, ob 2 [.ref n_2, .int 1, .int 1]), (n_2, aI g 32 f0X2), (n_3, ob 2 [.ref n_4, .int 1, .int 1]), (n_4, aI g 32 f0X2), (n_5, ob 5 [.ref n_6, .int 0]), (n_6, aC g 100 (fun _ => 0))] := S
  refine lv_aload_n hx hb dX6_init_37 rfl (lv_at hl 0 rfl) ?_
  refine top_new (K := RX0) (T := TX0) (N := 3) (ci := 0) (fs := [.null, .int 0, .int 0]) (cn := 7) (sn := 175) C S inX6_init_X0 tyX0 tyX0_ok rfl (by decide +kernel) (by decide +kernel) (by decide +kernel) (fun j hj => by rcases (show j = 0 ∨ j = 1 ∨ j = 2 by omega) with rfl | rfl | rfl <;> rfl) rfl rfl (Nat.le_of_ble_eq_true rfl) (Nat.le_of_ble_eq_true rfl) dX6_init_38 (fun n_7 H S => ?_)
  have S : ST g A ss H locs [(h, ob 6 [.ref n_1, .ref n_3, .ref n_5, .null, .null, .null, .null, .null]), (n_1, ob 2 [.ref n_2, .int 1, .int 1]), (n_2, aI g 32 f0X2), (n_3, ob 2 [.ref n_4, .int 1, .int 1]), (n_4, aI g 32 f0X2), (n_5, ob 5 [.ref n_6, .int 0]), (n_6, aC g 100 (fun _ => 0)), (n_7, ob 0 [.null, .int 0, .int 0])] := S
  refine lv_dup hx hb dX6_init_41 rfl ?_
  refine after_C (wc := [(n_7, ob 0 [.null, .int 0, .int 0])]) (y := yX0_init) (cn := 20) (sn := 391) C S (va_runI (As := []) (rest := [.ref n_7, .ref h]) C.1 (kX0_init l g n_7 H.size) (cwI 0 hts gX6_init_X0_init rfl rfl rfl (hts (.initialized RX0) (by decide +kernel)) (hts (.methodLink RX6 28 yX0_init) (by decide +kernel)) (hts (.instanceMethod yX0_init) (by decide +kernel)) rfl (by decide +kernel) ⟨Nat.le_of_ble_eq_true rfl, Nat.le_of_ble_eq_true rfl⟩) (prcS_at C S hAO [7] rfl (by decide)) rfl rfl hl.1 rfl (lv_room (Nat.le_of_ble_eq_true rfl)) dX6_init_42 ⟨Nat.le_of_ble_eq_true rfl, Nat.le_of_ble_eq_true rfl⟩) rfl rfl [7] [0, 1, 2, 3, 4, 5, 6] rfl (wr := [(h, ob 6 [.ref n_1, .ref n_3, .ref n_5, .null, .null, .null, .null, .null]), (n_1, ob 2 [.ref n_2, .int 1, .int 1]), (n_2, aI g 32 f0X2), (n_3, ob 2 [.ref n_4, .int 1, .int 1]), (n_4, aI g 32 f0X2), (n_5, ob 5 [.ref n_6, .int 0]), (n_6, aC g 100 (fun _ => 0))]) rfl (by decide) (by decide) (fun w0 H locs hq S => ?_)
  obtain ⟨n_8, n_9, n_10, n_11, n_12, n_13, n_14, n_15, n_16, n_17, n_18, n_19, n_20, rfl⟩ := hq
  have S : ST g A ss H locs [(h, ob 6 [.ref n_1, .ref n_3, .ref n_5, .null, .null, .null, .null, .null]), (n_1, ob 2 [.ref n_2, .int 1, .int 1]), (n_2, aI g 32 f0X2), (n_3, ob 2 [.ref n_4, .int 1, .int 1]), (n_4, aI g 32 f0X2), (n_5, ob 5 [.ref n_6, .int 0]), (n_6, aC g 100 (fun _ => 0)), (n_7, ob 0 [.ref n_8, .int 0, .int 0]), (n_8, aO g 6 (va_up (va_up (va_up (va_up (va_up (va_up (fun _ => none) 0 (some n_9)) (0 + 1) (some n_11)) ((0 + 1) + 1) (some n_13)) (((0 + 1) + 1) + 1) (some n_15)) ((((0 + 1) + 1) + 1) + 1) (some n_17)) (((((0 + 1) + 1) + 1) + 1) + 1) (some n_19))), (n_9, ob 2 [.ref n_10, .int 1, .int 1]), (n_10, aI g 32 f0X2), (n_11, ob 2 [.ref n_12, .int 1, .int 1]), (n_12, aI g 32 f0X2), (n_13, ob 2 [.ref n_14, .int 1, .int 1]), (n_14, aI g 32 f0X2), (n_15, ob 2 [.ref n_16, .int 1, .int 1]), (n_16, aI g 32 f0X2), (n_17, ob 2 [.ref n_18, .int 1, .int 1]), (n_18, aI g 32 f0X2), (n_19, ob 2 [.ref n_20, .int 1, .int 1]), (n_20, aI g 32 f0X2)] := S
  refine top_putF (v := .ref n_7) (ty := tyX6 3) C S inX6_init_X6 tyX6 tyX6_ok nmX6 rfl 0 rfl 3 (by decide) (by decide +kernel) rfl hin rfl (tyX6_ok 3 (by decide)) (by rfl) (by rfl) (Nat.le_of_ble_eq_true rfl) dX6_init_45 (fun H locs S => ?_)
  have S : ST g A ss H locs [(h, ob 6 [.ref n_1, .ref n_3, .ref n_5, .ref n_7, .null, .null, .null, .null]), (n_1, ob 2 [.ref n_2, .int 1, .int 1]), (n_2, aI g 32 f0X2), (n_3, ob 2 [.ref n_4, .int 1, .int 1]), (n_4, aI g 32 f0X2), (n_5, ob 5 [.ref n_6, .int 0]), (n_6, aC g 100 (fun _ => 0)), (n_7, ob 0 [.ref n_8, .int 0, .int 0]), (n_8, aO g 6 (va_up (va_up (va_up (va_up (va_up (va_up (fun _ => none) 0 (some n_9)) (0 + 1) (some n_11)) ((0 + 1) + 1) (some n_13)) (((0 + 1) + 1) + 1) (some n_15)) ((((0 + 1) + 1) + 1) + 1) (some n_17)) (((((0 + 1) + 1) + 1) + 1) + 1) (some n_19))), (n_9, ob 2 [.ref n_10, .int 1, .int 1]), (n_10, aI g 32 f0X2), (n_11, ob 2 [.ref n_12, .int 1, .int 1]), (n_12, aI g 32 f0X2), (n_13, ob 2 [.ref n_14, .int 1, .int 1]), (n_14, aI g 32 f0X2), (n_15, ob 2 [.ref n_16, .int 1, .int 1]), (n_16, aI g 32 f0X2), (n_17, ob 2 [.ref n_18, .int 1, .int 1]), (n_18, aI g 32 f0X2), (n_19, ob 2 [.ref n_20, .int 1, .int 1]), (n_20, aI g 32 f0X2)] := S
  refine lv_aload_n hx hb dX6_init_48 rfl (lv_at hl 0 rfl) ?_
  refine top_new (K := RX1) (T := TX1) (N := 2) (ci := 1) (fs := [.null, .int 0]) (cn := 21) (sn := 393) C S inX6_init_X1 tyX1 tyX1_ok rfl (by decide +kernel) (by decide +kernel) (by decide +kernel) (fun j hj => by rcases (show j = 0 ∨ j = 1 by omega) with rfl | rfl <;> rfl) rfl rfl (Nat.le_of_ble_eq_true rfl) (Nat.le_of_ble_eq_true rfl) dX6_init_49 (fun n_21 H S => ?_)
  have S : ST g A ss H locs [(h, ob 6 [.ref n_1, .ref n_3, .ref n_5, .ref n_7, .null, .null, .null, .null]), (n_1, ob 2 [.ref n_2, .int 1, .int 1]), (n_2, aI g 32 f0X2), (n_3, ob 2 [.ref n_4, .int 1, .int 1]), (n_4, aI g 32 f0X2), (n_5, ob 5 [.ref n_6, .int 0]), (n_6, aC g 100 (fun _ => 0)), (n_7, ob 0 [.ref n_8, .int 0, .int 0]), (n_8, aO g 6 (va_up (va_up (va_up (va_up (va_up (va_up (fun _ => none) 0 (some n_9)) (0 + 1) (some n_11)) ((0 + 1) + 1) (some n_13)) (((0 + 1) + 1) + 1) (some n_15)) ((((0 + 1) + 1) + 1) + 1) (some n_17)) (((((0 + 1) + 1) + 1) + 1) + 1) (some n_19))), (n_9, ob 2 [.ref n_10, .int 1, .int 1]), (n_10, aI g 32 f0X2), (n_11, ob 2 [.ref n_12, .int 1, .int 1]), (n_12, aI g 32 f0X2), (n_13, ob 2 [.ref n_14, .int 1, .int 1]), (n_14, aI g 32 f0X2), (n_15, ob 2 [.ref n_16, .int 1, .int 1]), (n_16, aI g 32 f0X2), (n_17, ob 2 [.ref n_18, .int 1, .int 1]), (n_18, aI g 32 f0X2), (n_19, ob 2 [.ref n_20, .int 1, .int 1]), (n_20, aI g 32 f0X2), (n_21, ob 1 [.null, .int 0])] := S
  refine lv_dup hx hb dX6_init_52 rfl ?_
  refine after_C (wc := [(n_21, ob 1 [.null, .int 0])]) (y := yX1_init) (cn := 26) (sn := 465) C S (va_runI (As := []) (rest := [.ref n_21, .ref h]) C.1 (kX1_init l g n_21 H.size) (cwI 0 hts gX6_init_X1_init rfl rfl rfl (hts (.initialized RX1) (by decide +kernel)) (hts (.methodLink RX6 35 yX1_init) (by decide +kernel)) (hts (.instanceMethod yX1_init) (by decide +kernel)) rfl (by decide +kernel) ⟨Nat.le_of_ble_eq_true rfl, Nat.le_of_ble_eq_true rfl⟩) (prcS_at C S hAO [21] rfl (by decide)) rfl rfl hl.1 rfl (lv_room (Nat.le_of_ble_eq_true rfl)) dX6_init_53 ⟨Nat.le_of_ble_eq_true rfl, Nat.le_of_ble_eq_true rfl⟩) rfl rfl [21] [0, 1, 2, 3, 4, 5, 6, 7, 8, 9, 10, 11, 12, 13, 14, 15, 16, 17, 18, 19, 20] rfl (wr := [(h, ob 6 [.ref n_1, .ref n_3, .ref n_5, .ref n_7, .null, .null, .null, .null]), (n_1, ob 2 [.ref n_2, .int 1, .int 1]), (n_2, aI g 32 f0X2), (n_3, ob 2 [.ref n_4, .int 1, .int 1]), (n_4, aI g 32 f0X2), (n_5, ob 5 [.ref n_6, .int 0]), (n_6, aC g 100 (fun _ => 0)), (n_7, ob 0 [.ref n_8, .int 0, .int 0]), (n_8, aO g 6 (va_up (va_up (va_up (va_up (va_up (va_up (fun _ => none) 0 (some n_9)) (0 + 1) (some n_11)) ((0 + 1) + 1) (some n_13)) (((0 + 1) + 1) + 1) (some n_15)) ((((0 + 1) + 1) + 1) + 1) (some n_17)) (((((0 + 1) + 1) + 1) + 1) + 1) (some n_19))), (n_9, ob 2 [.ref n_10, .int 1, .int 1]), (n_10, aI g 32 f0X2), (n_11, ob 2 [.ref n_12, .int 1, .int 1]), (n_12, aI g 32 f0X2), (n_13, ob 2 [.ref n_14, .int 1, .int 1]), (n_14, aI g 32 f0X2), (n_15, ob 2 [.ref n_16, .int 1, .int 1]), (n_16, aI g 32 f0X2), (n_17, ob 2 [.ref n_18, .int 1, .int 1]), (n_18, aI g 32 f0X2), (n_19, ob 2 [.ref n_20, .int 1, .int 1]), (n_20, aI g 32 f0X2)]) rfl (by decide) (by decide) (fun w0 H locs hq S => ?_)
  obtain ⟨n_22, n_23, n_24, n_25, n_26, rfl⟩ := hq
  have S : ST g A ss H locs [(h, ob 6 [.ref n_1, .ref n_3, .ref n_5, .ref n_7, .null, .null, .null, .null]), (n_1, ob 2 [.ref n_2, .int 1, .int 1]), (n_2, aI g 32 f0X2), (n_3, ob 2 [.ref n_4, .int 1, .int 1]), (n_4, aI g 32 f0X2), (n_5, ob 5 [.ref n_6, .int 0]), (n_6, aC g 100 (fun _ => 0)), (n_7, ob 0 [.ref n_8, .int 0, .int 0]), (n_8, aO g 6 (va_up (va_up (va_up (va_up (va_up (va_up (fun _ => none) 0 (some n_9)) (0 + 1) (some n_11)) ((0 + 1) + 1) (some n_13)) (((0 + 1) + 1) + 1) (some n_15)) ((((0 + 1) + 1) + 1) + 1) (some n_17)) (((((0 + 1) + 1) + 1) + 1) + 1) (some n_19))), (n_9, ob 2 [.ref n_10, .int 1, .int 1]), (n_10, aI g 32 f0X2), (n_11, ob 2 [.ref n_12, .int 1, .int 1]), (n_12, aI g 32 f0X2), (n_13, ob 2 [.ref n_14, .int 1, .int 1]), (n_14, aI g 32 f0X2), (n_15, ob 2 [.ref n_16, .int 1, .int 1]), (n_16, aI g 32 f0X2), (n_17, ob 2 [.ref n_18, .int 1, .int 1]), (n_18, aI g 32 f0X2), (n_19, ob 2 [.ref n_20, .int 1, .int 1]), (n_20, aI g 32 f0X2), (n_21, ob 1 [.ref n_22, .int 0]), (n_22, aO g 2 (va_up (va_up (fun _ => none) 0 (some n_23)) (0 + 1) (some n_25))), (n_23, ob 2 [.ref n_24, .int 1, .int 1]), (n_24, aI g 32 f0X2), (n_25, ob 2 [.ref n_26, .int 1, .int 1]), (n_26, aI g 32 f0X2)] := S
  refine top_putF (v := .ref n_21) (ty := tyX6 4) C S inX6_init_X6 tyX6 tyX6_ok nmX6 rfl 0 rfl 4 (by decide) (by decide +kernel) rfl hin rfl (tyX6_ok 4 (by decide)) (by rfl) (by rfl) (Nat.le_of_ble_eq_true rfl) dX6_init_56 (fun H locs S => ?_)
  have S : ST g A ss H locs [(h, ob 6 [.ref n_1, .ref n_3, .ref n_5, .ref n_7, .ref n_21, .null, .null, .null]), (n_1, ob 2 [.ref n_2, .int 1, .int 1]), (n_2, aI g 32 f0X2), (n_3, ob 2 [.ref n_4, .int 1, .int 1]), (n_4, aI g 32 f0X2), (n_5, ob 5 [.ref n_6, .int 0]), (n_6, aC g 100 (fun _ => 0)), (n_7, ob 0 [.ref n_8, .int 0, .int 0]), (n_8, aO g 6 (va_up (va_up (va_up (va_up (va_up (va_up (fun _ => none) 0 (some n_9)) (0 + 1) (some n_11)) ((0 + 1) + 1) (some n_13)) (((0 + 1) + 1) + 1) (some n_15)) ((((0 + 1) + 1) + 1) + 1) (some n_17)) (((((0 + 1) + 1) + 1) + 1) + 1) (some n_19))), (n_9, ob 2 [.ref n_10, .int 1, .int 1]), (n_10, aI g 32 f0X2), (n_11, ob 2 [.ref n_12, .int 1, .int 1]), (n_12, aI g 32 f0X2), (n_13, ob 2 [.ref n_14, .int 1, .int 1]), (n_14, aI g 32 f0X2), (n_15, ob 2 [.ref n_16, .int 1, .int 1]), (n_16, aI g 32 f0X2), (n_17, ob 2 [.ref n_18, .int 1, .int 1]), (n_18, aI g 32 f0X2), (n_19, ob 2 [.ref n_20, .int 1, .int 1]), (n_20, aI g 32 f0X2), (n_21, ob 1 [.ref n_22, .int 0]), (n_22, aO g 2 (va_up (va_up (fun _ => none) 0 (some n_23)) (0 + 1) (some n_25))), (n_23, ob 2 [.ref n_24, .int 1, .int 1]), (n_24, aI g 32 f0X2), (n_25, ob 2 [.ref n_26, .int 1, .int 1]), (n_26, aI g 32 f0X2)] := S
  refine lv_aload_n hx hb dX6_init_59 rfl (lv_at hl 0 rfl) ?_
  refine top_new (K := RX4) (T := TX4) (N := 3) (ci := 4) (fs := [.null, .null, .int 0]) (cn := 27) (sn := 468) C S inX6_init_X4 tyX4 tyX4_ok rfl (by decide +kernel) (by decide +kernel) (by decide +kernel) (fun j hj => by rcases (show j = 0 ∨ j = 1 ∨ j = 2 by omega) with rfl | rfl | rfl <;> rfl) rfl rfl (Nat.le_of_ble_eq_true rfl) (Nat.le_of_ble_eq_true rfl) dX6_init_60 (fun n_27 H S => ?_)
  have S : ST g A ss H locs [(h, ob 6 [.ref n_1, .ref n_3, .ref n_5, .ref n_7, .ref n_21, .null, .null, .null]), (n_1, ob 2 [.ref n_2, .int 1, .int 1]), (n_2, aI g 32 f0X2), (n_3, ob 2 [.ref n_4, .int 1, .int 1]), (n_4, aI g 32 f0X2), (n_5, ob 5 [.ref n_6, .int 0]), (n_6, aC g 100 (fun _ => 0)), (n_7, ob 0 [.ref n_8, .int 0, .int 0]), (n_8, aO g 6 (va_up (va_up (va_up (va_up (va_up (va_up (fun _ => none) 0 (some n_9)) (0 + 1) (some n_11)) ((0 + 1) + 1) (some n_13)) (((0 + 1) + 1) + 1) (some n_15)) ((((0 + 1) + 1) + 1) + 1) (some n_17)) (((((0 + 1) + 1) + 1) + 1) + 1) (some n_19))), (n_9, ob 2 [.ref n_10, .int 1, .int 1]), (n_10, aI g 32 f0X2), (n_11, ob 2 [.ref n_12, .int 1, .int 1]), (n_12, aI g 32 f0X2), (n_13, ob 2 [.ref n_14, .int 1, .int 1]), (n_14, aI g 32 f0X2), (n_15, ob 2 [.ref n_16, .int 1, .int 1]), (n_16, aI g 32 f0X2), (n_17, ob 2 [.ref n_18, .int 1, .int 1]), (n_18, aI g 32 f0X2), (n_19, ob 2 [.ref n_20, .int 1, .int 1]), (n_20, aI g 32 f0X2), (n_21, ob 1 [.ref n_22, .int 0]), (n_22, aO g 2 (va_up (va_up (fun _ => none) 0 (some n_23)) (0 + 1) (some n_25))), (n_23, ob 2 [.ref n_24, .int 1, .int 1]), (n_24, aI g 32 f0X2), (n_25, ob 2 [.ref n_26, .int 1, .int 1]), (n_26, aI g 32 f0X2), (n_27, ob 4 [.null, .null, .int 0])] := S
  refine lv_dup hx hb dX6_init_63 rfl ?_
  refine after_C (wc := [(n_27, ob 4 [.null, .null, .int 0])]) (y := yX4_init) (cn := 29) (sn := 480) C S (va_runIN (As := []) (rest := [.ref n_27, .ref h]) C.1 (kX4_init l g n_27 H.size) ⟨va_cnB 0 hts gX6_init_X4_init_n42 rfl rfl rfl (C.2.2.1.1.2 ("StackedLeaves", 42, yX4_init) (by decide +kernel)) (hts (.initialized RX4) (by decide +kernel)) (by decide +kernel) ⟨Nat.le_of_ble_eq_true rfl, Nat.le_of_ble_eq_true rfl⟩, rfl, hts (.instanceMethod yX4_init) (by decide +kernel)⟩ (prcS_at C S hAO [27] rfl (by decide)) rfl rfl hl.1 rfl (lv_room (Nat.le_of_ble_eq_true rfl)) dX6_init_64 ⟨Nat.le_of_ble_eq_true rfl, Nat.le_of_ble_eq_true rfl⟩) rfl rfl [27] [0, 1, 2, 3, 4, 5, 6, 7, 8, 9, 10, 11, 12, 13, 14, 15, 16, 17, 18, 19, 20, 21, 22, 23, 24, 25, 26] rfl (wr := [(h, ob 6 [.ref n_1, .ref n_3, .ref n_5, .ref n_7, .ref n_21, .null, .null, .null]), (n_1, ob 2 [.ref n_2, .int 1, .int 1]), (n_2, aI g 32 f0X2), (n_3, ob 2 [.ref n_4, .int 1, .int 1]), (n_4, aI g 32 f0X2), (n_5, ob 5 [.ref n_6, .int 0]), (n_6, aC g 100 (fun _ => 0)), (n_7, ob 0 [.ref n_8, .int 0, .int 0]), (n_8, aO g 6 (va_up (va_up (va_up (va_up (va_up (va_up (fun _ => none) 0 (some n_9)) (0 + 1) (some n_11)) ((0 + 1) + 1) (some n_13)) (((0 + 1) + 1) + 1) (some n_15)) ((((0 + 1) + 1) + 1) + 1) (some n_17)) (((((0 + 1) + 1) + 1) + 1) + 1) (some n_19))), (n_9, ob 2 [.ref n_10, .int 1, .int 1]), (n_10, aI g 32 f0X2), (n_11, ob 2 [.ref n_12, .int 1, .int 1]), (n_12, aI g 32 f0X2), (n_13, ob 2 [.ref n_14, .int 1, .int 1]), (n_14, aI g 32 f0X2), (n_15, ob 2 [.ref n_16, .int 1, .int 1]), (n_16, aI g 32 f0X2), (n_17, ob 2 [.ref n_18, .int 1, .int 1]), (n_18, aI g 32 f0X2), (n_19, ob 2 [.ref n_20, .int 1, .int 1]), (n_20, aI g 32 f0X2), (n_21, ob 1 [.ref n_22, .int 0]), (n_22, aO g 2 (va_up (va_up (fun _ => none) 0 (some n_23)) (0 + 1) (some n_25))), (n_23, ob 2 [.ref n_24, .int 1, .int 1]), (n_24, aI g 32 f0X2), (n_25, ob 2 [.ref n_26, .int 1, .int 1]), (n_26, aI g 32 f0X2)]) rfl (by decide) (by decide) (fun w0 H locs hq S => ?_)
  obtain ⟨n_28, n_29, rfl⟩ := hq
  have S : ST g A ss H locs [(h, ob 6 [.ref n_1, .ref n_3, .ref n_5, .ref n_7, .ref n_21, .null, .null, .null]), (n_1, ob 2 [.ref n_2, .int 1, .int 1]), (n_2, aI g 32 f0X2), (n_3, ob 2 [.ref n_4, .int 1, .int 1]), (n_4, aI g 32 f0X2), (n_5, ob 5 [.ref n_6, .int 0]), (n_6, aC g 100 (fun _ => 0)), (n_7, ob 0 [.ref n_8, .int 0, .int 0]), (n_8, aO g 6 (va_up (va_up (va_up (va_up (va_up (va_up (fun _ => none) 0 (some n_9)) (0 + 1) (some n_11)) ((0 + 1) + 1) (some n_13)) (((0 + 1) + 1) + 1) (some n_15)) ((((0 + 1) + 1) + 1) + 1) (some n_17)) (((((0 + 1) + 1) + 1) + 1) + 1) (some n_19))), (n_9, ob 2 [.ref n_10, .int 1, .int 1]), (n_10, aI g 32 f0X2), (n_11, ob 2 [.ref n_12, .int 1, .int 1]), (n_12, aI g 32 f0X2), (n_13, ob 2 [.ref n_14, .int 1, .int 1]), (n_14, aI g 32 f0X2), (n_15, ob 2 [.ref n_16, .int 1, .int 1]), (n_16, aI g 32 f0X2), (n_17, ob 2 [.ref n_18, .int 1, .int 1]), (n_18, aI g 32 f0X2), (n_19, ob 2 [.ref n_20, .int 1, .int 1]), (n_20, aI g 32 f0X2), (n_21, ob 1 [.ref n_22, .int 0]), (n_22, aO g 2 (va_up (va_up (fun _ => none) 0 (some n_23)) (0 + 1) (some n_25))), (n_23, ob 2 [.ref n_24, .int 1, .int 1]), (n_24, aI g 32 f0X2), (n_25, ob 2 [.ref n_26, .int 1, .int 1]), (n_26, aI g 32 f0X2), (n_27, ob 4 [.ref n_28, .ref n_29, .int 0]), (n_28, aI g 6 (fun _ => 0)), (n_29, aI g 6 (fun _ => 0))] := S
  refine top_putF (v := .ref n_27) (ty := tyX6 5) C S inX6_init_X6 tyX6 tyX6_ok nmX6 rfl 0 rfl 5 (by decide) (by decide +kernel) rfl hin rfl (tyX6_ok 5 (by decide)) (by rfl) (by rfl) (Nat.le_of_ble_eq_true rfl) dX6_init_67 (fun H locs S => ?_)
  have S : ST g A ss H locs [(h, ob 6 [.ref n_1, .ref n_3, .ref n_5, .ref n_7, .ref n_21, .ref n_27, .null, .null]), (n_1, ob 2 [.ref n_2, .int 1, .int 1]), (n_2, aI g 32 f0X2), (n_3, ob 2 [.ref n_4, .int 1, .int 1]), (n_4, aI g 32 f0X2), (n_5, ob 5 [.ref n_6, .int 0]), (n_6, aC g 100 (fun _ => 0)), (n_7, ob 0 [.ref n_8, .int 0, .int 0]), (n_8, aO g 6 (va_up (va_up (va_up (va_up (va_up (va_up (fun _ => none) 0 (some n_9)) (0 + 1) (some n_11)) ((0 + 1) + 1) (some n_13)) (((0 + 1) + 1) + 1) (some n_15)) ((((0 + 1) + 1) + 1) + 1) (some n_17)) (((((0 + 1) + 1) + 1) + 1) + 1) (some n_19))), (n_9, ob 2 [.ref n_10, .int 1, .int 1]), (n_10, aI g 32 f0X2), (n_11, ob 2 [.ref n_12, .int 1, .int 1]), (n_12, aI g 32 f0X2), (n_13, ob 2 [.ref n_14, .int 1, .int 1]), (n_14, aI g 32 f0X2), (n_15, ob 2 [.ref n_16, .int 1, .int 1]), (n_16, aI g 32 f0X2), (n_17, ob 2 [.ref n_18, .int 1, .int 1]), (n_18, aI g 32 f0X2), (n_19, ob 2 [.ref n_20, .int 1, .int 1]), (n_20, aI g 32 f0X2), (n_21, ob 1 [.ref n_22, .int 0]), (n_22, aO g 2 (va_up (va_up (fun _ => none) 0 (some n_23)) (0 + 1) (some n_25))), (n_23, ob 2 [.ref n_24, .int 1, .int 1]), (n_24, aI g 32 f0X2), (n_25, ob 2 [.ref n_26, .int 1, .int 1]), (n_26, aI g 32 f0X2), (n_27, ob 4 [.ref n_28, .ref n_29, .int 0]), (n_28, aI g 6 (fun _ => 0)), (n_29, aI g 6 (fun _ => 0))] := S
  refine lv_aload_n hx hb dX6_init_70 rfl (lv_at hl 0 rfl) ?_
  refine top_new (K := RX3) (T := TX3) (N := 8) (ci := 3) (fs := [.null, .null, .null, .int 0, .int 0, .int 0, .int 0, .int 0]) (cn := 30) (sn := 488) C S inX6_init_X3 tyX3 tyX3_ok rfl (by decide +kernel) (by decide +kernel) (by decide +kernel) (fun j hj => by rcases (show j = 0 ∨ j = 1 ∨ j = 2 ∨ j = 3 ∨ j = 4 ∨ j = 5 ∨ j = 6 ∨ j = 7 by omega) with rfl | rfl | rfl | rfl | rfl | rfl | rfl | rfl <;> rfl) rfl rfl (Nat.le_of_ble_eq_true rfl) (Nat.le_of_ble_eq_true rfl) dX6_init_71 (fun n_30 H S => ?_)
  have S : ST g A ss H locs [(h, ob 6 [.ref n_1, .ref n_3, .ref n_5, .ref n_7, .ref n_21, .ref n_27, .null, .null]), (n_1, ob 2 [.ref n_2, .int 1, .int 1]), (n_2, aI g 32 f0X2), (n_3, ob 2 [.ref n_4, .int 1, .int 1]), (n_4, aI g 32 f0X2), (n_5, ob 5 [.ref n_6, .int 0]), (n_6, aC g 100 (fun _ => 0)), (n_7, ob 0 [.ref n_8, .int 0, .int 0]), (n_8, aO g 6 (va_up (va_up (va_up (va_up (va_up (va_up (fun _ => none) 0 (some n_9)) (0 + 1) (some n_11)) ((0 + 1) + 1) (some n_13)) (((0 + 1) + 1) + 1) (some n_15)) ((((0 + 1) + 1) + 1) + 1) (some n_17)) (((((0 + 1) + 1) + 1) + 1) + 1) (some n_19))), (n_9, ob 2 [.ref n_10, .int 1, .int 1]), (n_10, aI g 32 f0X2), (n_11, ob 2 [.ref n_12, .int 1, .int 1]), (n_12, aI g 32 f0X2), (n_13, ob 2 [.ref n_14, .int 1, .int 1]), (n_14, aI g 32 f0X2), (n_15, ob 2 [.ref n_16, .int 1, .int 1]), (n_16, aI g 32 f0X2), (n_17, ob 2 [.ref n_18, .int 1, .int 1]), (n_18, aI g 32 f0X2), (n_19, ob 2 [.ref n_20, .int 1, .int 1]), (n_20, aI g 32 f0X2), (n_21, ob 1 [.ref n_22, .int 0]), (n_22, aO g 2 (va_up (va_up (fun _ => none) 0 (some n_23)) (0 + 1) (some n_25))), (n_23, ob 2 [.ref n_24, .int 1, .int 1]), (n_24, aI g 32 f0X2), (n_25, ob 2 [.ref n_26, .int 1, .int 1]), (n_26, aI g 32 f0X2), (n_27, ob 4 [.ref n_28, .ref n_29, .int 0]), (n_28, aI g 6 (fun _ => 0)), (n_29, aI g 6 (fun _ => 0)), (n_30, ob 3 [.null, .null, .null, .int 0, .int 0, .int 0, .int 0, .int 0])] := S
  refine lv_dup hx hb dX6_init_74 rfl ?_
  refine after_C (wc := [(n_30, ob 3 [.null, .null, .null, .int 0, .int 0, .int 0, .int 0, .int 0])]) (y := yX3_init) (cn := 33) (sn := 512) C S (va_runIN (As := []) (rest := [.ref n_30, .ref h]) C.1 (kX3_init l g n_30 H.size) ⟨va_cnB 0 hts gX6_init_X3_init_n49 rfl rfl rfl (C.2.2.1.1.2 ("StackedLeaves", 49, yX3_init) (by decide +kernel)) (hts (.initialized RX3) (by decide +kernel)) (by decide +kernel) ⟨Nat.le_of_ble_eq_true rfl, Nat.le_of_ble_eq_true rfl⟩, rfl, hts (.instanceMethod yX3_init) (by decide +kernel)⟩ (prcS_at C S hAO [30] rfl (by decide)) rfl rfl hl.1 rfl (lv_room (Nat.le_of_ble_eq_true rfl)) dX6_init_75 ⟨Nat.le_of_ble_eq_true rfl, Nat.le_of_ble_eq_true rfl⟩) rfl rfl [30] [0, 1, 2, 3, 4, 5, 6, 7, 8, 9, 10, 11, 12, 13, 14, 15, 16, 17, 18, 19, 20, 21, 22, 23, 24, 25, 26, 27, 28, 29] rfl (wr := [(h, ob 6 [.ref n_1, .ref n_3, .ref n_5, .ref n_7, .ref n_21, .ref n_27, .null, .null]), (n_1, ob 2 [.ref n_2, .int 1, .int 1]), (n_2, aI g 32 f0X2), (n_3, ob 2 [.ref n_4, .int 1, .int 1]), (n_4, aI g 32 f0X2), (n_5, ob 5 [.ref n_6, .int 0]), (n_6, aC g 100 (fun _ => 0)), (n_7, ob 0 [.ref n_8, .int 0, .int 0]), (n_8, aO g 6 (va_up (va_up (va_up (va_up (va_up (va_up (fun _ => none) 0 (some n_9)) (0 + 1) (some n_11)) ((0 + 1) + 1) (some n_13)) (((0 + 1) + 1) + 1) (some n_15)) ((((0 + 1) + 1) + 1) + 1) (some n_17)) (((((0 + 1) + 1) + 1) + 1) + 1) (some n_19))), (n_9, ob 2 [.ref n_10, .int 1, .int 1]), (n_10, aI g 32 f0X2), (n_11, ob 2 [.ref n_12, .int 1, .int 1]), (n_12, aI g 32 f0X2), (n_13, ob 2 [.ref n_14, .int 1, .int 1]), (n_14, aI g 32 f0X2), (n_15, ob 2 [.ref n_16, .int 1, .int 1]), (n_16, aI g 32 f0X2), (n_17, ob 2 [.ref n_18, .int 1, .int 1]), (n_18, aI g 32 f0X2), (n_19, ob 2 [.ref n_20, .int 1, .int 1]), (n_20, aI g 32 f0X2), (n_21, ob 1 [.ref n_22, .int 0]), (n_22, aO g 2 (va_up (va_up (fun _ => none) 0 (some n_23)) (0 + 1) (some n_25))), (n_23, ob 2 [.ref n_24, .int 1, .int 1]), (n_24, aI g 32 f0X2), (n_25, ob 2 [.ref n_26, .int 1, .int 1]), (n_26, aI g 32 f0X2), (n_27, ob 4 [.ref n_28, .ref n_29, .int 0]), (n_28, aI g 6 (fun _ => 0)), (n_29, aI g 6 (fun _ => 0))]) rfl (by decide) (by decide) (fun w0 H locs hq S => ?_)
  obtain ⟨n_31, n_32, n_33, rfl⟩ := hq
  have S : ST g A ss H locs [(h, ob 6 [.ref n_1, .ref n_3, .ref n_5, .ref n_7, .ref n_21, .ref n_27, .null, .null]), (n_1, ob 2 [.ref n_2, .int 1, .int 1]), (n_2, aI g 32 f0X2), (n_3, ob 2 [.ref n_4, .int 1, .int 1]), (n_4, aI g 32 f0X2), (n_5, ob 5 [.ref n_6, .int 0]), (n_6, aC g 100 (fun _ => 0)), (n_7, ob 0 [.ref n_8, .int 0, .int 0]), (n_8, aO g 6 (va_up (va_up (va_up (va_up (va_up (va_up (fun _ => none) 0 (some n_9)) (0 + 1) (some n_11)) ((0 + 1) + 1) (some n_13)) (((0 + 1) + 1) + 1) (some n_15)) ((((0 + 1) + 1) + 1) + 1) (some n_17)) (((((0 + 1) + 1) + 1) + 1) + 1) (some n_19))), (n_9, ob 2 [.ref n_10, .int 1, .int 1]), (n_10, aI g 32 f0X2), (n_11, ob 2 [.ref n_12, .int 1, .int 1]), (n_12, aI g 32 f0X2), (n_13, ob 2 [.ref n_14, .int 1, .int 1]), (n_14, aI g 32 f0X2), (n_15, ob 2 [.ref n_16, .int 1, .int 1]), (n_16, aI g 32 f0X2), (n_17, ob 2 [.ref n_18, .int 1, .int 1]), (n_18, aI g 32 f0X2), (n_19, ob 2 [.ref n_20, .int 1, .int 1]), (n_20, aI g 32 f0X2), (n_21, ob 1 [.ref n_22, .int 0]), (n_22, aO g 2 (va_up (va_up (fun _ => none) 0 (some n_23)) (0 + 1) (some n_25))), (n_23, ob 2 [.ref n_24, .int 1, .int 1]), (n_24, aI g 32 f0X2), (n_25, ob 2 [.ref n_26, .int 1, .int 1]), (n_26, aI g 32 f0X2), (n_27, ob 4 [.ref n_28, .ref n_29, .int 0]), (n_28, aI g 6 (fun _ => 0)), (n_29, aI g 6 (fun _ => 0)), (n_30, ob 3 [.ref n_31, .ref n_32, .ref n_33, .int 0, .int 0, .int 0, .int 0, .int 0]), (n_31, aI g 8 (fun _ => 0)), (n_32, aI g 8 (fun _ => 0)), (n_33, aI g 8 (fun _ => 0))] := S
  refine top_putF (v := .ref n_30) (ty := tyX6 6) C S inX6_init_X6 tyX6 tyX6_ok nmX6 rfl 0 rfl 6 (by decide) (by decide +kernel) rfl hin rfl (tyX6_ok 6 (by decide)) (by rfl) (by rfl) (Nat.le_of_ble_eq_true rfl) dX6_init_78 (fun H locs S => ?_)
  have S : ST g A ss H locs [(h, ob 6 [.ref n_1, .ref n_3, .ref n_5, .ref n_7, .ref n_21, .ref n_27, .ref n_30, .null]), (n_1, ob 2 [.ref n_2, .int 1, .int 1]), (n_2, aI g 32 f0X2), (n_3, ob 2 [.ref n_4, .int 1, .int 1]), (n_4, aI g 32 f0X2), (n_5, ob 5 [.ref n_6, .int 0]), (n_6, aC g 100 (fun _ => 0)), (n_7, ob 0 [.ref n_8, .int 0, .int 0]), (n_8, aO g 6 (va_up (va_up (va_up (va_up (va_up (va_up (fun _ => none) 0 (some n_9)) (0 + 1) (some n_11)) ((0 + 1) + 1) (some n_13)) (((0 + 1) + 1) + 1) (some n_15)) ((((0 + 1) + 1) + 1) + 1) (some n_17)) (((((0 + 1) + 1) + 1) + 1) + 1) (some n_19))), (n_9, ob 2 [.ref n_10, .int 1, .int 1]), (n_10, aI g 32 f0X2), (n_11, ob 2 [.ref n_12, .int 1, .int 1]), (n_12, aI g 32 f0X2), (n_13, ob 2 [.ref n_14, .int 1, .int 1]), (n_14, aI g 32 f0X2), (n_15, ob 2 [.ref n_16, .int 1, .int 1]), (n_16, aI g 32 f0X2), (n_17, ob 2 [.ref n_18, .int 1, .int 1]), (n_18, aI g 32 f0X2), (n_19, ob 2 [.ref n_20, .int 1, .int 1]), (n_20, aI g 32 f0X2), (n_21, ob 1 [.ref n_22, .int 0]), (n_22, aO g 2 (va_up (va_up (fun _ => none) 0 (some n_23)) (0 + 1) (some n_25))), (n_23, ob 2 [.ref n_24, .int 1, .int 1]), (n_24, aI g 32 f0X2), (n_25, ob 2 [.ref n_26, .int 1, .int 1]), (n_26, aI g 32 f0X2), (n_27, ob 4 [.ref n_28, .ref n_29, .int 0]), (n_28, aI g 6 (fun _ => 0)), (n_29, aI g 6 (fun _ => 0)), (n_30, ob 3 [.ref n_31, .ref n_32, .ref n_33, .int 0, .int 0, .int 0, .int 0, .int 0]), (n_31, aI g 8 (fun _ => 0)), (n_32, aI g 8 (fun _ => 0)), (n_33, aI g 8 (fun _ => 0))] := S
  refine lv_aload_n hx hb dX6_init_81 rfl (lv_at hl 0 rfl) ?_
  refine lv_bipush (v := 9) hx hb dX6_init_82 (by decide) ?_
  refine top_newI (cn := 34) (sn := 521) (N' := 9) C S (hts (.arrayClass .int) (by decide +kernel)) rfl (by decide) rfl rfl (Nat.le_of_ble_eq_true rfl) (Nat.le_of_ble_eq_true rfl) dX6_init_84 (fun n_34 H S => ?_)
  have S : ST g A ss H locs [(h, ob 6 [.ref n_1, .ref n_3, .ref n_5, .ref n_7, .ref n_21, .ref n_27, .ref n_30, .null]), (n_1, ob 2 [.ref n_2, .int 1, .int 1]), (n_2, aI g 32 f0X2), (n_3, ob 2 [.ref n_4, .int 1, .int 1]), (n_4, aI g 32 f0X2), (n_5, ob 5 [.ref n_6, .int 0]), (n_6, aC g 100 (fun _ => 0)), (n_7, ob 0 [.ref n_8, .int 0, .int 0]), (n_8, aO g 6 (va_up (va_up (va_up (va_up (va_up (va_up (fun _ => none) 0 (some n_9)) (0 + 1) (some n_11)) ((0 + 1) + 1) (some n_13)) (((0 + 1) + 1) + 1) (some n_15)) ((((0 + 1) + 1) + 1) + 1) (some n_17)) (((((0 + 1) + 1) + 1) + 1) + 1) (some n_19))), (n_9, ob 2 [.ref n_10, .int 1, .int 1]), (n_10, aI g 32 f0X2), (n_11, ob 2 [.ref n_12, .int 1, .int 1]), (n_12, aI g 32 f0X2), (n_13, ob 2 [.ref n_14, .int 1, .int 1]), (n_14, aI g 32 f0X2), (n_15, ob 2 [.ref n_16, .int 1, .int 1]), (n_16, aI g 32 f0X2), (n_17, ob 2 [.ref n_18, .int 1, .int 1]), (n_18, aI g 32 f0X2), (n_19, ob 2 [.ref n_20, .int 1, .int 1]), (n_20, aI g 32 f0X2), (n_21, ob 1 [.ref n_22, .int 0]), (n_22, aO g 2 (va_up (va_up (fun _ => none) 0 (some n_23)) (0 + 1) (some n_25))), (n_23, ob 2 [.ref n_24, .int 1, .int 1]), (n_24, aI g 32 f0X2), (n_25, ob 2 [.ref n_26, .int 1, .int 1]), (n_26, aI g 32 f0X2), (n_27, ob 4 [.ref n_28, .ref n_29, .int 0]), (n_28, aI g 6 (fun _ => 0)), (n_29, aI g 6 (fun _ => 0)), (n_30, ob 3 [.ref n_31, .ref n_32, .ref n_33, .int 0, .int 0, .int 0, .int 0, .int 0]), (n_31, aI g 8 (fun _ => 0)), (n_32, aI g 8 (fun _ => 0)), (n_33, aI g 8 (fun _ => 0)), (n_34, aI g 9 (fun _ => 0))] := S
  refine top_putF (v := .ref n_34) (ty := tyX6 7) C S inX6_init_X6 tyX6 tyX6_ok nmX6 rfl 0 rfl 7 (by decide) (by decide +kernel) rfl hin rfl (tyX6_ok 7 (by decide)) (by rfl) (by rfl) (Nat.le_of_ble_eq_true rfl) dX6_init_86 (fun H locs S => ?_)
  have S : ST g A ss H locs [(h, ob 6 [.ref n_1, .ref n_3, .ref n_5, .ref n_7, .ref n_21, .ref n_27, .ref n_30, .ref n_34]), (n_1, ob 2 [.ref n_2, .int 1, .int 1]), (n_2, aI g 32 f0X2), (n_3, ob 2 [.ref n_4, .int 1, .int 1]), (n_4, aI g 32 f0X2), (n_5, ob 5 [.ref n_6, .int 0]), (n_6, aC g 100 (fun _ => 0)), (n_7, ob 0 [.ref n_8, .int 0, .int 0]), (n_8, aO g 6 (va_up (va_up (va_up (va_up (va_up (va_up (fun _ => none) 0 (some n_9)) (0 + 1) (some n_11)) ((0 + 1) + 1) (some n_13)) (((0 + 1) + 1) + 1) (some n_15)) ((((0 + 1) + 1) + 1) + 1) (some n_17)) (((((0 + 1) + 1) + 1) + 1) + 1) (some n_19))), (n_9, ob 2 [.ref n_10, .int 1, .int 1]), (n_10, aI g 32 f0X2), (n_11, ob 2 [.ref n_12, .int 1, .int 1]), (n_12, aI g 32 f0X2), (n_13, ob 2 [.ref n_14, .int 1, .int 1]), (n_14, aI g 32 f0X2), (n_15, ob 2 [.ref n_16, .int 1, .int 1]), (n_16, aI g 32 f0X2), (n_17, ob 2 [.ref n_18, .int 1, .int 1]), (n_18, aI g 32 f0X2), (n_19, ob 2 [.ref n_20, .int 1, .int 1]), (n_20, aI g 32 f0X2), (n_21, ob 1 [.ref n_22, .int 0]), (n_22, aO g 2 (va_up (va_up (fun _ => none) 0 (some n_23)) (0 + 1) (some n_25))), (n_23, ob 2 [.ref n_24, .int 1, .int 1]), (n_24, aI g 32 f0X2), (n_25, ob 2 [.ref n_26, .int 1, .int 1]), (n_26, aI g 32 f0X2), (n_27, ob 4 [.ref n_28, .ref n_29, .int 0]), (n_28, aI g 6 (fun _ => 0)), (n_29, aI g 6 (fun _ => 0)), (n_30, ob 3 [.ref n_31, .ref n_32, .ref n_33, .int 0, .int 0, .int 0, .int 0, .int 0]), (n_31, aI g 8 (fun _ => 0)), (n_32, aI g 8 (fun _ => 0)), (n_33, aI g 8 (fun _ => 0)), (n_34, aI g 9 (fun _ => 0))] := S
  exact ret_C C S hr dX6_init_89 ⟨n_1, n_2, n_3, n_4, n_5, n_6, n_7, n_8, n_9, n_10, n_11, n_12, n_13, n_14, n_15, n_16, n_17, n_18, n_19, n_20, n_21, n_22, n_23, n_24, n_25, n_26, n_27, n_28, n_29, n_30, n_31, n_32, n_33, n_34, rfl⟩
