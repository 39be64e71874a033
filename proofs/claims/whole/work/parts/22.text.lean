theorem inX5_appendn_X5 : ∀ w ∈ wsX50, w ∈ wsX5_append := by decide +kernel
set_option maxRecDepth 100000 in
set_option maxHeartbeats 4000000 in
theorem kX5_appendn (l : Launch) (g : GG) (th : Nat) (tl : Nat) (tx : Nat → Int32) (z : Nat) (x : Int32) (hz : 100 ≤ z) (hz1 : z ≤ 100) : KI l g yX5_append wsX5_append 0 0 [.ref th, .int x] [(th, ob 5 [.ref tl, .int (nI z)]), (tl, aC g 100 tx)] (fun (r : Int32) (w' : va_W) => r = (bI false) ∧ w' = [(th, ob 5 [.ref tl, .int (nI z)]), (tl, aC g 100 tx)]) := by
  refine kI_of (cc := cX5_append) (maxL := 2) (by decide) rfl (Nat.le_of_ble_eq_true rfl) ?_
  intro pp ee ss mm bel mth cd A ls C S hr hl
  obtain ⟨hx, hb, hml, hown, hts⟩ := id C.1
  have hl : lv_has ls 2 [(0, .ref th), (1, .int x)] := hl
  obtain ⟨H, hH⟩ : ∃ H, H = ss.heap := ⟨_, rfl⟩
  obtain ⟨locs, hL0⟩ : ∃ L : List Loc, L = [] := ⟨_, rfl⟩
  rw [← hH, ← hL0] at S ⊢
  refine lv_aload_n hx hb dX5_append_0 rfl (lv_at hl 0 rfl) ?_
  refine top_get C S inX5_appendn_X5 rfl 0 rfl 1 (by decide) (by decide +kernel) rfl rfl dX5_append_1 ?_
  refine lv_bipush (v := 100) hx hb dX5_append_4 (by decide) ?_
  refine bn_ilt (tgt := 11) (a := z) (b := 100) hx hb rfl rfl (by omega) (by omega) dX5_append_6 (by decide) (fun c_1 => ?_) (fun c_1 => ?_)
  · -- 6 T
    exact absurd c_1 (by omega)
  · -- 6 F
    refine lv_iconst (v := 0) hx hb dX5_append_9 (by decide) ?_
    exact ret_Z (false) C S hr dX5_append_10 (rfl) ⟨(rfl), (rfl)⟩

theorem inX5_appendy_X5 : ∀ w ∈ wsX50, w ∈ wsX5_append := by decide +kernel
set_option maxRecDepth 100000 in
set_option maxHeartbeats 4000000 in
theorem kX5_appendy (l : Launch) (g : GG) (th : Nat) (tl : Nat) (tx : Nat → Int32) (z : Nat) (c : Nat) (hz : z < 100) (hc : c < 256) : KI l g yX5_append wsX5_append 0 0 [.ref th, .int (nI c)] [(th, ob 5 [.ref tl, .int (nI z)]), (tl, aC g 100 tx)] (fun (r : Int32) (w' : va_W) => r = (bI true) ∧ w' = [(th, ob 5 [.ref tl, .int (nI (z + 1))]), (tl, aC g 100 (upd tx z (nI c)))]) := by
  refine kI_of (cc := cX5_append) (maxL := 2) (by decide) rfl (Nat.le_of_ble_eq_true rfl) ?_
  intro pp ee ss mm bel mth cd A ls C S hr hl
  obtain ⟨hx, hb, hml, hown, hts⟩ := id C.1
  have hl : lv_has ls 2 [(0, .ref th), (1, .int (nI c))] := hl
  obtain ⟨H, hH⟩ : ∃ H, H = ss.heap := ⟨_, rfl⟩
  obtain ⟨locs, hL0⟩ : ∃ L : List Loc, L = [] := ⟨_, rfl⟩
  rw [← hH, ← hL0] at S ⊢
  refine lv_aload_n hx hb dX5_append_0 rfl (lv_at hl 0 rfl) ?_
  refine top_get C S inX5_appendy_X5 rfl 0 rfl 1 (by decide) (by decide +kernel) rfl rfl dX5_append_1 ?_
  refine lv_bipush (v := 100) hx hb dX5_append_4 (by decide) ?_
  refine bn_ilt (tgt := 11) (a := z) (b := 100) hx hb rfl rfl (by omega) (by omega) dX5_append_6 (by decide) (fun c_1 => ?_) (fun c_1 => ?_)
  · -- 6 T
    refine lv_aload_n hx hb dX5_append_11 rfl (lv_at hl 0 rfl) ?_
    refine top_get C S inX5_appendy_X5 rfl 0 rfl 0 (by decide) (by decide +kernel) rfl rfl dX5_append_12 ?_
    refine lv_aload_n hx hb dX5_append_15 rfl (lv_at hl 0 rfl) ?_
    refine top_get C S inX5_appendy_X5 rfl 0 rfl 1 (by decide) (by decide +kernel) rfl rfl dX5_append_16 ?_
    refine lv_iload_n hx hb dX5_append_19 rfl (lv_at hl 1 rfl) ?_
    refine lv_i2c hx hb dX5_append_20 rfl ?_
    refine top_eq (y := nI c) (char_N hc) ?_
    refine top_cst C S 1 rfl (j := z) rfl (by omega) (by decide) (char_nar hc) dX5_append_21 (fun H locs S => ?_)
    have S : ST g A ss H locs [(th, ob 5 [.ref tl, .int (nI z)]), (tl, aC g 100 (upd tx z (nI c)))] := S
    refine lv_aload_n hx hb dX5_append_22 rfl (lv_at hl 0 rfl) ?_
    refine lv_dup hx hb dX5_append_23 rfl ?_
    refine top_get C S inX5_appendy_X5 rfl 0 rfl 1 (by decide) (by decide +kernel) rfl rfl dX5_append_24 ?_
    refine lv_iconst (v := 1) hx hb dX5_append_27 (by decide) ?_
    refine lv_iadd hx hb dX5_append_28 ?_
    refine top_eq (y := nI (z + 1)) (nI_add _ _) ?_
    refine top_put (ty := .int) C S inX5_appendy_X5 tyX5 tyX5_ok nmX5 rfl 0 rfl 1 (by decide) (by decide +kernel) rfl rfl (tyX5_ok 1 (by decide)) rfl rfl (Nat.le_of_ble_eq_true rfl) dX5_append_29 (fun H locs S => ?_)
    have S : ST g A ss H locs [(th, ob 5 [.ref tl, .int (nI (z + 1))]), (tl, aC g 100 (upd tx z (nI c)))] := S
    refine lv_iconst (v := 1) hx hb dX5_append_32 (by decide) ?_
    exact ret_Z (true) C S hr dX5_append_33 (rfl) ⟨(rfl), (rfl)⟩
  · -- 6 F
    exact absurd hz c_1

theorem inX5_empty_X5 : ∀ w ∈ wsX50, w ∈ wsX5_empty := by decide +kernel
set_option maxRecDepth 100000 in
set_option maxHeartbeats 4000000 in
theorem kX5_empty (l : Launch) (g : GG) (th : Nat) (tl : Nat) (tx : Nat → Int32) (z : Nat)  : KI l g yX5_empty wsX5_empty 0 0 [.ref th] [(th, ob 5 [.ref tl, .int (nI z)]), (tl, aC g 100 tx)] (fun (r : Int32) (w' : va_W) => r = (nI z) ∧ w' = [(th, ob 5 [.ref tl, .int (nI 0)]), (tl, aC g 100 tx)]) := by
  refine kI_of (cc := cX5_empty) (maxL := 2) (by decide) rfl (Nat.le_of_ble_eq_true rfl) ?_
  intro pp ee ss mm bel mth cd A ls C S hr hl
  obtain ⟨hx, hb, hml, hown, hts⟩ := id C.1
  have hl : lv_has ls 2 [(0, .ref th)] := hl
  obtain ⟨H, hH⟩ : ∃ H, H = ss.heap := ⟨_, rfl⟩
  obtain ⟨locs, hL0⟩ : ∃ L : List Loc, L = [] := ⟨_, rfl⟩
  rw [← hH, ← hL0] at S ⊢
  refine lv_aload_n hx hb dX5_empty_0 rfl (lv_at hl 0 rfl) ?_
  refine top_get C S inX5_empty_X5 rfl 0 rfl 1 (by decide) (by decide +kernel) rfl rfl dX5_empty_1 ?_
  refine lv_istore_n (lv' := [(1, .int (nI z)), (0, .ref th)]) hx hb dX5_empty_4 rfl hl (by decide) rfl (fun ls hl => ?_)
  refine lv_aload_n hx hb dX5_empty_5 rfl (lv_at hl 1 rfl) ?_
  refine lv_iconst (v := 0) hx hb dX5_empty_6 (by decide) ?_
  refine top_put (ty := .int) C S inX5_empty_X5 tyX5 tyX5_ok nmX5 rfl 0 rfl 1 (by decide) (by decide +kernel) rfl rfl (tyX5_ok 1 (by decide)) rfl rfl (Nat.le_of_ble_eq_true rfl) dX5_empty_7 (fun H locs S => ?_)
  have S : ST g A ss H locs [(th, ob 5 [.ref tl, .int 0]), (tl, aC g 100 tx)] := S
  refine lv_iload_n hx hb dX5_empty_10 rfl (lv_at hl 0 rfl) ?_
  exact ret_I C S hr dX5_empty_11 ⟨(by first | rfl | simp only []), (by first | rfl | simp only [])⟩

theorem inX5_isFigure_X5 : ∀ w ∈ wsX50, w ∈ wsX5_isFigure := by decide +kernel
set_option maxRecDepth 100000 in
set_option maxHeartbeats 4000000 in
theorem kX5_isFigure (l : Launch) (g : GG) (th : Nat) (tl : Nat) (tx : Nat → Int32) (z : Nat) (ch : Nat → Nat) (j : Nat) (hz : z ≤ 100) (htx : ∀ i, i < z → tx i = nI (ch i)) (hch : ∀ i, i < z → ch i ≤ 255) (hj : j < z) : KI l g yX5_isFigure wsX5_isFigure 0 0 [.ref th, .int (nI j)] [(th, ob 5 [.ref tl, .int (nI z)]), (tl, aC g 100 tx)] (fun (r : Int32) (w' : va_W) => r = (bI (figN (ch j))) ∧ w' = [(th, ob 5 [.ref tl, .int (nI z)]), (tl, aC g 100 tx)]) := by
  refine kI_of (cc := cX5_isFigure) (maxL := 2) (by decide) rfl (Nat.le_of_ble_eq_true rfl) ?_
  intro pp ee ss mm bel mth cd A ls C S hr hl
  obtain ⟨hx, hb, hml, hown, hts⟩ := id C.1
  have hl : lv_has ls 2 [(0, .ref th), (1, .int (nI j))] := hl
  obtain ⟨H, hH⟩ : ∃ H, H = ss.heap := ⟨_, rfl⟩
  obtain ⟨locs, hL0⟩ : ∃ L : List Loc, L = [] := ⟨_, rfl⟩
  rw [← hH, ← hL0] at S ⊢
  have hcj := hch j hj
  refine lv_aload_n hx hb dX5_isFigure_0 rfl (lv_at hl 0 rfl) ?_
  refine top_get C S inX5_isFigure_X5 rfl 0 rfl 0 (by decide) (by decide +kernel) rfl rfl dX5_isFigure_1 ?_
  refine lv_iload_n hx hb dX5_isFigure_4 rfl (lv_at hl 1 rfl) ?_
  refine top_cld C S 1 rfl (j := j) rfl (by omega) (by decide) dX5_isFigure_5 ?_
  refine top_eq (y := nI (ch j)) (htx _ (by omega)) ?_
  refine lv_bipush (v := 48) hx hb dX5_isFigure_6 (by decide) ?_
  refine bn_ilt (tgt := 26) (a := ch j) (b := 48) hx hb rfl rfl (by omega) (by omega) dX5_isFigure_8 (by decide) (fun c_1 => ?_) (fun c_1 => ?_)
  · -- 8 T
    refine lv_iconst (v := 0) hx hb dX5_isFigure_26 (by decide) ?_
    exact ret_Z (figN (ch j)) C S hr dX5_isFigure_27 (by unfold figN; rw [if_pos c_1]; rfl) ⟨(by unfold figN; rw [if_pos c_1]; rfl), (rfl)⟩
  · -- 8 F
    refine lv_aload_n hx hb dX5_isFigure_11 rfl (lv_at hl 0 rfl) ?_
    refine top_get C S inX5_isFigure_X5 rfl 0 rfl 0 (by decide) (by decide +kernel) rfl rfl dX5_isFigure_12 ?_
    refine lv_iload_n hx hb dX5_isFigure_15 rfl (lv_at hl 1 rfl) ?_
    refine top_cld C S 1 rfl (j := j) rfl (by omega) (by decide) dX5_isFigure_16 ?_
    refine top_eq (y := nI (ch j)) (htx _ (by omega)) ?_
    refine lv_bipush (v := 57) hx hb dX5_isFigure_17 (by decide) ?_
    refine bn_igt (tgt := 26) (a := ch j) (b := 57) hx hb rfl rfl (by omega) (by omega) dX5_isFigure_19 (by decide) (fun c_2 => ?_) (fun c_2 => ?_)
    · -- 19 T
      refine lv_iconst (v := 0) hx hb dX5_isFigure_26 (by decide) ?_
      exact ret_Z (figN (ch j)) C S hr dX5_isFigure_27 (by unfold figN; rw [if_neg c_1, if_pos c_2]; rfl) ⟨(by unfold figN; rw [if_neg c_1, if_pos c_2]; rfl), (rfl)⟩
    · -- 19 F
      refine lv_iconst (v := 1) hx hb dX5_isFigure_22 (by decide) ?_
      refine lv_goto (tgt := 27) hx hb dX5_isFigure_23 (by decide) ?_
      exact ret_Z (figN (ch j)) C S hr dX5_isFigure_27 (by unfold figN; rw [if_neg c_1, if_neg c_2]; rfl) ⟨(by unfold figN; rw [if_neg c_1, if_neg c_2]; rfl), (rfl)⟩

theorem inX5_behindBlanks_X5 : ∀ w ∈ wsX50, w ∈ wsX5_behindBlanks := by decide +kernel
set_option maxRecDepth 100000 in
set_option maxHeartbeats 4000000 in
theorem kX5_behindBlanks (l : Launch) (g : GG) (th : Nat) (tl : Nat) (tx : Nat → Int32) (z : Nat) (ch : Nat → Nat) (p : Nat) (hz : z ≤ 100) (htx : ∀ i, i < z → tx i = nI (ch i)) (hch : ∀ i, i < z → ch i ≤ 255) (hp : p ≤ z) : KI l g yX5_behindBlanks wsX5_behindBlanks 0 0 [.ref th, .int (nI p)] [(th, ob 5 [.ref tl, .int (nI z)]), (tl, aC g 100 tx)] (fun (r : Int32) (w' : va_W) => r = (nI (bk ch z p)) ∧ w' = [(th, ob 5 [.ref tl, .int (nI z)]), (tl, aC g 100 tx)]) := by
  refine kI_of (cc := cX5_behindBlanks) (maxL := 3) (by decide) rfl (Nat.le_of_ble_eq_true rfl) ?_
  intro pp ee ss mm bel mth cd A ls C S hr hl
  obtain ⟨hx, hb, hml, hown, hts⟩ := id C.1
  have hl : lv_has ls 3 [(0, .ref th), (1, .int (nI p))] := hl
  obtain ⟨H, hH⟩ : ∃ H, H = ss.heap := ⟨_, rfl⟩
  obtain ⟨locs, hL0⟩ : ∃ L : List Loc, L = [] := ⟨_, rfl⟩
  rw [← hH, ← hL0] at S ⊢
  refine lv_iload_n hx hb dX5_behindBlanks_0 rfl (lv_at hl 1 rfl) ?_
  refine lv_istore_n (lv' := [(2, .int (nI p)), (0, .ref th), (1, .int (nI p))]) hx hb dX5_behindBlanks_1 rfl hl (by decide) rfl (fun ls hl => ?_)
  have loop2 : ∀ (N0 : Nat) (e : Nat), z - e < N0 → (p ≤ e) → (e ≤ z) → (bk ch z e = bk ch z p) → ∀ (H : Heap) (locs : List Loc) (ls : Array Slot), ST g A ss H locs [(th, ob 5 [.ref tl, .int (nI z)]), (tl, aC g 100 tx)] → lv_has ls 3 [(2, .int (nI e)), (0, .ref th), (1, .int (nI p))] → W pp l ee { frames := 0, cells := 0, slots := 0, locals := 0 } ss mm ([.ref th, .int (nI p)] : List Value).toArray bel mth cd H locs 0 0 (QI bel ([.ref th, .int (nI p)] : List Value).toArray ss g A (fun (r : Int32) (w' : va_W) => r = (nI (bk ch z p)) ∧ w' = [(th, ob 5 [.ref tl, .int (nI z)]), (tl, aC g 100 tx)])) (F0 mm 2 ls []) := by
    intro N0
    induction N0 with
    | zero => intro e hN; exact absurd hN (Nat.not_lt_zero _)
    | succ N0 ih2 =>
      intro e hN h1 h2 hs H locs ls S hl
      refine lv_iload_n hx hb dX5_behindBlanks_2 rfl (lv_at hl 0 rfl) ?_
      refine lv_aload_n hx hb dX5_behindBlanks_3 rfl (lv_at hl 1 rfl) ?_
      refine top_get C S inX5_behindBlanks_X5 rfl 0 rfl 1 (by decide) (by decide +kernel) rfl rfl dX5_behindBlanks_4 ?_
      refine bn_ige (tgt := 27) (a := e) (b := z) hx hb rfl rfl (by omega) (by omega) dX5_behindBlanks_7 (by decide) (fun c_1 => ?_) (fun c_1 => ?_)
      · -- 7 T
        have he : bk ch z e = e := sk_end (by omega)
        refine lv_iload_n hx hb dX5_behindBlanks_27 rfl (lv_at hl 0 rfl) ?_
        exact ret_I C S hr dX5_behindBlanks_28 ⟨(by rw [← hs, he]), (rfl)⟩
      · -- 7 F
        have e1 := hch e (by omega)
        refine lv_aload_n hx hb dX5_behindBlanks_10 rfl (lv_at hl 1 rfl) ?_
        refine top_get C S inX5_behindBlanks_X5 rfl 0 rfl 0 (by decide) (by decide +kernel) rfl rfl dX5_behindBlanks_11 ?_
        refine lv_iload_n hx hb dX5_behindBlanks_14 rfl (lv_at hl 0 rfl) ?_
        refine top_cld C S 1 rfl (j := e) rfl (by omega) (by decide) dX5_behindBlanks_15 ?_
        refine top_eq (y := nI (ch e)) (htx _ (by omega)) ?_
        refine lv_bipush (v := 32) hx hb dX5_behindBlanks_16 (by decide) ?_
        refine bn_ine (tgt := 27) (a := ch e) (b := 32) hx hb rfl rfl (by omega) (by omega) dX5_behindBlanks_18 (by decide) (fun c_2 => ?_) (fun c_2 => ?_)
        · -- 18 T
          have he : bk ch z e = e := sk_stop (decide_eq_false c_2)
          refine lv_iload_n hx hb dX5_behindBlanks_27 rfl (lv_at hl 0 rfl) ?_
          exact ret_I C S hr dX5_behindBlanks_28 ⟨(by rw [← hs, he]), (rfl)⟩
        · -- 18 F
          refine lv_iinc (v := nI (e + 1)) (lv' := [(2, .int (nI (e + 1))), (0, .ref th), (1, .int (nI p))]) hx hb dX5_behindBlanks_21 hl (k := 0) rfl (nI_add _ _) (by decide) rfl (fun ls hl => ?_)
          refine lv_goto (tgt := 2) hx hb dX5_behindBlanks_24 (by decide) ?_
          exact ih2 (e + 1) (by omega) (by first | assumption | omega) (by first | assumption | omega) (by rw [← hs]; exact (sk_step (by omega) (decide_eq_true c_2)).symm) H locs ls (ST.eq S (rfl)) (lv_sub hl [0, 1, 2] (rfl))
  exact loop2 _ p (Nat.lt_succ_self _) (by first | assumption | omega) (by first | assumption | omega) (rfl) H locs ls (ST.eq S (rfl)) (lv_sub hl [0, 1, 2] (rfl))

theorem inX5_tokenEnd_X5 : ∀ w ∈ wsX50, w ∈ wsX5_tokenEnd := by decide +kernel
set_option maxRecDepth 100000 in
set_option maxHeartbeats 4000000 in
theorem kX5_tokenEnd (l : Launch) (g : GG) (th : Nat) (tl : Nat) (tx : Nat → Int32) (z : Nat) (ch : Nat → Nat) (p : Nat) (hz : z ≤ 100) (htx : ∀ i, i < z → tx i = nI (ch i)) (hch : ∀ i, i < z → ch i ≤ 255) (hp : p < z) : KI l g yX5_tokenEnd wsX5_tokenEnd 1 21 [.ref th, .int (nI p)] [(th, ob 5 [.ref tl, .int (nI z)]), (tl, aC g 100 tx)] (fun (r : Int32) (w' : va_W) => r = (nI (teN ch z p)) ∧ w' = [(th, ob 5 [.ref tl, .int (nI z)]), (tl, aC g 100 tx)]) := by
  refine kI_of (cc := cX5_tokenEnd) (maxL := 3) (by decide) rfl (Nat.le_of_ble_eq_true rfl) ?_
  intro pp ee ss mm bel mth cd A ls C S hr hl
  obtain ⟨hx, hb, hml, hown, hts⟩ := id C.1
  have hl : lv_has ls 3 [(0, .ref th), (1, .int (nI p))] := hl
  obtain ⟨H, hH⟩ : ∃ H, H = ss.heap := ⟨_, rfl⟩
  obtain ⟨locs, hL0⟩ : ∃ L : List Loc, L = [] := ⟨_, rfl⟩
  rw [← hH, ← hL0] at S ⊢
  refine lv_iload_n hx hb dX5_tokenEnd_0 rfl (lv_at hl 1 rfl) ?_
  refine lv_iconst (v := 1) hx hb dX5_tokenEnd_1 (by decide) ?_
  refine lv_iadd hx hb dX5_tokenEnd_2 ?_
  refine top_eq (y := nI (p + 1)) (nI_add _ _) ?_
  refine lv_istore_n (lv' := [(2, .int (nI (p + 1))), (0, .ref th), (1, .int (nI p))]) hx hb dX5_tokenEnd_3 rfl hl (by decide) rfl (fun ls hl => ?_)
  refine lv_aload_n hx hb dX5_tokenEnd_4 rfl (lv_at hl 1 rfl) ?_
  refine lv_iload_n hx hb dX5_tokenEnd_5 rfl (lv_at hl 2 rfl) ?_
  refine after_I (wc := [(th, ob 5 [.ref tl, .int (nI z)]), (tl, aC g 100 tx)]) (y := yX5_isFigure) C S (va_runV (As := [.int (nI p)]) (rest := []) C.1 (kX5_isFigure l g th tl tx z ch p (by first | assumption | omega) (by first | assumption | omega) (by first | assumption | omega) (by first | assumption | omega) H.size) (cwV 1 hts gX5_tokenEnd_X5_isFigure rfl rfl rfl (by decide +kernel) ⟨Nat.le_of_ble_eq_true rfl, Nat.le_of_ble_eq_true rfl⟩) (preV_at C S 0 rfl rfl [0, 1] rfl (by decide)) rfl rfl hl.1 rfl (lv_room (Nat.le_of_ble_eq_true rfl)) dX5_tokenEnd_6 ⟨Nat.le_of_ble_eq_true rfl, Nat.le_of_ble_eq_true rfl⟩) [0, 1] [] rfl (wr := []) rfl (by decide) (by decide) (fun r0 w0 H locs hq S => ?_)
  obtain ⟨rfl, rfl⟩ := hq
  have S : ST g A ss H locs [(th, ob 5 [.ref tl, .int (nI z)]), (tl, aC g 100 tx)] := S
  refine br_eqB (tgt := 34) hx hb dX5_tokenEnd_9 (by decide) (fun c_1 => ?_) (fun c_1 => ?_)
  · -- 9 T
    refine lv_iload_n hx hb dX5_tokenEnd_34 rfl (lv_at hl 0 rfl) ?_
    exact ret_I C S hr dX5_tokenEnd_35 ⟨(by unfold teN; rw [if_neg (Bool.eq_false_iff.mp c_1)]), (rfl)⟩
  · -- 9 F
    have hfp := c_1
    have loop12 : ∀ (N0 : Nat) (e : Nat), z - e < N0 → (p + 1 ≤ e) → (e ≤ z) → (sk (fun i => figN (ch i)) z e = sk (fun i => figN (ch i)) z (p + 1)) → ∀ (H : Heap) (locs : List Loc) (ls : Array Slot), ST g A ss H locs [(th, ob 5 [.ref tl, .int (nI z)]), (tl, aC g 100 tx)] → lv_has ls 3 [(2, .int (nI e)), (0, .ref th), (1, .int (nI p))] → W pp l ee { frames := 1, cells := 0, slots := 0, locals := 21 } ss mm ([.ref th, .int (nI p)] : List Value).toArray bel mth cd H locs 0 0 (QI bel ([.ref th, .int (nI p)] : List Value).toArray ss g A (fun (r : Int32) (w' : va_W) => r = (nI (teN ch z p)) ∧ w' = [(th, ob 5 [.ref tl, .int (nI z)]), (tl, aC g 100 tx)])) (F0 mm 12 ls []) := by
      intro N0
      induction N0 with
      | zero => intro e hN; exact absurd hN (Nat.not_lt_zero _)
      | succ N0 ih12 =>
        intro e hN h1 h2 hs H locs ls S hl
        refine lv_iload_n hx hb dX5_tokenEnd_12 rfl (lv_at hl 0 rfl) ?_
        refine lv_aload_n hx hb dX5_tokenEnd_13 rfl (lv_at hl 1 rfl) ?_
        refine top_get C S inX5_tokenEnd_X5 rfl 0 rfl 1 (by decide) (by decide +kernel) rfl rfl dX5_tokenEnd_14 ?_
        refine bn_ige (tgt := 34) (a := e) (b := z) hx hb rfl rfl (by omega) (by omega) dX5_tokenEnd_17 (by decide) (fun c_2 => ?_) (fun c_2 => ?_)
        · -- 17 T
          have he : sk (fun i => figN (ch i)) z e = e := sk_end (by omega)
          refine lv_iload_n hx hb dX5_tokenEnd_34 rfl (lv_at hl 0 rfl) ?_
          exact ret_I C S hr dX5_tokenEnd_35 ⟨(by unfold teN; rw [if_pos hfp, ← hs, he]), (rfl)⟩
        · -- 17 F
          refine lv_aload_n hx hb dX5_tokenEnd_20 rfl (lv_at hl 1 rfl) ?_
          refine lv_iload_n hx hb dX5_tokenEnd_21 rfl (lv_at hl 0 rfl) ?_
          refine after_I (wc := [(th, ob 5 [.ref tl, .int (nI z)]), (tl, aC g 100 tx)]) (y := yX5_isFigure) C S (va_runV (As := [.int (nI e)]) (rest := []) C.1 (kX5_isFigure l g th tl tx z ch e (by first | assumption | omega) (by first | assumption | omega) (by first | assumption | omega) (by first | assumption | omega) H.size) (cwV 1 hts gX5_tokenEnd_X5_isFigure rfl rfl rfl (by decide +kernel) ⟨Nat.le_of_ble_eq_true rfl, Nat.le_of_ble_eq_true rfl⟩) (preV_at C S 0 rfl rfl [0, 1] rfl (by decide)) rfl rfl hl.1 rfl (lv_room (Nat.le_of_ble_eq_true rfl)) dX5_tokenEnd_22 ⟨Nat.le_of_ble_eq_true rfl, Nat.le_of_ble_eq_true rfl⟩) [0, 1] [] rfl (wr := []) rfl (by decide) (by decide) (fun r0 w0 H locs hq S => ?_)
          obtain ⟨rfl, rfl⟩ := hq
          have S : ST g A ss H locs [(th, ob 5 [.ref tl, .int (nI z)]), (tl, aC g 100 tx)] := S
          refine br_eqB (tgt := 34) hx hb dX5_tokenEnd_25 (by decide) (fun c_3 => ?_) (fun c_3 => ?_)
          · -- 25 T
            have he : sk (fun i => figN (ch i)) z e = e := sk_stop c_3
            refine lv_iload_n hx hb dX5_tokenEnd_34 rfl (lv_at hl 0 rfl) ?_
            exact ret_I C S hr dX5_tokenEnd_35 ⟨(by unfold teN; rw [if_pos hfp, ← hs, he]), (rfl)⟩
          · -- 25 F
            refine lv_iinc (v := nI (e + 1)) (lv' := [(2, .int (nI (e + 1))), (0, .ref th), (1, .int (nI p))]) hx hb dX5_tokenEnd_28 hl (k := 0) rfl (nI_add _ _) (by decide) rfl (fun ls hl => ?_)
            refine lv_goto (tgt := 12) hx hb dX5_tokenEnd_31 (by decide) ?_
            exact ih12 (e + 1) (by omega) (by first | assumption | omega) (by first | assumption | omega) (by rw [← hs]; exact (sk_step (P := fun i => figN (ch i)) (p := e) (by omega) c_3).symm) H locs ls (ST.eq S (rfl)) (lv_sub hl [0, 1, 2] (rfl))
    exact loop12 _ (p + 1) (Nat.lt_succ_self _) (by first | assumption | omega) (by first | assumption | omega) (rfl) H locs ls (ST.eq S (rfl)) (lv_sub hl [0, 1, 2] (rfl))

theorem inX5_numberAt_X5 : ∀ w ∈ wsX50, w ∈ wsX5_numberAt := by decide +kernel
set_option maxRecDepth 100000 in
set_option maxHeartbeats 4000000 in
theorem kX5_numberAt (l : Launch) (g : GG) (th : Nat) (tl : Nat) (tx : Nat → Int32) (z : Nat) (ch : Nat → Nat) (p : Nat) (e : Nat) (hz : z ≤ 100) (htx : ∀ i, i < z → tx i = nI (ch i)) (hch : ∀ i, i < z → ch i ≤ 255) (hp : p < e) (he : e ≤ z) (hfg : figN (ch p) = true → ∀ i, p ≤ i → i < e → figN (ch i) = true) : KI l g yX5_numberAt wsX5_numberAt 1 21 [.ref th, .int (nI p), .int (nI e)] [(th, ob 5 [.ref tl, .int (nI z)]), (tl, aC g 100 tx)] (fun (r : Int32) (w' : va_W) => r = (oI (numO ch p e)) ∧ w' = [(th, ob 5 [.ref tl, .int (nI z)]), (tl, aC g 100 tx)]) := by
  refine kI_of (cc := cX5_numberAt) (maxL := 7) (by decide) rfl (Nat.le_of_ble_eq_true rfl) ?_
  intro pp ee ss mm bel mth cd A ls C S hr hl
  obtain ⟨hx, hb, hml, hown, hts⟩ := id C.1
  have hl : lv_has ls 7 [(0, .ref th), (1, .int (nI p)), (2, .int (nI e))] := hl
  obtain ⟨H, hH⟩ : ∃ H, H = ss.heap := ⟨_, rfl⟩
  obtain ⟨locs, hL0⟩ : ∃ L : List Loc, L = [] := ⟨_, rfl⟩
  rw [← hH, ← hL0] at S ⊢
  have hcp := hch p (by omega)
  refine lv_iload_n hx hb dX5_numberAt_0 rfl (lv_at hl 2 rfl) ?_
  refine lv_iload_n hx hb dX5_numberAt_1 rfl (lv_at hl 1 rfl) ?_
  refine lv_isub hx hb dX5_numberAt_2 ?_
  refine top_eq (y := nI (e - p)) (pk_sub (a := e) (b := p) (by omega)) ?_
  refine lv_istore_n (lv' := [(3, .int (nI (e - p))), (0, .ref th), (1, .int (nI p)), (2, .int (nI e))]) hx hb dX5_numberAt_3 rfl hl (by decide) rfl (fun ls hl => ?_)
  refine lv_iload_n hx hb dX5_numberAt_4 rfl (lv_at hl 0 rfl) ?_
  refine lv_iconst (v := 1) hx hb dX5_numberAt_5 (by decide) ?_
  refine bn_ile (tgt := 24) (a := e - p) (b := 1) hx hb rfl rfl (by omega) (by omega) dX5_numberAt_6 (by decide) (fun c_1 => ?_) (fun c_1 => ?_)
  · -- 6 T
    refine lv_iconst (v := 0) hx hb dX5_numberAt_24 (by decide) ?_
    refine lv_istore (lv' := [(4, .int 0), (3, .int (nI (e - p))), (0, .ref th), (1, .int (nI p)), (2, .int (nI e))]) hx hb dX5_numberAt_25 hl (by decide) rfl (fun ls hl => ?_)
    refine lv_aload_n hx hb dX5_numberAt_27 rfl (lv_at hl 2 rfl) ?_
    refine lv_iload_n hx hb dX5_numberAt_28 rfl (lv_at hl 3 rfl) ?_
    refine after_I (wc := [(th, ob 5 [.ref tl, .int (nI z)]), (tl, aC g 100 tx)]) (y := yX5_isFigure) C S (va_runV (As := [.int (nI p)]) (rest := []) C.1 (kX5_isFigure l g th tl tx z ch p (by first | assumption | omega) (by first | assumption | omega) (by first | assumption | omega) (by first | assumption | omega) H.size) (cwV 1 hts gX5_numberAt_X5_isFigure rfl rfl rfl (by decide +kernel) ⟨Nat.le_of_ble_eq_true rfl, Nat.le_of_ble_eq_true rfl⟩) (preV_at C S 0 rfl rfl [0, 1] rfl (by decide)) rfl rfl hl.1 rfl (lv_room (Nat.le_of_ble_eq_true rfl)) dX5_numberAt_29 ⟨Nat.le_of_ble_eq_true rfl, Nat.le_of_ble_eq_true rfl⟩) [0, 1] [] rfl (wr := []) rfl (by decide) (by decide) (fun r0 w0 H locs hq S => ?_)
    obtain ⟨rfl, rfl⟩ := hq
    have S : ST g A ss H locs [(th, ob 5 [.ref tl, .int (nI z)]), (tl, aC g 100 tx)] := S
    refine br_eqB (tgt := 45) hx hb dX5_numberAt_32 (by decide) (fun c_2 => ?_) (fun c_2 => ?_)
    · -- 32 T
      refine lv_iconst (v := (-1)) hx hb dX5_numberAt_45 (by decide) ?_
      exact ret_I C S hr dX5_numberAt_46 ⟨(by unfold numO; rw [if_neg (Bool.eq_false_iff.mp c_2)] <;> rfl), (rfl)⟩
    · -- 32 F
      have hfa := hfg c_2
      refine lv_iload hx hb dX5_numberAt_35 (lv_at hl 0 rfl) ?_
      refine bn_zne (tgt := 45) (a := 0) hx hb rfl (by omega) dX5_numberAt_37 (by decide) (fun c_3 => ?_) (fun c_3 => ?_)
      · -- 37 T
        exact absurd c_3 (by decide)
      · -- 37 F
        refine lv_iload_n hx hb dX5_numberAt_40 rfl (lv_at hl 1 rfl) ?_
        refine lv_iconst (v := 2) hx hb dX5_numberAt_41 (by decide) ?_
        refine bn_ile (tgt := 47) (a := e - p) (b := 2) hx hb rfl rfl (by omega) (by omega) dX5_numberAt_42 (by decide) (fun c_4 => ?_) (fun c_4 => ?_)
        · -- 42 T
          refine lv_iconst (v := 0) hx hb dX5_numberAt_47 (by decide) ?_
          refine lv_istore (lv' := [(5, .int 0), (4, .int 0), (3, .int (nI (e - p))), (0, .ref th), (1, .int (nI p)), (2, .int (nI e))]) hx hb dX5_numberAt_48 hl (by decide) rfl (fun ls hl => ?_)
          refine lv_iload_n hx hb dX5_numberAt_50 rfl (lv_at hl 4 rfl) ?_
          refine lv_istore (lv' := [(6, .int (nI p)), (5, .int 0), (4, .int 0), (3, .int (nI (e - p))), (0, .ref th), (1, .int (nI p)), (2, .int (nI e))]) hx hb dX5_numberAt_51 hl (by decide) rfl (fun ls hl => ?_)
          have loop53 : ∀ (N0 : Nat) (i : Nat) (x : Nat), e - i < N0 → (p ≤ i) → (i ≤ e) → (x = dcN ch p (i - p)) → ∀ (H : Heap) (locs : List Loc) (ls : Array Slot), ST g A ss H locs [(th, ob 5 [.ref tl, .int (nI z)]), (tl, aC g 100 tx)] → lv_has ls 7 [(6, .int (nI i)), (5, .int (nI x)), (4, .int 0), (3, .int (nI (e - p))), (0, .ref th), (1, .int (nI p)), (2, .int (nI e))] → W pp l ee { frames := 1, cells := 0, slots := 0, locals := 21 } ss mm ([.ref th, .int (nI p), .int (nI e)] : List Value).toArray bel mth cd H locs 0 0 (QI bel ([.ref th, .int (nI p), .int (nI e)] : List Value).toArray ss g A (fun (r : Int32) (w' : va_W) => r = (oI (numO ch p e)) ∧ w' = [(th, ob 5 [.ref tl, .int (nI z)]), (tl, aC g 100 tx)])) (F0 mm 53 ls []) := by
            intro N0
            induction N0 with
            | zero => intro i x hN; exact absurd hN (Nat.not_lt_zero _)
            | succ N0 ih53 =>
              intro i x hN h1 h2 hx1 H locs ls S hl
              refine lv_iload hx hb dX5_numberAt_53 (lv_at hl 0 rfl) ?_
              refine lv_iload_n hx hb dX5_numberAt_55 rfl (lv_at hl 6 rfl) ?_
              refine bn_ige (tgt := 83) (a := i) (b := e) hx hb rfl rfl (by omega) (by omega) dX5_numberAt_56 (by decide) (fun c_5 => ?_) (fun c_5 => ?_)
              · -- 56 T
                refine lv_iload hx hb dX5_numberAt_83 (lv_at hl 1 rfl) ?_
                exact ret_I C S hr dX5_numberAt_85 ⟨(by unfold numO; rw [if_pos c_2, if_neg (by omega), if_neg (by omega), hx1, show i = e by omega] <;> rfl), (rfl)⟩
              · -- 56 F
                have hfi := fig_in (hfa i (by omega) (by omega))
                refine lv_iload hx hb dX5_numberAt_59 (lv_at hl 1 rfl) ?_
                refine lv_bipush (v := 10) hx hb dX5_numberAt_61 (by decide) ?_
                refine lv_imul hx hb dX5_numberAt_63 ?_
                refine top_eq (y := nI (x * 10)) (pk_mul _ _) ?_
                refine lv_aload_n hx hb dX5_numberAt_64 rfl (lv_at hl 4 rfl) ?_
                refine top_get C S inX5_numberAt_X5 rfl 0 rfl 0 (by decide) (by decide +kernel) rfl rfl dX5_numberAt_65 ?_
                refine lv_iload hx hb dX5_numberAt_68 (lv_at hl 0 rfl) ?_
                refine top_cld C S 1 rfl (j := i) rfl (by omega) (by decide) dX5_numberAt_70 ?_
                refine top_eq (y := nI (ch i)) (htx _ (by omega)) ?_
                refine lv_bipush (v := 48) hx hb dX5_numberAt_71 (by decide) ?_
                refine lv_isub hx hb dX5_numberAt_73 ?_
                refine top_eq (y := nI ((ch i) - 48)) (pk_sub (a := ch i) (b := 48) (by omega)) ?_
                refine lv_iadd hx hb dX5_numberAt_74 ?_
                refine top_eq (y := nI ((x * 10) + ((ch i) - 48))) (nI_add _ _) ?_
                refine lv_istore (lv' := [(5, .int (nI ((x * 10) + ((ch i) - 48)))), (6, .int (nI i)), (4, .int 0), (3, .int (nI (e - p))), (0, .ref th), (1, .int (nI p)), (2, .int (nI e))]) hx hb dX5_numberAt_75 hl (by decide) rfl (fun ls hl => ?_)
                refine lv_iinc (v := nI (i + 1)) (lv' := [(6, .int (nI (i + 1))), (5, .int (nI ((x * 10) + ((ch i) - 48)))), (4, .int 0), (3, .int (nI (e - p))), (0, .ref th), (1, .int (nI p)), (2, .int (nI e))]) hx hb dX5_numberAt_77 hl (k := 1) rfl (nI_add _ _) (by decide) rfl (fun ls hl => ?_)
                refine lv_goto (tgt := 53) hx hb dX5_numberAt_80 (by decide) ?_
                exact ih53 (i + 1) ((x * 10) + ((ch i) - 48)) (by omega) (by first | assumption | omega) (by first | assumption | omega) (by rw [show i + 1 - p = (i - p) + 1 by omega]; simp only [dcN, ← hx1, show p + (i - p) = i by omega]) H locs ls (ST.eq S (rfl)) (lv_sub hl [0, 1, 2, 3, 4, 5, 6] (rfl))
          exact loop53 _ p 0 (Nat.lt_succ_self _) (by first | assumption | omega) (by first | assumption | omega) (by rw [Nat.sub_self]; rfl) H locs ls (ST.eq S (rfl)) (lv_sub hl [0, 1, 2, 3, 4, 5, 6] (rfl))
        · -- 42 F
          refine lv_iconst (v := (-1)) hx hb dX5_numberAt_45 (by decide) ?_
          exact ret_I C S hr dX5_numberAt_46 ⟨(by unfold numO; rw [if_pos c_2, if_neg (by omega), if_pos (by omega)] <;> rfl), (rfl)⟩
  · -- 6 F
    refine lv_aload_n hx hb dX5_numberAt_9 rfl (lv_at hl 1 rfl) ?_
    refine top_get C S inX5_numberAt_X5 rfl 0 rfl 0 (by decide) (by decide +kernel) rfl rfl dX5_numberAt_10 ?_
    refine lv_iload_n hx hb dX5_numberAt_13 rfl (lv_at hl 2 rfl) ?_
    refine top_cld C S 1 rfl (j := p) rfl (by omega) (by decide) dX5_numberAt_14 ?_
    refine top_eq (y := nI (ch p)) (htx _ (by omega)) ?_
    refine lv_bipush (v := 48) hx hb dX5_numberAt_15 (by decide) ?_
    refine bn_ine (tgt := 24) (a := ch p) (b := 48) hx hb rfl rfl (by omega) (by omega) dX5_numberAt_17 (by decide) (fun c_6 => ?_) (fun c_6 => ?_)
    · -- 17 T
      refine lv_iconst (v := 0) hx hb dX5_numberAt_24 (by decide) ?_
      refine lv_istore (lv' := [(4, .int 0), (3, .int (nI (e - p))), (0, .ref th), (1, .int (nI p)), (2, .int (nI e))]) hx hb dX5_numberAt_25 hl (by decide) rfl (fun ls hl => ?_)
      refine lv_aload_n hx hb dX5_numberAt_27 rfl (lv_at hl 2 rfl) ?_
      refine lv_iload_n hx hb dX5_numberAt_28 rfl (lv_at hl 3 rfl) ?_
      refine after_I (wc := [(th, ob 5 [.ref tl, .int (nI z)]), (tl, aC g 100 tx)]) (y := yX5_isFigure) C S (va_runV (As := [.int (nI p)]) (rest := []) C.1 (kX5_isFigure l g th tl tx z ch p (by first | assumption | omega) (by first | assumption | omega) (by first | assumption | omega) (by first | assumption | omega) H.size) (cwV 1 hts gX5_numberAt_X5_isFigure rfl rfl rfl (by decide +kernel) ⟨Nat.le_of_ble_eq_true rfl, Nat.le_of_ble_eq_true rfl⟩) (preV_at C S 0 rfl rfl [0, 1] rfl (by decide)) rfl rfl hl.1 rfl (lv_room (Nat.le_of_ble_eq_true rfl)) dX5_numberAt_29 ⟨Nat.le_of_ble_eq_true rfl, Nat.le_of_ble_eq_true rfl⟩) [0, 1] [] rfl (wr := []) rfl (by decide) (by decide) (fun r0 w0 H locs hq S => ?_)
      obtain ⟨rfl, rfl⟩ := hq
      have S : ST g A ss H locs [(th, ob 5 [.ref tl, .int (nI z)]), (tl, aC g 100 tx)] := S
      refine br_eqB (tgt := 45) hx hb dX5_numberAt_32 (by decide) (fun c_7 => ?_) (fun c_7 => ?_)
      · -- 32 T
        refine lv_iconst (v := (-1)) hx hb dX5_numberAt_45 (by decide) ?_
        exact ret_I C S hr dX5_numberAt_46 ⟨(by unfold numO; rw [if_neg (Bool.eq_false_iff.mp c_7)] <;> rfl), (rfl)⟩
      · -- 32 F
        have hfa := hfg c_7
        refine lv_iload hx hb dX5_numberAt_35 (lv_at hl 0 rfl) ?_
        refine bn_zne (tgt := 45) (a := 0) hx hb rfl (by omega) dX5_numberAt_37 (by decide) (fun c_8 => ?_) (fun c_8 => ?_)
        · -- 37 T
          exact absurd c_8 (by decide)
        · -- 37 F
          refine lv_iload_n hx hb dX5_numberAt_40 rfl (lv_at hl 1 rfl) ?_
          refine lv_iconst (v := 2) hx hb dX5_numberAt_41 (by decide) ?_
          refine bn_ile (tgt := 47) (a := e - p) (b := 2) hx hb rfl rfl (by omega) (by omega) dX5_numberAt_42 (by decide) (fun c_9 => ?_) (fun c_9 => ?_)
          · -- 42 T
            refine lv_iconst (v := 0) hx hb dX5_numberAt_47 (by decide) ?_
            refine lv_istore (lv' := [(5, .int 0), (4, .int 0), (3, .int (nI (e - p))), (0, .ref th), (1, .int (nI p)), (2, .int (nI e))]) hx hb dX5_numberAt_48 hl (by decide) rfl (fun ls hl => ?_)
            refine lv_iload_n hx hb dX5_numberAt_50 rfl (lv_at hl 4 rfl) ?_
            refine lv_istore (lv' := [(6, .int (nI p)), (5, .int 0), (4, .int 0), (3, .int (nI (e - p))), (0, .ref th), (1, .int (nI p)), (2, .int (nI e))]) hx hb dX5_numberAt_51 hl (by decide) rfl (fun ls hl => ?_)
            have loop53 : ∀ (N0 : Nat) (i : Nat) (x : Nat), e - i < N0 → (p ≤ i) → (i ≤ e) → (x = dcN ch p (i - p)) → ∀ (H : Heap) (locs : List Loc) (ls : Array Slot), ST g A ss H locs [(th, ob 5 [.ref tl, .int (nI z)]), (tl, aC g 100 tx)] → lv_has ls 7 [(6, .int (nI i)), (5, .int (nI x)), (4, .int 0), (3, .int (nI (e - p))), (0, .ref th), (1, .int (nI p)), (2, .int (nI e))] → W pp l ee { frames := 1, cells := 0, slots := 0, locals := 21 } ss mm ([.ref th, .int (nI p), .int (nI e)] : List Value).toArray bel mth cd H locs 0 0 (QI bel ([.ref th, .int (nI p), .int (nI e)] : List Value).toArray ss g A (fun (r : Int32) (w' : va_W) => r = (oI (numO ch p e)) ∧ w' = [(th, ob 5 [.ref tl, .int (nI z)]), (tl, aC g 100 tx)])) (F0 mm 53 ls []) := by
              intro N0
              induction N0 with
              | zero => intro i x hN; exact absurd hN (Nat.not_lt_zero _)
              | succ N0 ih53 =>
                intro i x hN h1 h2 hx1 H locs ls S hl
                refine lv_iload hx hb dX5_numberAt_53 (lv_at hl 0 rfl) ?_
                refine lv_iload_n hx hb dX5_numberAt_55 rfl (lv_at hl 6 rfl) ?_
                refine bn_ige (tgt := 83) (a := i) (b := e) hx hb rfl rfl (by omega) (by omega) dX5_numberAt_56 (by decide) (fun c_10 => ?_) (fun c_10 => ?_)
                · -- 56 T
                  refine lv_iload hx hb dX5_numberAt_83 (lv_at hl 1 rfl) ?_
                  exact ret_I C S hr dX5_numberAt_85 ⟨(by unfold numO; rw [if_pos c_7, if_neg (by omega), if_neg (by omega), hx1, show i = e by omega] <;> rfl), (rfl)⟩
                · -- 56 F
                  have hfi := fig_in (hfa i (by omega) (by omega))
                  refine lv_iload hx hb dX5_numberAt_59 (lv_at hl 1 rfl) ?_
                  refine lv_bipush (v := 10) hx hb dX5_numberAt_61 (by decide) ?_
                  refine lv_imul hx hb dX5_numberAt_63 ?_
                  refine top_eq (y := nI (x * 10)) (pk_mul _ _) ?_
                  refine lv_aload_n hx hb dX5_numberAt_64 rfl (lv_at hl 4 rfl) ?_
                  refine top_get C S inX5_numberAt_X5 rfl 0 rfl 0 (by decide) (by decide +kernel) rfl rfl dX5_numberAt_65 ?_
                  refine lv_iload hx hb dX5_numberAt_68 (lv_at hl 0 rfl) ?_
                  refine top_cld C S 1 rfl (j := i) rfl (by omega) (by decide) dX5_numberAt_70 ?_
                  refine top_eq (y := nI (ch i)) (htx _ (by omega)) ?_
                  refine lv_bipush (v := 48) hx hb dX5_numberAt_71 (by decide) ?_
                  refine lv_isub hx hb dX5_numberAt_73 ?_
                  refine top_eq (y := nI ((ch i) - 48)) (pk_sub (a := ch i) (b := 48) (by omega)) ?_
                  refine lv_iadd hx hb dX5_numberAt_74 ?_
                  refine top_eq (y := nI ((x * 10) + ((ch i) - 48))) (nI_add _ _) ?_
                  refine lv_istore (lv' := [(5, .int (nI ((x * 10) + ((ch i) - 48)))), (6, .int (nI i)), (4, .int 0), (3, .int (nI (e - p))), (0, .ref th), (1, .int (nI p)), (2, .int (nI e))]) hx hb dX5_numberAt_75 hl (by decide) rfl (fun ls hl => ?_)
                  refine lv_iinc (v := nI (i + 1)) (lv' := [(6, .int (nI (i + 1))), (5, .int (nI ((x * 10) + ((ch i) - 48)))), (4, .int 0), (3, .int (nI (e - p))), (0, .ref th), (1, .int (nI p)), (2, .int (nI e))]) hx hb dX5_numberAt_77 hl (k := 1) rfl (nI_add _ _) (by decide) rfl (fun ls hl => ?_)
                  refine lv_goto (tgt := 53) hx hb dX5_numberAt_80 (by decide) ?_
                  exact ih53 (i + 1) ((x * 10) + ((ch i) - 48)) (by omega) (by first | assumption | omega) (by first | assumption | omega) (by rw [show i + 1 - p = (i - p) + 1 by omega]; simp only [dcN, ← hx1, show p + (i - p) = i by omega]) H locs ls (ST.eq S (rfl)) (lv_sub hl [0, 1, 2, 3, 4, 5, 6] (rfl))
            exact loop53 _ p 0 (Nat.lt_succ_self _) (by first | assumption | omega) (by first | assumption | omega) (by rw [Nat.sub_self]; rfl) H locs ls (ST.eq S (rfl)) (lv_sub hl [0, 1, 2, 3, 4, 5, 6] (rfl))
          · -- 42 F
            refine lv_iconst (v := (-1)) hx hb dX5_numberAt_45 (by decide) ?_
            exact ret_I C S hr dX5_numberAt_46 ⟨(by unfold numO; rw [if_pos c_7, if_neg (by omega), if_pos (by omega)] <;> rfl), (rfl)⟩
    · -- 17 F
      refine lv_iconst (v := 1) hx hb dX5_numberAt_20 (by decide) ?_
      refine lv_goto (tgt := 25) hx hb dX5_numberAt_21 (by decide) ?_
      refine lv_istore (lv' := [(4, .int 1), (3, .int (nI (e - p))), (0, .ref th), (1, .int (nI p)), (2, .int (nI e))]) hx hb dX5_numberAt_25 hl (by decide) rfl (fun ls hl => ?_)
      refine lv_aload_n hx hb dX5_numberAt_27 rfl (lv_at hl 2 rfl) ?_
      refine lv_iload_n hx hb dX5_numberAt_28 rfl (lv_at hl 3 rfl) ?_
      refine after_I (wc := [(th, ob 5 [.ref tl, .int (nI z)]), (tl, aC g 100 tx)]) (y := yX5_isFigure) C S (va_runV (As := [.int (nI p)]) (rest := []) C.1 (kX5_isFigure l g th tl tx z ch p (by first | assumption | omega) (by first | assumption | omega) (by first | assumption | omega) (by first | assumption | omega) H.size) (cwV 1 hts gX5_numberAt_X5_isFigure rfl rfl rfl (by decide +kernel) ⟨Nat.le_of_ble_eq_true rfl, Nat.le_of_ble_eq_true rfl⟩) (preV_at C S 0 rfl rfl [0, 1] rfl (by decide)) rfl rfl hl.1 rfl (lv_room (Nat.le_of_ble_eq_true rfl)) dX5_numberAt_29 ⟨Nat.le_of_ble_eq_true rfl, Nat.le_of_ble_eq_true rfl⟩) [0, 1] [] rfl (wr := []) rfl (by decide) (by decide) (fun r0 w0 H locs hq S => ?_)
      obtain ⟨rfl, rfl⟩ := hq
      have S : ST g A ss H locs [(th, ob 5 [.ref tl, .int (nI z)]), (tl, aC g 100 tx)] := S
      refine br_eqB (tgt := 45) hx hb dX5_numberAt_32 (by decide) (fun c_11 => ?_) (fun c_11 => ?_)
      · -- 32 T
        refine lv_iconst (v := (-1)) hx hb dX5_numberAt_45 (by decide) ?_
        exact ret_I C S hr dX5_numberAt_46 ⟨(by unfold numO; rw [if_neg (Bool.eq_false_iff.mp c_11)] <;> rfl), (rfl)⟩
      · -- 32 F
        have hfa := hfg c_11
        refine lv_iload hx hb dX5_numberAt_35 (lv_at hl 0 rfl) ?_
        refine bn_zne (tgt := 45) (a := 1) hx hb rfl (by omega) dX5_numberAt_37 (by decide) (fun c_12 => ?_) (fun c_12 => ?_)
        · -- 37 T
          refine lv_iconst (v := (-1)) hx hb dX5_numberAt_45 (by decide) ?_
          exact ret_I C S hr dX5_numberAt_46 ⟨(by unfold numO; rw [if_pos c_11, if_pos ⟨by omega, by omega⟩] <;> rfl), (rfl)⟩
        · -- 37 F
          exact absurd c_12 (by decide)

theorem inX5_takesToken0_X2 : ∀ w ∈ wsX20, w ∈ wsX5_takesToken := by decide +kernel
theorem inX5_takesToken0_X5 : ∀ w ∈ wsX50, w ∈ wsX5_takesToken := by decide +kernel
set_option maxRecDepth 100000 in
set_option maxHeartbeats 4000000 in
theorem kX5_takesToken0 (l : Launch) (g : GG) (th : Nat) (tl : Nat) (tx : Nat → Int32) (z : Nat) (ch : Nat → Nat) (h : Nat) (q : Nat) (f : Nat → Int32) (n : Nat) (ww : Nat) (p : Nat) (e : Int32) (hz : z ≤ 100) (htx : ∀ i, i < z → tx i = nI (ch i)) (hch : ∀ i, i < z → ch i ≤ 255) (hp : p < z) (hn : n ≤ 8) : KI l g yX5_takesToken wsX5_takesToken 0 0 [.ref th, .ref h, .int 0, .int (nI p), .int e] [(th, ob 5 [.ref tl, .int (nI z)]), (tl, aC g 100 tx), (h, ob 2 [.ref q, .int (nI n), .int (nI ww)]), (q, aI g 32 f)] (fun (r : Int32) (w' : va_W) => r = (bI (decide (ch p = 108 ∧ n < 8))) ∧ w' = [(th, ob 5 [.ref tl, .int (nI z)]), (tl, aC g 100 tx), (h, ob 2 [.ref q, .int (nI n), .int (nI ww)]), (q, aI g 32 f)]) := by
  refine kI_of (cc := cX5_takesToken) (maxL := 7) (by decide) rfl (Nat.le_of_ble_eq_true rfl) ?_
  intro pp ee ss mm bel mth cd A ls C S hr hl
  obtain ⟨hx, hb, hml, hown, hts⟩ := id C.1
  have hl : lv_has ls 7 [(0, .ref th), (1, .ref h), (2, .int 0), (3, .int (nI p)), (4, .int e)] := hl
  obtain ⟨H, hH⟩ : ∃ H, H = ss.heap := ⟨_, rfl⟩
  obtain ⟨locs, hL0⟩ : ∃ L : List Loc, L = [] := ⟨_, rfl⟩
  rw [← hH, ← hL0] at S ⊢
  have hcp := hch p hp
  refine lv_iload_n hx hb dX5_takesToken_0 rfl (lv_at hl 2 rfl) ?_
  refine bn_zne (tgt := 30) (a := 0) hx hb rfl (by omega) dX5_takesToken_1 (by decide) (fun c_1 => ?_) (fun c_1 => ?_)
  · -- 1 T
    exact absurd c_1 (by decide)
  · -- 1 F
    refine lv_aload_n hx hb dX5_takesToken_4 rfl (lv_at hl 0 rfl) ?_
    refine top_get C S inX5_takesToken0_X5 rfl 0 rfl 0 (by decide) (by decide +kernel) rfl rfl dX5_takesToken_5 ?_
    refine lv_iload_n hx hb dX5_takesToken_8 rfl (lv_at hl 3 rfl) ?_
    refine top_cld C S 1 rfl (j := p) rfl (by omega) (by decide) dX5_takesToken_9 ?_
    refine top_eq (y := nI (ch p)) (htx _ (by omega)) ?_
    refine lv_bipush (v := 108) hx hb dX5_takesToken_10 (by decide) ?_
    refine bn_ine (tgt := 28) (a := ch p) (b := 108) hx hb rfl rfl (by omega) (by omega) dX5_takesToken_12 (by decide) (fun c_2 => ?_) (fun c_2 => ?_)
    · -- 12 T
      refine lv_iconst (v := 0) hx hb dX5_takesToken_28 (by decide) ?_
      exact ret_Z (decide (ch p = 108 ∧ n < 8)) C S hr dX5_takesToken_29 (by rw [decide_eq_false (by omega)]; rfl) ⟨(by rw [decide_eq_false (by omega)]; rfl), (rfl)⟩
    · -- 12 F
      refine lv_aload_n hx hb dX5_takesToken_15 rfl (lv_at hl 1 rfl) ?_
      refine top_getN C S inX5_takesToken0_X2 rfl 2 rfl 1 (by decide) (by decide +kernel) rfl dX5_takesToken_16 ?_
      refine lv_bipush (v := 8) hx hb dX5_takesToken_19 (by decide) ?_
      refine bn_ige (tgt := 28) (a := n) (b := 8) hx hb rfl rfl (by omega) (by omega) dX5_takesToken_21 (by decide) (fun c_3 => ?_) (fun c_3 => ?_)
      · -- 21 T
        refine lv_iconst (v := 0) hx hb dX5_takesToken_28 (by decide) ?_
        exact ret_Z (decide (ch p = 108 ∧ n < 8)) C S hr dX5_takesToken_29 (by rw [decide_eq_false (by omega)]; rfl) ⟨(by rw [decide_eq_false (by omega)]; rfl), (rfl)⟩
      · -- 21 F
        refine lv_iconst (v := 1) hx hb dX5_takesToken_24 (by decide) ?_
        refine lv_goto (tgt := 29) hx hb dX5_takesToken_25 (by decide) ?_
        exact ret_Z (decide (ch p = 108 ∧ n < 8)) C S hr dX5_takesToken_29 (by rw [decide_eq_true (by omega)]; rfl) ⟨(by rw [decide_eq_true (by omega)]; rfl), (rfl)⟩

theorem inX5_takesToken5_X5 : ∀ w ∈ wsX50, w ∈ wsX5_takesToken := by decide +kernel
set_option maxRecDepth 100000 in
set_option maxHeartbeats 4000000 in
theorem kX5_takesToken5 (l : Launch) (g : GG) (th : Nat) (tl : Nat) (tx : Nat → Int32) (z : Nat) (ch : Nat → Nat) (h : Nat) (q : Nat) (f : Nat → Int32) (n : Nat) (ww : Nat) (p : Nat) (e : Int32) (hz : z ≤ 100) (htx : ∀ i, i < z → tx i = nI (ch i)) (hch : ∀ i, i < z → ch i ≤ 255) (hp : p < z) (hn : n < 8) (hww : ww < 256) : KI l g yX5_takesToken wsX5_takesToken 1 20 [.ref th, .ref h, .int 5, .int (nI p), .int e] [(th, ob 5 [.ref tl, .int (nI z)]), (tl, aC g 100 tx), (h, ob 2 [.ref q, .int (nI n), .int (nI ww)]), (q, aI g 32 f)] (fun (r : Int32) (w' : va_W) => r = (bI (decide (ch p = 59))) ∧ ∃ (n' : Nat), ∃ (ww' : Nat), (ch p = 59 → n' = n + 1 ∧ ww' = ww ||| 2 ^ n) ∧ w' = [(th, ob 5 [.ref tl, .int (nI z)]), (tl, aC g 100 tx), (h, ob 2 [.ref q, .int (nI n'), .int (nI ww')]), (q, aI g 32 f)]) := by
  refine kI_of (cc := cX5_takesToken) (maxL := 7) (by decide) rfl (Nat.le_of_ble_eq_true rfl) ?_
  intro pp ee ss mm bel mth cd A ls C S hr hl
  obtain ⟨hx, hb, hml, hown, hts⟩ := id C.1
  have hl : lv_has ls 7 [(0, .ref th), (1, .ref h), (2, .int 5), (3, .int (nI p)), (4, .int e)] := hl
  obtain ⟨H, hH⟩ : ∃ H, H = ss.heap := ⟨_, rfl⟩
  obtain ⟨locs, hL0⟩ : ∃ L : List Loc, L = [] := ⟨_, rfl⟩
  rw [← hH, ← hL0] at S ⊢
  have hcp := hch p hp
  refine lv_iload_n hx hb dX5_takesToken_0 rfl (lv_at hl 2 rfl) ?_
  refine bn_zne (tgt := 30) (a := 5) hx hb rfl (by omega) dX5_takesToken_1 (by decide) (fun c_1 => ?_) (fun c_1 => ?_)
  · -- 1 T
    refine lv_iload_n hx hb dX5_takesToken_30 rfl (lv_at hl 2 rfl) ?_
    refine lv_iconst (v := 5) hx hb dX5_takesToken_31 (by decide) ?_
    refine bn_ine (tgt := 65) (a := 5) (b := 5) hx hb rfl rfl (by omega) (by omega) dX5_takesToken_32 (by decide) (fun c_2 => ?_) (fun c_2 => ?_)
    · -- 32 T
      exact absurd c_2 (by decide)
    · -- 32 F
      refine lv_aload_n hx hb dX5_takesToken_35 rfl (lv_at hl 0 rfl) ?_
      refine top_get C S inX5_takesToken5_X5 rfl 0 rfl 0 (by decide) (by decide +kernel) rfl rfl dX5_takesToken_36 ?_
      refine lv_iload_n hx hb dX5_takesToken_39 rfl (lv_at hl 3 rfl) ?_
      refine top_cld C S 1 rfl (j := p) rfl (by omega) (by decide) dX5_takesToken_40 ?_
      refine top_eq (y := nI (ch p)) (htx _ (by omega)) ?_
      refine lv_bipush (v := 59) hx hb dX5_takesToken_41 (by decide) ?_
      refine bn_ine (tgt := 50) (a := ch p) (b := 59) hx hb rfl rfl (by omega) (by omega) dX5_takesToken_43 (by decide) (fun c_3 => ?_) (fun c_3 => ?_)
      · -- 43 T
        refine lv_iconst (v := 0) hx hb dX5_takesToken_50 (by decide) ?_
        refine lv_istore (lv' := [(5, .int 0), (0, .ref th), (1, .ref h), (2, .int 5), (3, .int (nI p)), (4, .int e)]) hx hb dX5_takesToken_51 hl (by decide) rfl (fun ls hl => ?_)
        refine lv_iload hx hb dX5_takesToken_53 (lv_at hl 0 rfl) ?_
        refine bn_zeq (tgt := 62) (a := 0) hx hb rfl (by omega) dX5_takesToken_55 (by decide) (fun c_4 => ?_) (fun c_4 => ?_)
        · -- 55 T
          refine lv_iload hx hb dX5_takesToken_62 (lv_at hl 0 rfl) ?_
          exact ret_Z (decide (ch p = 59)) C S hr dX5_takesToken_64 (by rw [decide_eq_false (by omega)]; rfl) ⟨(by rw [decide_eq_false (by omega)]; rfl), n, ww, (fun q9 => by omega), (rfl)⟩
        · -- 55 F
          exact absurd c_4 (by decide)
      · -- 43 F
        refine lv_iconst (v := 1) hx hb dX5_takesToken_46 (by decide) ?_
        refine lv_goto (tgt := 51) hx hb dX5_takesToken_47 (by decide) ?_
        refine lv_istore (lv' := [(5, .int 1), (0, .ref th), (1, .ref h), (2, .int 5), (3, .int (nI p)), (4, .int e)]) hx hb dX5_takesToken_51 hl (by decide) rfl (fun ls hl => ?_)
        refine lv_iload hx hb dX5_takesToken_53 (lv_at hl 0 rfl) ?_
        refine bn_zeq (tgt := 62) (a := 1) hx hb rfl (by omega) dX5_takesToken_55 (by decide) (fun c_5 => ?_) (fun c_5 => ?_)
        · -- 55 T
          exact absurd c_5 (by decide)
        · -- 55 F
          refine lv_aload_n hx hb dX5_takesToken_58 rfl (lv_at hl 2 rfl) ?_
          refine after_V (wc := [(h, ob 2 [.ref q, .int (nI n), .int (nI ww)]), (q, aI g 32 f)]) (y := yX2_appendWhole) C S (va_runV (As := []) (rest := []) C.1 (kX2_appendWhole l g h q f n ww (by first | assumption | omega) (by first | assumption | omega) H.size) (cwV 0 hts gX5_takesToken_X2_appendWhole rfl rfl rfl (by decide +kernel) ⟨Nat.le_of_ble_eq_true rfl, Nat.le_of_ble_eq_true rfl⟩) (preV_at C S 2 rfl rfl [2, 3] rfl (by decide)) rfl rfl hl.1 rfl (lv_room (Nat.le_of_ble_eq_true rfl)) dX5_takesToken_59 ⟨Nat.le_of_ble_eq_true rfl, Nat.le_of_ble_eq_true rfl⟩) [2, 3] [0, 1] rfl (wr := [(th, ob 5 [.ref tl, .int (nI z)]), (tl, aC g 100 tx)]) rfl (by decide) (by decide) (fun w0 H locs hq S => ?_)
          subst hq
          have S : ST g A ss H locs [(th, ob 5 [.ref tl, .int (nI z)]), (tl, aC g 100 tx), (h, ob 2 [.ref q, .int (nI (n + 1)), .int (nI (ww ||| 2 ^ n))]), (q, aI g 32 f)] := S
          refine lv_iload hx hb dX5_takesToken_62 (lv_at hl 0 rfl) ?_
          exact ret_Z (decide (ch p = 59)) C S hr dX5_takesToken_64 (by rw [decide_eq_true (by omega)]; rfl) ⟨(by rw [decide_eq_true (by omega)]; rfl), (n + 1), (ww ||| 2 ^ n), (fun q9 => ⟨rfl, rfl⟩), (rfl)⟩
  · -- 1 F
    exact absurd c_1 (by decide)

theorem inX5_takesTokenm_X2 : ∀ w ∈ wsX20, w ∈ wsX5_takesToken := by decide +kernel
set_option maxRecDepth 100000 in
set_option maxHeartbeats 4000000 in
theorem kX5_takesTokenm (l : Launch) (g : GG) (th : Nat) (tl : Nat) (tx : Nat → Int32) (z : Nat) (ch : Nat → Nat) (h : Nat) (q : Nat) (f : Nat → Int32) (n : Nat) (ww : Nat) (nu : Nat → Nat → Nat) (t : Nat) (p : Nat) (e : Nat) (hz : z ≤ 100) (htx : ∀ i, i < z → tx i = nI (ch i)) (hch : ∀ i, i < z → ch i ≤ 255) (hp : p < z) (hn : n < 8) (ht : 1 ≤ t) (ht4 : t ≤ 4) (he : p < e) (hez : e ≤ z) (hfg : figN (ch p) = true → ∀ i, p ≤ i → i < e → figN (ch i) = true) (hf0 : 0 < n → f (0 * 8 + (n - 1)) = nI (nu 0 (n - 1))) (hM9 : MON nu n (t - 1) ≤ 99) : KI l g yX5_takesToken wsX5_takesToken 2 47 [.ref th, .ref h, .int (nI t), .int (nI p), .int (nI e)] [(th, ob 5 [.ref tl, .int (nI z)]), (tl, aC g 100 tx), (h, ob 2 [.ref q, .int (nI n), .int (nI ww)]), (q, aI g 32 f)] (fun (r : Int32) (w' : va_W) => r = (bI (rngB nu n (t - 1) (numO ch p e))) ∧ ∃ (f' : Nat → Int32), (∀ v, numO ch p e = some v → rngB nu n (t - 1) (some v) = true → f' = upd f ((t - 1) * 8 + n) (nI v)) ∧ w' = [(th, ob 5 [.ref tl, .int (nI z)]), (tl, aC g 100 tx), (h, ob 2 [.ref q, .int (nI n), .int (nI ww)]), (q, aI g 32 f')]) := by
  refine kI_of (cc := cX5_takesToken) (maxL := 7) (by decide) rfl (Nat.le_of_ble_eq_true rfl) ?_
  intro pp ee ss mm bel mth cd A ls C S hr hl
  obtain ⟨hx, hb, hml, hown, hts⟩ := id C.1
  have hl : lv_has ls 7 [(0, .ref th), (1, .ref h), (2, .int (nI t)), (3, .int (nI p)), (4, .int (nI e))] := hl
  obtain ⟨H, hH⟩ : ∃ H, H = ss.heap := ⟨_, rfl⟩
  obtain ⟨locs, hL0⟩ : ∃ L : List Loc, L = [] := ⟨_, rfl⟩
  rw [← hH, ← hL0] at S ⊢
  have hle9 : LEN (t - 1) ≤ 1 := by unfold LEN; split <;> omega
  refine lv_iload_n hx hb dX5_takesToken_0 rfl (lv_at hl 2 rfl) ?_
  refine bn_zne (tgt := 30) (a := t) hx hb rfl (by omega) dX5_takesToken_1 (by decide) (fun c_1 => ?_) (fun c_1 => ?_)
  · -- 1 T
    refine lv_iload_n hx hb dX5_takesToken_30 rfl (lv_at hl 2 rfl) ?_
    refine lv_iconst (v := 5) hx hb dX5_takesToken_31 (by decide) ?_
    refine bn_ine (tgt := 65) (a := t) (b := 5) hx hb rfl rfl (by omega) (by omega) dX5_takesToken_32 (by decide) (fun c_2 => ?_) (fun c_2 => ?_)
    · -- 32 T
      refine lv_iload_n hx hb dX5_takesToken_65 rfl (lv_at hl 2 rfl) ?_
      refine lv_iconst (v := 1) hx hb dX5_takesToken_66 (by decide) ?_
      refine lv_isub hx hb dX5_takesToken_67 ?_
      refine top_eq (y := nI (t - 1)) (pk_sub (a := t) (b := 1) (by omega)) ?_
      refine lv_istore (lv' := [(5, .int (nI (t - 1))), (0, .ref th), (1, .ref h), (2, .int (nI t)), (3, .int (nI p)), (4, .int (nI e))]) hx hb dX5_takesToken_68 hl (by decide) rfl (fun ls hl => ?_)
      refine lv_aload_n hx hb dX5_takesToken_70 rfl (lv_at hl 1 rfl) ?_
      refine lv_iload_n hx hb dX5_takesToken_71 rfl (lv_at hl 4 rfl) ?_
      refine lv_iload hx hb dX5_takesToken_72 (lv_at hl 5 rfl) ?_
      refine after_I (wc := [(th, ob 5 [.ref tl, .int (nI z)]), (tl, aC g 100 tx)]) (y := yX5_numberAt) C S (va_runV (As := [.int (nI p), .int (nI e)]) (rest := []) C.1 (kX5_numberAt l g th tl tx z ch p e (by first | assumption | omega) (by first | assumption | omega) (by first | assumption | omega) (by first | assumption | omega) (by first | assumption | omega) (by first | assumption | omega) H.size) (cwV 2 hts gX5_takesToken_X5_numberAt rfl rfl rfl (by decide +kernel) ⟨Nat.le_of_ble_eq_true rfl, Nat.le_of_ble_eq_true rfl⟩) (preV_at C S 0 rfl rfl [0, 1] rfl (by decide)) rfl rfl hl.1 rfl (lv_room (Nat.le_of_ble_eq_true rfl)) dX5_takesToken_74 ⟨Nat.le_of_ble_eq_true rfl, Nat.le_of_ble_eq_true rfl⟩) [0, 1] [2, 3] rfl (wr := [(h, ob 2 [.ref q, .int (nI n), .int (nI ww)]), (q, aI g 32 f)]) rfl (by decide) (by decide) (fun r0 w0 H locs hq S => ?_)
      obtain ⟨rfl, rfl⟩ := hq
      have S : ST g A ss H locs [(th, ob 5 [.ref tl, .int (nI z)]), (tl, aC g 100 tx), (h, ob 2 [.ref q, .int (nI n), .int (nI ww)]), (q, aI g 32 f)] := ST.sub S [2, 3, 0, 1] (by decide) rfl
      refine lv_istore (lv' := [(6, .int (oI (numO ch p e))), (5, .int (nI (t - 1))), (0, .ref th), (1, .ref h), (2, .int (nI t)), (3, .int (nI p)), (4, .int (nI e))]) hx hb dX5_takesToken_77 hl (by decide) rfl (fun ls hl => ?_)
      cases hno : numO ch p e with
      | none =>
        rw [hno] at hl
        have hl : lv_has ls 7 [(6, .int (-1)), (5, .int (nI (t - 1))), (0, .ref th), (1, .ref h), (2, .int (nI t)), (3, .int (nI p)), (4, .int (nI e))] := hl
        refine lv_iload hx hb dX5_takesToken_79 (lv_at hl 0 rfl) ?_
        obtain ⟨tLe, ztLe, htLe⟩ := C.2.2.1.2.1
        refine va_getsN hx hb ztLe S.2.2 hown (va_Nw.use rfl (C.2.2.1.1.1 ("StackedLeaves$Text", 47, "StackedLeaves", "LEAST_NUMBER", "[I") (by decide +kernel))) (fun _ h9 => h9) dX5_takesToken_81 ?_
        refine lv_iload hx hb dX5_takesToken_84 (lv_at hl 1 rfl) ?_
        refine top_tab C S htLe (j := (t - 1)) rfl (by omega) dX5_takesToken_86 ?_
        refine top_eq (y := nI (LEN (t - 1))) (fLe_N (by omega)) ?_
        refine lv_icmp_lt (tgt := 101) hx hb dX5_takesToken_87 (by decide) (fun c_3 => ?_) (fun c_3 => ?_)
        · -- 87 T
          refine lv_iconst (v := 0) hx hb dX5_takesToken_101 (by decide) ?_
          exact ret_Z (rngB nu n (t - 1) (numO ch p e)) C S hr dX5_takesToken_102 (by (try rw [hno]); rw [show rngB nu n (t - 1) (none) = false from rfl]; rfl) ⟨(by (try rw [hno]); rw [show rngB nu n (t - 1) (none) = false from rfl]; rfl), f, (fun v9 h9 b9 => by (try rw [hno] at h9); cases h9), (rfl)⟩
        · -- 87 F
          exact absurd (show (-1 : Int32) < nI (LEN (t - 1)) from m1_lt (by omega)) c_3
      | some v =>
        rw [hno] at hl
        have hl : lv_has ls 7 [(6, .int (nI v)), (5, .int (nI (t - 1))), (0, .ref th), (1, .ref h), (2, .int (nI t)), (3, .int (nI p)), (4, .int (nI e))] := hl
        have hv9 : v ≤ 1000 := num_le hno hfg
        refine lv_iload hx hb dX5_takesToken_79 (lv_at hl 0 rfl) ?_
        obtain ⟨tLe, ztLe, htLe⟩ := C.2.2.1.2.1
        refine va_getsN hx hb ztLe S.2.2 hown (va_Nw.use rfl (C.2.2.1.1.1 ("StackedLeaves$Text", 47, "StackedLeaves", "LEAST_NUMBER", "[I") (by decide +kernel))) (fun _ h9 => h9) dX5_takesToken_81 ?_
        refine lv_iload hx hb dX5_takesToken_84 (lv_at hl 1 rfl) ?_
        refine top_tab C S htLe (j := (t - 1)) rfl (by omega) dX5_takesToken_86 ?_
        refine top_eq (y := nI (LEN (t - 1))) (fLe_N (by omega)) ?_
        refine bn_ilt (tgt := 101) (a := v) (b := LEN (t - 1)) hx hb rfl rfl (by omega) (by omega) dX5_takesToken_87 (by decide) (fun c_4 => ?_) (fun c_4 => ?_)
        · -- 87 T
          refine lv_iconst (v := 0) hx hb dX5_takesToken_101 (by decide) ?_
          exact ret_Z (rngB nu n (t - 1) (numO ch p e)) C S hr dX5_takesToken_102 (by (try rw [hno]); rw [show rngB nu n (t - 1) (some v) = false from decide_eq_false (by omega)]; rfl) ⟨(by (try rw [hno]); rw [show rngB nu n (t - 1) (some v) = false from decide_eq_false (by omega)]; rfl), f, (fun v9 h9 b9 => by (try rw [hno] at h9); cases h9; exact absurd (of_decide_eq_true b9) (by omega)), (rfl)⟩
        · -- 87 F
          refine lv_iload hx hb dX5_takesToken_90 (lv_at hl 0 rfl) ?_
          refine lv_aload_n hx hb dX5_takesToken_92 rfl (lv_at hl 3 rfl) ?_
          refine lv_iload hx hb dX5_takesToken_93 (lv_at hl 1 rfl) ?_
          refine after_I (wc := [(h, ob 2 [.ref q, .int (nI n), .int (nI ww)]), (q, aI g 32 f)]) (y := yX2_mostOfNext) C S (va_runV (As := [.int (nI (t - 1))]) (rest := [.int (nI v)]) C.1 (kX2_mostOfNext l g h q f n ww (t - 1) (by first | assumption | omega) (by first | assumption | omega) H.size) (cwV 1 hts gX5_takesToken_X2_mostOfNext rfl rfl rfl (by decide +kernel) ⟨Nat.le_of_ble_eq_true rfl, Nat.le_of_ble_eq_true rfl⟩) (preV_at C S 2 rfl rfl [2, 3] rfl (by decide)) rfl rfl hl.1 rfl (lv_room (Nat.le_of_ble_eq_true rfl)) dX5_takesToken_95 ⟨Nat.le_of_ble_eq_true rfl, Nat.le_of_ble_eq_true rfl⟩) [2, 3] [0, 1] rfl (wr := [(th, ob 5 [.ref tl, .int (nI z)]), (tl, aC g 100 tx)]) rfl (by decide) (by decide) (fun r0 w0 H locs hq S => ?_)
          obtain ⟨rfl, rfl⟩ := hq
          have S : ST g A ss H locs [(th, ob 5 [.ref tl, .int (nI z)]), (tl, aC g 100 tx), (h, ob 2 [.ref q, .int (nI n), .int (nI ww)]), (q, aI g 32 f)] := S
          refine top_eq (y := nI (MON nu n (t - 1))) (MON_N (by omega) hf0) ?_
          refine bn_ile (tgt := 103) (a := v) (b := MON nu n (t - 1)) hx hb rfl rfl (by omega) (by omega) dX5_takesToken_98 (by decide) (fun c_5 => ?_) (fun c_5 => ?_)
          · -- 98 T
            refine lv_aload_n hx hb dX5_takesToken_103 rfl (lv_at hl 3 rfl) ?_
            refine lv_iload hx hb dX5_takesToken_104 (lv_at hl 1 rfl) ?_
            refine lv_aload_n hx hb dX5_takesToken_106 rfl (lv_at hl 3 rfl) ?_
            refine top_getN C S inX5_takesTokenm_X2 rfl 2 rfl 1 (by decide) (by decide +kernel) rfl dX5_takesToken_107 ?_
            refine lv_iload hx hb dX5_takesToken_110 (lv_at hl 0 rfl) ?_
            refine after_V (wc := [(h, ob 2 [.ref q, .int (nI n), .int (nI ww)]), (q, aI g 32 f)]) (y := yX2_put) C S (va_runV (As := [.int (nI (t - 1)), .int (nI n), .int (nI v)]) (rest := []) C.1 (kX2_put l g h q f n ww (t - 1) n (nI v) (by first | assumption | omega) (by first | assumption | omega) H.size) (cwV 3 hts gX5_takesToken_X2_put rfl rfl rfl (by decide +kernel) ⟨Nat.le_of_ble_eq_true rfl, Nat.le_of_ble_eq_true rfl⟩) (preV_at C S 2 rfl rfl [2, 3] rfl (by decide)) rfl rfl hl.1 rfl (lv_room (Nat.le_of_ble_eq_true rfl)) dX5_takesToken_112 ⟨Nat.le_of_ble_eq_true rfl, Nat.le_of_ble_eq_true rfl⟩) [2, 3] [0, 1] rfl (wr := [(th, ob 5 [.ref tl, .int (nI z)]), (tl, aC g 100 tx)]) rfl (by decide) (by decide) (fun w0 H locs hq S => ?_)
            subst hq
            have S : ST g A ss H locs [(th, ob 5 [.ref tl, .int (nI z)]), (tl, aC g 100 tx), (h, ob 2 [.ref q, .int (nI n), .int (nI ww)]), (q, aI g 32 (upd f ((t - 1) * 8 + n) (nI v)))] := S
            refine lv_iconst (v := 1) hx hb dX5_takesToken_115 (by decide) ?_
            exact ret_Z (rngB nu n (t - 1) (numO ch p e)) C S hr dX5_takesToken_116 (by (try rw [hno]); rw [show rngB nu n (t - 1) (some v) = true from decide_eq_true ⟨by omega, by omega⟩]; rfl) ⟨(by (try rw [hno]); rw [show rngB nu n (t - 1) (some v) = true from decide_eq_true ⟨by omega, by omega⟩]; rfl), (upd f ((t - 1) * 8 + n) (nI v)), (fun v9 h9 b9 => by (try rw [hno] at h9); cases h9; rfl), (rfl)⟩
          · -- 98 F
            refine lv_iconst (v := 0) hx hb dX5_takesToken_101 (by decide) ?_
            exact ret_Z (rngB nu n (t - 1) (numO ch p e)) C S hr dX5_takesToken_102 (by (try rw [hno]); rw [show rngB nu n (t - 1) (some v) = false from decide_eq_false (by omega)]; rfl) ⟨(by (try rw [hno]); rw [show rngB nu n (t - 1) (some v) = false from decide_eq_false (by omega)]; rfl), f, (fun v9 h9 b9 => by (try rw [hno] at h9); cases h9; exact absurd (of_decide_eq_true b9) (by omega)), (rfl)⟩
    · -- 32 F
      exact absurd c_2 (by omega)
  · -- 1 F
    exact absurd c_1 (by omega)

theorem inX5_readInto_X2 : ∀ w ∈ wsX20, w ∈ wsX5_readInto := by decide +kernel
theorem inX5_readInto_X5 : ∀ w ∈ wsX50, w ∈ wsX5_readInto := by decide +kernel
set_option maxRecDepth 100000 in
set_option maxHeartbeats 4000000 in
theorem kX5_readInto (l : Launch) (g : GG) (th : Nat) (tl : Nat) (tx : Nat → Int32) (z : Nat) (ch : Nat → Nat) (h : Nat) (q : Nat) (f : Nat → Int32) (n : Nat) (ww : Nat) (hz : z ≤ 100) (htx : ∀ i, i < z → tx i = nI (ch i)) (hch : ∀ i, i < z → ch i ≤ 255) : KI l g yX5_readInto wsX5_readInto 3 73 [.ref th, .ref h] [(th, ob 5 [.ref tl, .int (nI z)]), (tl, aC g 100 tx), (h, ob 2 [.ref q, .int (nI n), .int (nI ww)]), (q, aI g 32 f)] (fun (r : Int32) (w' : va_W) => r = (oI (RD ch z).1) ∧ ∃ (f' : Nat → Int32), ∃ (n' : Nat), ∃ (ww' : Nat), ((RD ch z).1 = none → n' = (RD ch z).2.1 ∧ ww' = 2 ^ n' - 1 ∧ ∀ a i, a < 4 → i < n' → f' (a * 8 + i) = nI ((RD ch z).2.2 a i)) ∧ w' = [(th, ob 5 [.ref tl, .int (nI z)]), (tl, aC g 100 tx), (h, ob 2 [.ref q, .int (nI n'), .int (nI ww')]), (q, aI g 32 f')]) := by
  refine kI_of (cc := cX5_readInto) (maxL := 6) (by decide) rfl (Nat.le_of_ble_eq_true rfl) ?_
  intro pp ee ss mm bel mth cd A ls C S hr hl
  obtain ⟨hx, hb, hml, hown, hts⟩ := id C.1
  have hl : lv_has ls 6 [(0, .ref th), (1, .ref h)] := hl
  obtain ⟨H, hH⟩ : ∃ H, H = ss.heap := ⟨_, rfl⟩
  obtain ⟨locs, hL0⟩ : ∃ L : List Loc, L = [] := ⟨_, rfl⟩
  rw [← hH, ← hL0] at S ⊢
  refine lv_aload_n hx hb dX5_readInto_0 rfl (lv_at hl 1 rfl) ?_
  refine after_V (wc := [(h, ob 2 [.ref q, .int (nI n), .int (nI ww)]), (q, aI g 32 f)]) (y := yX2_empty) C S (va_runV (As := []) (rest := []) C.1 (kX2_empty l g h q f n ww H.size) (cwV 0 hts gX5_readInto_X2_empty rfl rfl rfl (by decide +kernel) ⟨Nat.le_of_ble_eq_true rfl, Nat.le_of_ble_eq_true rfl⟩) (preV_at C S 2 rfl rfl [2, 3] rfl (by decide)) rfl rfl hl.1 rfl (lv_room (Nat.le_of_ble_eq_true rfl)) dX5_readInto_1 ⟨Nat.le_of_ble_eq_true rfl, Nat.le_of_ble_eq_true rfl⟩) [2, 3] [0, 1] rfl (wr := [(th, ob 5 [.ref tl, .int (nI z)]), (tl, aC g 100 tx)]) rfl (by decide) (by decide) (fun w0 H locs hq S => ?_)
  subst hq
  have S : ST g A ss H locs [(th, ob 5 [.ref tl, .int (nI z)]), (tl, aC g 100 tx), (h, ob 2 [.ref q, .int (nI 0), .int (nI 0)]), (q, aI g 32 f)] := S
  refine lv_iconst (v := 0) hx hb dX5_readInto_4 (by decide) ?_
  refine lv_istore_n (lv' := [(2, .int 0), (0, .ref th), (1, .ref h)]) hx hb dX5_readInto_5 rfl hl (by decide) rfl (fun ls hl => ?_)
  refine lv_aload_n hx hb dX5_readInto_6 rfl (lv_at hl 1 rfl) ?_
  refine lv_iconst (v := 0) hx hb dX5_readInto_7 (by decide) ?_
  refine after_I (wc := [(th, ob 5 [.ref tl, .int (nI z)]), (tl, aC g 100 tx)]) (y := yX5_behindBlanks) C S (va_runV (As := [.int 0]) (rest := []) C.1 (kX5_behindBlanks l g th tl tx z ch 0 (by first | assumption | omega) (by first | assumption | omega) (by first | assumption | omega) (Nat.zero_le _) H.size) (cwV 1 hts gX5_readInto_X5_behindBlanks rfl rfl rfl (by decide +kernel) ⟨Nat.le_of_ble_eq_true rfl, Nat.le_of_ble_eq_true rfl⟩) (preV_at C S 0 rfl rfl [0, 1] rfl (by decide)) rfl rfl hl.1 rfl (lv_room (Nat.le_of_ble_eq_true rfl)) dX5_readInto_8 ⟨Nat.le_of_ble_eq_true rfl, Nat.le_of_ble_eq_true rfl⟩) [0, 1] [2, 3] rfl (wr := [(h, ob 2 [.ref q, .int (nI 0), .int (nI 0)]), (q, aI g 32 f)]) rfl (by decide) (by decide) (fun r0 w0 H locs hq S => ?_)
  obtain ⟨rfl, rfl⟩ := hq
  have S : ST g A ss H locs [(th, ob 5 [.ref tl, .int (nI z)]), (tl, aC g 100 tx), (h, ob 2 [.ref q, .int (nI 0), .int (nI 0)]), (q, aI g 32 f)] := ST.sub S [2, 3, 0, 1] (by decide) rfl
  refine lv_istore_n (lv' := [(3, .int (nI (bk ch z 0))), (2, .int 0), (0, .ref th), (1, .ref h)]) hx hb dX5_readInto_11 rfl hl (by decide) rfl (fun ls hl => ?_)
  refine lv_iconst (v := 0) hx hb dX5_readInto_12 (by decide) ?_
  refine lv_istore (lv' := [(4, .int 0), (3, .int (nI (bk ch z 0))), (2, .int 0), (0, .ref th), (1, .ref h)]) hx hb dX5_readInto_13 hl (by decide) rfl (fun ls hl => ?_)
  have loop15 : ∀ (N0 : Nat) (t : Nat) (p : Nat) (k : Nat) (n : Nat) (nu : Nat → Nat → Nat) (ww : Nat) (f : Nat → Int32), z - p < N0 → (p ≤ z) → (k ≤ p) → (HT nu n t) → (ww = 2 ^ n - 1) → (∀ a i, a < 4 → (i < n ∨ (i = n ∧ a + 1 < t)) → f (a * 8 + i) = nI (nu a i)) → (rd ch z (100 - k) t p n nu = RD ch z) → ∀ (H : Heap) (locs : List Loc) (ls : Array Slot), ST g A ss H locs [(th, ob 5 [.ref tl, .int (nI z)]), (tl, aC g 100 tx), (h, ob 2 [.ref q, .int (nI n), .int (nI ww)]), (q, aI g 32 f)] → lv_has ls 6 [(4, .int (nI k)), (3, .int (nI p)), (2, .int (nI t)), (0, .ref th), (1, .ref h)] → W pp l ee { frames := 3, cells := 0, slots := 0, locals := 73 } ss mm ([.ref th, .ref h] : List Value).toArray bel mth cd H locs 0 0 (QI bel ([.ref th, .ref h] : List Value).toArray ss g A (fun (r : Int32) (w' : va_W) => r = (oI (RD ch z).1) ∧ ∃ (f' : Nat → Int32), ∃ (n' : Nat), ∃ (ww' : Nat), ((RD ch z).1 = none → n' = (RD ch z).2.1 ∧ ww' = 2 ^ n' - 1 ∧ ∀ a i, a < 4 → i < n' → f' (a * 8 + i) = nI ((RD ch z).2.2 a i)) ∧ w' = [(th, ob 5 [.ref tl, .int (nI z)]), (tl, aC g 100 tx), (h, ob 2 [.ref q, .int (nI n'), .int (nI ww')]), (q, aI g 32 f')])) (F0 mm 15 ls []) := by
    intro N0
    induction N0 with
    | zero => intro t p k n nu ww f hN; exact absurd hN (Nat.not_lt_zero _)
    | succ N0 ih15 =>
      intro t p k n nu ww f hN hpz0 hkp hHT hww hf hrd H locs ls S hl
      have hn8 : n ≤ 8 := hHT.1
      have ht5 : t ≤ 5 := hHT.2.1
      refine lv_iload_n hx hb dX5_readInto_15 rfl (lv_at hl 1 rfl) ?_
      refine lv_aload_n hx hb dX5_readInto_16 rfl (lv_at hl 3 rfl) ?_
      refine top_get C S inX5_readInto_X5 rfl 0 rfl 1 (by decide) (by decide +kernel) rfl rfl dX5_readInto_17 ?_
      refine bn_ige (tgt := 77) (a := p) (b := z) hx hb rfl rfl (by omega) (by omega) dX5_readInto_20 (by decide) (fun c_1 => ?_) (fun c_1 => ?_)
      · -- 20 T
        have hpz : ¬ p < z := by omega
        have hR : RD ch z = if t = 0 ∧ 0 < n then (none, n, nu) else (some z, n, nu) := by rw [← hrd]; exact rd_end hpz
        refine lv_iload_n hx hb dX5_readInto_77 rfl (lv_at hl 2 rfl) ?_
        refine bn_zne (tgt := 92) (a := t) hx hb rfl (by omega) dX5_readInto_78 (by decide) (fun c_2 => ?_) (fun c_2 => ?_)
        · -- 78 T
          refine lv_aload_n hx hb dX5_readInto_92 rfl (lv_at hl 3 rfl) ?_
          refine top_get C S inX5_readInto_X5 rfl 0 rfl 1 (by decide) (by decide +kernel) rfl rfl dX5_readInto_93 ?_
          exact ret_I C S hr dX5_readInto_96 ⟨(by rw [hR, if_neg (by omega)] <;> rfl), f, n, ww, (fun q9 => by rw [hR, if_neg (by omega)] at q9; cases q9), (rfl)⟩
        · -- 78 F
          refine lv_aload_n hx hb dX5_readInto_81 rfl (lv_at hl 4 rfl) ?_
          refine top_getN C S inX5_readInto_X2 rfl 2 rfl 1 (by decide) (by decide +kernel) rfl dX5_readInto_82 ?_
          refine bn_zle (tgt := 92) (a := n) hx hb rfl (by omega) dX5_readInto_85 (by decide) (fun c_3 => ?_) (fun c_3 => ?_)
          · -- 85 T
            refine lv_aload_n hx hb dX5_readInto_92 rfl (lv_at hl 3 rfl) ?_
            refine top_get C S inX5_readInto_X5 rfl 0 rfl 1 (by decide) (by decide +kernel) rfl rfl dX5_readInto_93 ?_
            exact ret_I C S hr dX5_readInto_96 ⟨(by rw [hR, if_neg (by omega)] <;> rfl), f, n, ww, (fun q9 => by rw [hR, if_neg (by omega)] at q9; cases q9), (rfl)⟩
          · -- 85 F
            refine lv_iconst (v := (-1)) hx hb dX5_readInto_88 (by decide) ?_
            refine lv_goto (tgt := 96) hx hb dX5_readInto_89 (by decide) ?_
            exact ret_I C S hr dX5_readInto_96 ⟨(by rw [hR, if_pos ⟨by omega, by omega⟩] <;> rfl), f, n, ww, (fun q9 => by rw [hR, if_pos ⟨by omega, by omega⟩]; exact ⟨rfl, hww, fun a i ha hi => hf a i ha (Or.inl hi)⟩), (rfl)⟩
      · -- 20 F
        have hpz : p < z := by omega
        refine lv_iload hx hb dX5_readInto_23 (lv_at hl 0 rfl) ?_
        refine lv_bipush (v := 100) hx hb dX5_readInto_25 (by decide) ?_
        refine bn_ige (tgt := 77) (a := k) (b := 100) hx hb rfl rfl (by omega) (by omega) dX5_readInto_27 (by decide) (fun c_4 => ?_) (fun c_4 => ?_)
        · -- 27 T
          exact absurd c_4 (by omega)
        · -- 27 F
          refine lv_aload_n hx hb dX5_readInto_30 rfl (lv_at hl 3 rfl) ?_
          refine lv_iload_n hx hb dX5_readInto_31 rfl (lv_at hl 1 rfl) ?_
          refine after_I (wc := [(th, ob 5 [.ref tl, .int (nI z)]), (tl, aC g 100 tx)]) (y := yX5_tokenEnd) C S (va_runV (As := [.int (nI p)]) (rest := []) C.1 (kX5_tokenEnd l g th tl tx z ch p (by first | assumption | omega) (by first | assumption | omega) (by first | assumption | omega) (by first | assumption | omega) H.size) (cwV 1 hts gX5_readInto_X5_tokenEnd rfl rfl rfl (by decide +kernel) ⟨Nat.le_of_ble_eq_true rfl, Nat.le_of_ble_eq_true rfl⟩) (preV_at C S 0 rfl rfl [0, 1] rfl (by decide)) rfl rfl hl.1 rfl (lv_room (Nat.le_of_ble_eq_true rfl)) dX5_readInto_32 ⟨Nat.le_of_ble_eq_true rfl, Nat.le_of_ble_eq_true rfl⟩) [0, 1] [2, 3] rfl (wr := [(h, ob 2 [.ref q, .int (nI n), .int (nI ww)]), (q, aI g 32 f)]) rfl (by decide) (by decide) (fun r0 w0 H locs hq S => ?_)
          obtain ⟨rfl, rfl⟩ := hq
          have S : ST g A ss H locs [(th, ob 5 [.ref tl, .int (nI z)]), (tl, aC g 100 tx), (h, ob 2 [.ref q, .int (nI n), .int (nI ww)]), (q, aI g 32 f)] := ST.sub S [2, 3, 0, 1] (by decide) rfl
          refine lv_istore (lv' := [(5, .int (nI (teN ch z p))), (4, .int (nI k)), (3, .int (nI p)), (2, .int (nI t)), (0, .ref th), (1, .ref h)]) hx hb dX5_readInto_35 hl (by decide) rfl (fun ls hl => ?_)
          rcases (show t = 0 ∨ t = 5 ∨ (1 ≤ t ∧ t ≤ 4) by omega) with rfl | rfl | ⟨ht1, ht4⟩
          ·
            have hl : lv_has ls 6 [(5, .int (nI (teN ch z p))), (4, .int (nI k)), (3, .int (nI p)), (2, .int 0), (0, .ref th), (1, .ref h)] := hl
            refine lv_aload_n hx hb dX5_readInto_37 rfl (lv_at hl 4 rfl) ?_
            refine lv_aload_n hx hb dX5_readInto_38 rfl (lv_at hl 5 rfl) ?_
            refine lv_iload_n hx hb dX5_readInto_39 rfl (lv_at hl 3 rfl) ?_
            refine lv_iload_n hx hb dX5_readInto_40 rfl (lv_at hl 2 rfl) ?_
            refine lv_iload hx hb dX5_readInto_41 (lv_at hl 0 rfl) ?_
            refine after_I (wc := [(th, ob 5 [.ref tl, .int (nI z)]), (tl, aC g 100 tx), (h, ob 2 [.ref q, .int (nI n), .int (nI ww)]), (q, aI g 32 f)]) (y := yX5_takesToken) C S (va_runV (As := [.ref h, .int 0, .int (nI p), .int (nI (teN ch z p))]) (rest := []) C.1 (kX5_takesToken0 l g th tl tx z ch h q f n ww p (nI (teN ch z p)) (by first | assumption | omega) (by first | assumption | omega) (by first | assumption | omega) (by first | assumption | omega) (by first | omega | exact hHT.2.2.1 (by omega)) H.size) (cwV 4 hts gX5_readInto_X5_takesToken rfl rfl rfl (by decide +kernel) ⟨Nat.le_of_ble_eq_true rfl, Nat.le_of_ble_eq_true rfl⟩) (preV_at C S 0 rfl rfl [0, 1, 2, 3] rfl (by decide)) rfl rfl hl.1 rfl (lv_room (Nat.le_of_ble_eq_true rfl)) dX5_readInto_43 ⟨Nat.le_of_ble_eq_true rfl, Nat.le_of_ble_eq_true rfl⟩) [0, 1, 2, 3] [] rfl (wr := []) rfl (by decide) (by decide) (fun r0 w0 H locs hq S => ?_)
            obtain ⟨rfl, rfl⟩ := hq
            have S : ST g A ss H locs [(th, ob 5 [.ref tl, .int (nI z)]), (tl, aC g 100 tx), (h, ob 2 [.ref q, .int (nI n), .int (nI ww)]), (q, aI g 32 f)] := S
            refine br_neB (tgt := 51) hx hb dX5_readInto_46 (by decide) (fun c_5 => ?_) (fun c_5 => ?_)
            · -- 46 T
              have hok : okT ch z 0 p n nu = true := c_5
              have hR : RD ch z = rd ch z (100 - (k + 1)) (nxT 0) (bk ch z (teN ch z p)) (nxN 0 n) (nxU ch z 0 p n nu) := by rw [← hrd, show 100 - k = (100 - (k + 1)) + 1 by omega]; exact rd_ok hpz hok
              have hT2 := HT_step hHT hok
              refine lv_iload_n hx hb dX5_readInto_51 rfl (lv_at hl 3 rfl) ?_
              refine lv_iconst (v := 5) hx hb dX5_readInto_52 (by decide) ?_
              refine bn_ine (tgt := 60) (a := 0) (b := 5) hx hb rfl rfl (by omega) (by omega) dX5_readInto_53 (by decide) (fun c_6 => ?_) (fun c_6 => ?_)
              · -- 53 T
                refine lv_iload_n hx hb dX5_readInto_60 rfl (lv_at hl 3 rfl) ?_
                refine lv_iconst (v := 1) hx hb dX5_readInto_61 (by decide) ?_
                refine lv_iadd hx hb dX5_readInto_62 ?_
                refine top_eq (y := nI (0 + 1)) (nI_add _ _) ?_
                refine lv_istore_n (lv' := [(2, .int (nI (0 + 1))), (5, .int (nI (teN ch z p))), (4, .int (nI k)), (3, .int (nI p)), (0, .ref th), (1, .ref h)]) hx hb dX5_readInto_63 rfl hl (by decide) rfl (fun ls hl => ?_)
                refine lv_aload_n hx hb dX5_readInto_64 rfl (lv_at hl 4 rfl) ?_
                refine lv_iload hx hb dX5_readInto_65 (lv_at hl 1 rfl) ?_
                refine after_I (wc := [(th, ob 5 [.ref tl, .int (nI z)]), (tl, aC g 100 tx)]) (y := yX5_behindBlanks) C S (va_runV (As := [.int (nI (teN ch z p))]) (rest := []) C.1 (kX5_behindBlanks l g th tl tx z ch (teN ch z p) (by first | assumption | omega) (by first | assumption | omega) (by first | assumption | omega) (te_in hpz).2 H.size) (cwV 1 hts gX5_readInto_X5_behindBlanks rfl rfl rfl (by decide +kernel) ⟨Nat.le_of_ble_eq_true rfl, Nat.le_of_ble_eq_true rfl⟩) (preV_at C S 0 rfl rfl [0, 1] rfl (by decide)) rfl rfl hl.1 rfl (lv_room (Nat.le_of_ble_eq_true rfl)) dX5_readInto_67 ⟨Nat.le_of_ble_eq_true rfl, Nat.le_of_ble_eq_true rfl⟩) [0, 1] [2, 3] rfl (wr := [(h, ob 2 [.ref q, .int (nI n), .int (nI ww)]), (q, aI g 32 f)]) rfl (by decide) (by decide) (fun r0 w0 H locs hq S => ?_)
                obtain ⟨rfl, rfl⟩ := hq
                have S : ST g A ss H locs [(th, ob 5 [.ref tl, .int (nI z)]), (tl, aC g 100 tx), (h, ob 2 [.ref q, .int (nI n), .int (nI ww)]), (q, aI g 32 f)] := ST.sub S [2, 3, 0, 1] (by decide) rfl
                refine lv_istore_n (lv' := [(3, .int (nI (bk ch z (teN ch z p)))), (2, .int (nI (0 + 1))), (5, .int (nI (teN ch z p))), (4, .int (nI k)), (0, .ref th), (1, .ref h)]) hx hb dX5_readInto_70 rfl hl (by decide) rfl (fun ls hl => ?_)
                refine lv_iinc (v := nI (k + 1)) (lv' := [(4, .int (nI (k + 1))), (3, .int (nI (bk ch z (teN ch z p)))), (2, .int (nI (0 + 1))), (5, .int (nI (teN ch z p))), (0, .ref th), (1, .ref h)]) hx hb dX5_readInto_71 hl (k := 3) rfl (nI_add _ _) (by decide) rfl (fun ls hl => ?_)
                refine lv_goto (tgt := 15) hx hb dX5_readInto_74 (by decide) ?_
                exact ih15 (0 + 1) (bk ch z (teN ch z p)) (k + 1) (nxN 0 n) (nxU ch z 0 p n nu) ww f (by have a9 := te_in (ch := ch) hpz; have b9 := bk_in (ch := ch) a9.2; omega) ((bk_in (te_in hpz).2).2) (by have a9 := te_in (ch := ch) hpz; have b9 := bk_in (ch := ch) a9.2; omega) (hT2) (hww) (fun a i ha hi => hf a i ha (by rcases hi with q | ⟨q, q2⟩; exact Or.inl q; have q2 : a + 1 < 1 := q2; omega)) (hR.symm) H locs ls (ST.eq S (rfl)) (lv_sub hl [0, 1, 2, 4, 5] (rfl))
              · -- 53 F
                exact absurd c_6 (by decide)
            · -- 46 F
              have hok : okT ch z 0 p n nu = false := c_5
              have hR : RD ch z = (some p, n, nu) := by rw [← hrd, show 100 - k = (100 - (k + 1)) + 1 by omega]; exact rd_bad hpz hok
              refine lv_iload_n hx hb dX5_readInto_49 rfl (lv_at hl 2 rfl) ?_
              exact ret_I C S hr dX5_readInto_50 ⟨(by rw [hR] <;> rfl), f, n, ww, (fun q9 => by rw [hR] at q9; cases q9), (rfl)⟩
          ·
            have hl : lv_has ls 6 [(5, .int (nI (teN ch z p))), (4, .int (nI k)), (3, .int (nI p)), (2, .int 5), (0, .ref th), (1, .ref h)] := hl
            refine lv_aload_n hx hb dX5_readInto_37 rfl (lv_at hl 4 rfl) ?_
            refine lv_aload_n hx hb dX5_readInto_38 rfl (lv_at hl 5 rfl) ?_
            refine lv_iload_n hx hb dX5_readInto_39 rfl (lv_at hl 3 rfl) ?_
            refine lv_iload_n hx hb dX5_readInto_40 rfl (lv_at hl 2 rfl) ?_
            refine lv_iload hx hb dX5_readInto_41 (lv_at hl 0 rfl) ?_
            refine after_I (wc := [(th, ob 5 [.ref tl, .int (nI z)]), (tl, aC g 100 tx), (h, ob 2 [.ref q, .int (nI n), .int (nI ww)]), (q, aI g 32 f)]) (y := yX5_takesToken) C S (va_runV (As := [.ref h, .int 5, .int (nI p), .int (nI (teN ch z p))]) (rest := []) C.1 (kX5_takesToken5 l g th tl tx z ch h q f n ww p (nI (teN ch z p)) (by first | assumption | omega) (by first | assumption | omega) (by first | assumption | omega) (by first | assumption | omega) (by first | omega | exact hHT.2.2.1 (by omega)) (by rw [hww]; exact Nat.lt_of_lt_of_le (Nat.sub_lt (Nat.pow_pos (by decide)) (by decide)) (Nat.pow_le_pow_right (by decide) (show n ≤ 8 by omega))) H.size) (cwV 4 hts gX5_readInto_X5_takesToken rfl rfl rfl (by decide +kernel) ⟨Nat.le_of_ble_eq_true rfl, Nat.le_of_ble_eq_true rfl⟩) (preV_at C S 0 rfl rfl [0, 1, 2, 3] rfl (by decide)) rfl rfl hl.1 rfl (lv_room (Nat.le_of_ble_eq_true rfl)) dX5_readInto_43 ⟨Nat.le_of_ble_eq_true rfl, Nat.le_of_ble_eq_true rfl⟩) [0, 1, 2, 3] [] rfl (wr := []) rfl (by decide) (by decide) (fun r0 w0 H locs hq S => ?_)
            obtain ⟨rfl, n9, ww9, hq1, rfl⟩ := hq
            have S : ST g A ss H locs [(th, ob 5 [.ref tl, .int (nI z)]), (tl, aC g 100 tx), (h, ob 2 [.ref q, .int (nI n9), .int (nI ww9)]), (q, aI g 32 f)] := S
            refine br_neB (tgt := 51) hx hb dX5_readInto_46 (by decide) (fun c_7 => ?_) (fun c_7 => ?_)
            · -- 46 T
              have hok : okT ch z 5 p n nu = true := c_7
              have hR : RD ch z = rd ch z (100 - (k + 1)) (nxT 5) (bk ch z (teN ch z p)) (nxN 5 n) (nxU ch z 5 p n nu) := by rw [← hrd, show 100 - k = (100 - (k + 1)) + 1 by omega]; exact rd_ok hpz hok
              have hT2 := HT_step hHT hok
              obtain ⟨rfl, rfl⟩ := hq1 (of_decide_eq_true c_7)
              refine lv_iload_n hx hb dX5_readInto_51 rfl (lv_at hl 3 rfl) ?_
              refine lv_iconst (v := 5) hx hb dX5_readInto_52 (by decide) ?_
              refine bn_ine (tgt := 60) (a := 5) (b := 5) hx hb rfl rfl (by omega) (by omega) dX5_readInto_53 (by decide) (fun c_8 => ?_) (fun c_8 => ?_)
              · -- 53 T
                exact absurd c_8 (by decide)
              · -- 53 F
                refine lv_iconst (v := 0) hx hb dX5_readInto_56 (by decide) ?_
                refine lv_goto (tgt := 63) hx hb dX5_readInto_57 (by decide) ?_
                refine lv_istore_n (lv' := [(2, .int 0), (5, .int (nI (teN ch z p))), (4, .int (nI k)), (3, .int (nI p)), (0, .ref th), (1, .ref h)]) hx hb dX5_readInto_63 rfl hl (by decide) rfl (fun ls hl => ?_)
                refine lv_aload_n hx hb dX5_readInto_64 rfl (lv_at hl 4 rfl) ?_
                refine lv_iload hx hb dX5_readInto_65 (lv_at hl 1 rfl) ?_
                refine after_I (wc := [(th, ob 5 [.ref tl, .int (nI z)]), (tl, aC g 100 tx)]) (y := yX5_behindBlanks) C S (va_runV (As := [.int (nI (teN ch z p))]) (rest := []) C.1 (kX5_behindBlanks l g th tl tx z ch (teN ch z p) (by first | assumption | omega) (by first | assumption | omega) (by first | assumption | omega) (te_in hpz).2 H.size) (cwV 1 hts gX5_readInto_X5_behindBlanks rfl rfl rfl (by decide +kernel) ⟨Nat.le_of_ble_eq_true rfl, Nat.le_of_ble_eq_true rfl⟩) (preV_at C S 0 rfl rfl [0, 1] rfl (by decide)) rfl rfl hl.1 rfl (lv_room (Nat.le_of_ble_eq_true rfl)) dX5_readInto_67 ⟨Nat.le_of_ble_eq_true rfl, Nat.le_of_ble_eq_true rfl⟩) [0, 1] [2, 3] rfl (wr := [(h, ob 2 [.ref q, .int (nI (n + 1)), .int (nI (ww ||| 2 ^ n))]), (q, aI g 32 f)]) rfl (by decide) (by decide) (fun r0 w0 H locs hq S => ?_)
                obtain ⟨rfl, rfl⟩ := hq
                have S : ST g A ss H locs [(th, ob 5 [.ref tl, .int (nI z)]), (tl, aC g 100 tx), (h, ob 2 [.ref q, .int (nI (n + 1)), .int (nI (ww ||| 2 ^ n))]), (q, aI g 32 f)] := ST.sub S [2, 3, 0, 1] (by decide) rfl
                refine lv_istore_n (lv' := [(3, .int (nI (bk ch z (teN ch z p)))), (2, .int 0), (5, .int (nI (teN ch z p))), (4, .int (nI k)), (0, .ref th), (1, .ref h)]) hx hb dX5_readInto_70 rfl hl (by decide) rfl (fun ls hl => ?_)
                refine lv_iinc (v := nI (k + 1)) (lv' := [(4, .int (nI (k + 1))), (3, .int (nI (bk ch z (teN ch z p)))), (2, .int 0), (5, .int (nI (teN ch z p))), (0, .ref th), (1, .ref h)]) hx hb dX5_readInto_71 hl (k := 3) rfl (nI_add _ _) (by decide) rfl (fun ls hl => ?_)
                refine lv_goto (tgt := 15) hx hb dX5_readInto_74 (by decide) ?_
                exact ih15 0 (bk ch z (teN ch z p)) (k + 1) (n + 1) (nxU ch z 5 p n nu) (ww ||| 2 ^ n) f (by have a9 := te_in (ch := ch) hpz; have b9 := bk_in (ch := ch) a9.2; omega) ((bk_in (te_in hpz).2).2) (by have a9 := te_in (ch := ch) hpz; have b9 := bk_in (ch := ch) a9.2; omega) (hT2) (by rw [hww]; exact or_pow n) (fun a i ha hi => hf a i ha (by rcases hi with q | ⟨q, q2⟩; (have q : i < n + 1 := q; omega); have q2 : a + 1 < 0 := q2; omega)) (hR.symm) H locs ls (ST.eq S (rfl)) (lv_sub hl [0, 1, 2, 4, 5] (rfl))
            · -- 46 F
              have hok : okT ch z 5 p n nu = false := c_7
              have hR : RD ch z = (some p, n, nu) := by rw [← hrd, show 100 - k = (100 - (k + 1)) + 1 by omega]; exact rd_bad hpz hok
              refine lv_iload_n hx hb dX5_readInto_49 rfl (lv_at hl 2 rfl) ?_
              exact ret_I C S hr dX5_readInto_50 ⟨(by rw [hR] <;> rfl), f, n9, ww9, (fun q9 => by rw [hR] at q9; cases q9), (rfl)⟩
          ·
            refine lv_aload_n hx hb dX5_readInto_37 rfl (lv_at hl 4 rfl) ?_
            refine lv_aload_n hx hb dX5_readInto_38 rfl (lv_at hl 5 rfl) ?_
            refine lv_iload_n hx hb dX5_readInto_39 rfl (lv_at hl 3 rfl) ?_
            refine lv_iload_n hx hb dX5_readInto_40 rfl (lv_at hl 2 rfl) ?_
            refine lv_iload hx hb dX5_readInto_41 (lv_at hl 0 rfl) ?_
            refine after_I (wc := [(th, ob 5 [.ref tl, .int (nI z)]), (tl, aC g 100 tx), (h, ob 2 [.ref q, .int (nI n), .int (nI ww)]), (q, aI g 32 f)]) (y := yX5_takesToken) C S (va_runV (As := [.ref h, .int (nI t), .int (nI p), .int (nI (teN ch z p))]) (rest := []) C.1 (kX5_takesTokenm l g th tl tx z ch h q f n ww nu t p (teN ch z p) (by first | assumption | omega) (by first | assumption | omega) (by first | assumption | omega) (by first | assumption | omega) (by first | omega | exact hHT.2.2.1 (by omega)) (by first | assumption | omega) (by first | assumption | omega) (te_in hpz).1 (te_in hpz).2 (fun q9 => te_fig q9) (fun q9 => hf 0 (n - 1) (by decide) (Or.inl (by omega))) (Nat.le_trans (MON_le hHT.2.2.2.1) (by unfold MO0; repeat (first | split | omega))) H.size) (cwV 4 hts gX5_readInto_X5_takesToken rfl rfl rfl (by decide +kernel) ⟨Nat.le_of_ble_eq_true rfl, Nat.le_of_ble_eq_true rfl⟩) (preV_at C S 0 rfl rfl [0, 1, 2, 3] rfl (by decide)) rfl rfl hl.1 rfl (lv_room (Nat.le_of_ble_eq_true rfl)) dX5_readInto_43 ⟨Nat.le_of_ble_eq_true rfl, Nat.le_of_ble_eq_true rfl⟩) [0, 1, 2, 3] [] rfl (wr := []) rfl (by decide) (by decide) (fun r0 w0 H locs hq S => ?_)
            obtain ⟨rfl, f9, hq1, rfl⟩ := hq
            have S : ST g A ss H locs [(th, ob 5 [.ref tl, .int (nI z)]), (tl, aC g 100 tx), (h, ob 2 [.ref q, .int (nI n), .int (nI ww)]), (q, aI g 32 f9)] := S
            refine br_neB (tgt := 51) hx hb dX5_readInto_46 (by decide) (fun c_9 => ?_) (fun c_9 => ?_)
            · -- 46 T
              have hok : okT ch z t p n nu = true := by unfold okT; rw [if_neg (by omega), if_neg (by omega)]; exact c_9
              have hR : RD ch z = rd ch z (100 - (k + 1)) (nxT t) (bk ch z (teN ch z p)) (nxN t n) (nxU ch z t p n nu) := by rw [← hrd, show 100 - k = (100 - (k + 1)) + 1 by omega]; exact rd_ok hpz hok
              have hT2 := HT_step hHT hok
              obtain ⟨v9, hv9⟩ := rng_some c_9
              obtain rfl := hq1 v9 hv9 (by rw [← hv9]; exact c_9)
              have et : nxT t = t + 1 := by unfold nxT; rw [if_neg (by omega)]
              have en : nxN t n = n := by unfold nxN; rw [if_neg (by omega)]
              rw [et, en] at hT2 hR
              refine lv_iload_n hx hb dX5_readInto_51 rfl (lv_at hl 3 rfl) ?_
              refine lv_iconst (v := 5) hx hb dX5_readInto_52 (by decide) ?_
              refine bn_ine (tgt := 60) (a := t) (b := 5) hx hb rfl rfl (by omega) (by omega) dX5_readInto_53 (by decide) (fun c_10 => ?_) (fun c_10 => ?_)
              · -- 53 T
                refine lv_iload_n hx hb dX5_readInto_60 rfl (lv_at hl 3 rfl) ?_
                refine lv_iconst (v := 1) hx hb dX5_readInto_61 (by decide) ?_
                refine lv_iadd hx hb dX5_readInto_62 ?_
                refine top_eq (y := nI (t + 1)) (nI_add _ _) ?_
                refine lv_istore_n (lv' := [(2, .int (nI (t + 1))), (5, .int (nI (teN ch z p))), (4, .int (nI k)), (3, .int (nI p)), (0, .ref th), (1, .ref h)]) hx hb dX5_readInto_63 rfl hl (by decide) rfl (fun ls hl => ?_)
                refine lv_aload_n hx hb dX5_readInto_64 rfl (lv_at hl 4 rfl) ?_
                refine lv_iload hx hb dX5_readInto_65 (lv_at hl 1 rfl) ?_
                refine after_I (wc := [(th, ob 5 [.ref tl, .int (nI z)]), (tl, aC g 100 tx)]) (y := yX5_behindBlanks) C S (va_runV (As := [.int (nI (teN ch z p))]) (rest := []) C.1 (kX5_behindBlanks l g th tl tx z ch (teN ch z p) (by first | assumption | omega) (by first | assumption | omega) (by first | assumption | omega) (te_in hpz).2 H.size) (cwV 1 hts gX5_readInto_X5_behindBlanks rfl rfl rfl (by decide +kernel) ⟨Nat.le_of_ble_eq_true rfl, Nat.le_of_ble_eq_true rfl⟩) (preV_at C S 0 rfl rfl [0, 1] rfl (by decide)) rfl rfl hl.1 rfl (lv_room (Nat.le_of_ble_eq_true rfl)) dX5_readInto_67 ⟨Nat.le_of_ble_eq_true rfl, Nat.le_of_ble_eq_true rfl⟩) [0, 1] [2, 3] rfl (wr := [(h, ob 2 [.ref q, .int (nI n), .int (nI ww)]), (q, aI g 32 (upd f ((t - 1) * 8 + n) (nI v9)))]) rfl (by decide) (by decide) (fun r0 w0 H locs hq S => ?_)
                obtain ⟨rfl, rfl⟩ := hq
                have S : ST g A ss H locs [(th, ob 5 [.ref tl, .int (nI z)]), (tl, aC g 100 tx), (h, ob 2 [.ref q, .int (nI n), .int (nI ww)]), (q, aI g 32 (upd f ((t - 1) * 8 + n) (nI v9)))] := ST.sub S [2, 3, 0, 1] (by decide) rfl
                refine lv_istore_n (lv' := [(3, .int (nI (bk ch z (teN ch z p)))), (2, .int (nI (t + 1))), (5, .int (nI (teN ch z p))), (4, .int (nI k)), (0, .ref th), (1, .ref h)]) hx hb dX5_readInto_70 rfl hl (by decide) rfl (fun ls hl => ?_)
                refine lv_iinc (v := nI (k + 1)) (lv' := [(4, .int (nI (k + 1))), (3, .int (nI (bk ch z (teN ch z p)))), (2, .int (nI (t + 1))), (5, .int (nI (teN ch z p))), (0, .ref th), (1, .ref h)]) hx hb dX5_readInto_71 hl (k := 3) rfl (nI_add _ _) (by decide) rfl (fun ls hl => ?_)
                refine lv_goto (tgt := 15) hx hb dX5_readInto_74 (by decide) ?_
                exact ih15 (t + 1) (bk ch z (teN ch z p)) (k + 1) n (nxU ch z t p n nu) ww (upd f ((t - 1) * 8 + n) (nI v9)) (by have a9 := te_in (ch := ch) hpz; have b9 := bk_in (ch := ch) a9.2; omega) ((bk_in (te_in hpz).2).2) (by have a9 := te_in (ch := ch) hpz; have b9 := bk_in (ch := ch) a9.2; omega) (hT2) (hww) (fun a i ha hi => tk_put hf ht1 ht4 (hHT.2.2.1 (by omega)) hv9 a i ha (by rw [et, en]; exact hi)) (hR.symm) H locs ls (ST.eq S (rfl)) (lv_sub hl [0, 1, 2, 4, 5] (rfl))
              · -- 53 F
                exact absurd c_10 (by omega)
            · -- 46 F
              have hok : okT ch z t p n nu = false := by unfold okT; rw [if_neg (by omega), if_neg (by omega)]; exact c_9
              have hR : RD ch z = (some p, n, nu) := by rw [← hrd, show 100 - k = (100 - (k + 1)) + 1 by omega]; exact rd_bad hpz hok
              refine lv_iload_n hx hb dX5_readInto_49 rfl (lv_at hl 2 rfl) ?_
              exact ret_I C S hr dX5_readInto_50 ⟨(by rw [hR] <;> rfl), f9, n, ww, (fun q9 => by rw [hR] at q9; cases q9), (rfl)⟩
  exact loop15 _ 0 (bk ch z 0) 0 0 nu00 0 f (Nat.lt_succ_self _) ((bk_in (Nat.zero_le z)).2) (Nat.zero_le _) (⟨by decide, by decide, fun q => absurd q (by decide), fun i hi => absurd hi (Nat.not_lt_zero _), fun a ha => by omega⟩) (rfl) (fun a i ha hi => by omega) (rfl) H locs ls (ST.eq S (rfl)) (lv_sub hl [0, 1, 2, 3, 4] (rfl))

set_option maxRecDepth 100000 in
set_option maxHeartbeats 4000000 in
theorem kX6_typeb (l : Launch) (g : GG) (O : Nat) (dh : Nat) (th : Nat) (HH : Nat) (IM : Nat) (SG : Nat) (ca : Nat) (h : Nat) (P : Nat) (x : Int32) (hbad : okB x 256 = false) : KI l g yX6_type wsX6_type 0 0 [.ref O, .int x] [(O, ob 6 [.ref h, .ref dh, .ref th, .ref HH, .ref IM, .ref SG, .ref P, .ref ca])] (fun (r : Int32) (w' : va_W) => r = (-1) ∧ w' = [(O, ob 6 [.ref h, .ref dh, .ref th, .ref HH, .ref IM, .ref SG, .ref P, .ref ca])]) := by
  refine kI_of (cc := cX6_type) (maxL := 2) (by decide) rfl (Nat.le_of_ble_eq_true rfl) ?_
  intro pp ee ss mm bel mth cd A ls C S hr hl
  obtain ⟨hx, hb, hml, hown, hts⟩ := id C.1
  have hl : lv_has ls 2 [(0, .ref O), (1, .int x)] := hl
  obtain ⟨H, hH⟩ : ∃ H, H = ss.heap := ⟨_, rfl⟩
  obtain ⟨locs, hL0⟩ : ∃ L : List Loc, L = [] := ⟨_, rfl⟩
  rw [← hH, ← hL0] at S ⊢
  refine lv_iload_n hx hb dX6_type_0 rfl (lv_at hl 1 rfl) ?_
  refine lv_if_lt (tgt := 11) hx hb dX6_type_1 (by decide) (fun c_1 => ?_) (fun c_1 => ?_)
  · -- 1 T
    refine lv_iconst (v := (-1)) hx hb dX6_type_11 (by decide) ?_
    exact ret_I C S hr dX6_type_12 ⟨(by first | rfl | simp only [if_pos c_1]), (by first | rfl | simp only [if_pos c_1])⟩
  · -- 1 F
    refine lv_iload_n hx hb dX6_type_4 rfl (lv_at hl 1 rfl) ?_
    refine lv_sipush (v := 255) hx hb dX6_type_5 (by decide) ?_
    refine lv_icmp_le (tgt := 13) hx hb dX6_type_8 (by decide) (fun c_2 => ?_) (fun c_2 => ?_)
    · -- 8 T
      exact absurd hbad (by obtain ⟨w9, h9, rfl⟩ := ok_le (k := 255) rfl (by decide) c_1 c_2; rw [ok_nI h9 (by decide)]; exact fun q9 => by cases q9)
    · -- 8 F
      refine lv_iconst (v := (-1)) hx hb dX6_type_11 (by decide) ?_
      exact ret_I C S hr dX6_type_12 ⟨(by first | rfl | simp only [if_neg c_1, if_neg c_2]), (by first | rfl | simp only [if_neg c_1, if_neg c_2])⟩

theorem inX6_typef_X6 : ∀ w ∈ wsX60, w ∈ wsX6_type := by decide +kernel
set_option maxRecDepth 100000 in
set_option maxHeartbeats 4000000 in
theorem kX6_typef (l : Launch) (g : GG) (O : Nat) (dh : Nat) (HH : Nat) (IM : Nat) (SG : Nat) (ca : Nat) (h : Nat) (P : Nat) (th : Nat) (tl : Nat) (tx : Nat → Int32) (z : Nat) (c : Nat) (hz : 100 ≤ z) (hz1 : z ≤ 100) (hc : c < 256) : KI l g yX6_type wsX6_type 1 21 [.ref O, .int (nI c)] [(O, ob 6 [.ref h, .ref dh, .ref th, .ref HH, .ref IM, .ref SG, .ref P, .ref ca]), (th, ob 5 [.ref tl, .int (nI z)]), (tl, aC g 100 tx)] (fun (r : Int32) (w' : va_W) => r = (-3) ∧ w' = [(O, ob 6 [.ref h, .ref dh, .ref th, .ref HH, .ref IM, .ref SG, .ref P, .ref ca]), (th, ob 5 [.ref tl, .int (nI z)]), (tl, aC g 100 tx)]) := by
  refine kI_of (cc := cX6_type) (maxL := 2) (by decide) rfl (Nat.le_of_ble_eq_true rfl) ?_
  intro pp ee ss mm bel mth cd A ls C S hr hl
  obtain ⟨hx, hb, hml, hown, hts⟩ := id C.1
  have hl : lv_has ls 2 [(0, .ref O), (1, .int (nI c))] := hl
  obtain ⟨H, hH⟩ : ∃ H, H = ss.heap := ⟨_, rfl⟩
  obtain ⟨locs, hL0⟩ : ∃ L : List Loc, L = [] := ⟨_, rfl⟩
  rw [← hH, ← hL0] at S ⊢
  refine lv_iload_n hx hb dX6_type_0 rfl (lv_at hl 1 rfl) ?_
  refine bn_zlt (tgt := 11) (a := c) hx hb rfl (by omega) dX6_type_1 (by decide) (fun c_1 => ?_) (fun c_1 => ?_)
  · -- 1 T
    exact absurd c_1 (Nat.not_lt_zero _)
  · -- 1 F
    refine lv_iload_n hx hb dX6_type_4 rfl (lv_at hl 1 rfl) ?_
    refine lv_sipush (v := 255) hx hb dX6_type_5 (by decide) ?_
    refine bn_ile (tgt := 13) (a := c) (b := 255) hx hb rfl rfl (by omega) (by omega) dX6_type_8 (by decide) (fun c_2 => ?_) (fun c_2 => ?_)
    · -- 8 T
      refine lv_aload_n hx hb dX6_type_13 rfl (lv_at hl 0 rfl) ?_
      refine top_get C S inX6_typef_X6 rfl 0 rfl 2 (by decide) (by decide +kernel) rfl rfl dX6_type_14 ?_
      refine lv_iload_n hx hb dX6_type_17 rfl (lv_at hl 1 rfl) ?_
      refine after_I (wc := [(th, ob 5 [.ref tl, .int (nI z)]), (tl, aC g 100 tx)]) (y := yX5_append) C S (va_runV (As := [.int (nI c)]) (rest := []) C.1 (kX5_appendn l g th tl tx z (nI c) (by first | assumption | omega) (by first | assumption | omega) H.size) (cwV 1 hts gX6_type_X5_append rfl rfl rfl (by decide +kernel) ⟨Nat.le_of_ble_eq_true rfl, Nat.le_of_ble_eq_true rfl⟩) (preV_at C S 1 rfl rfl [1, 2] rfl (by decide)) rfl rfl hl.1 rfl (lv_room (Nat.le_of_ble_eq_true rfl)) dX6_type_18 ⟨Nat.le_of_ble_eq_true rfl, Nat.le_of_ble_eq_true rfl⟩) [1, 2] [0] rfl (wr := [(O, ob 6 [.ref h, .ref dh, .ref th, .ref HH, .ref IM, .ref SG, .ref P, .ref ca])]) rfl (by decide) (by decide) (fun r0 w0 H locs hq S => ?_)
      obtain ⟨rfl, rfl⟩ := hq
      have S : ST g A ss H locs [(O, ob 6 [.ref h, .ref dh, .ref th, .ref HH, .ref IM, .ref SG, .ref P, .ref ca]), (th, ob 5 [.ref tl, .int (nI z)]), (tl, aC g 100 tx)] := S
      refine br_eqB (tgt := 34) hx hb dX6_type_21 (by decide) (fun c_3 => ?_) (fun c_3 => ?_)
      · -- 21 T
        refine lv_bipush (v := (-3)) hx hb dX6_type_34 (by decide) ?_
        exact ret_I C S hr dX6_type_36 ⟨(by first | rfl | simp only [if_neg c_1, if_pos c_2, if_neg (Bool.eq_false_iff.mp c_3)]), (by first | rfl | simp only [if_neg c_1, if_pos c_2, if_neg (Bool.eq_false_iff.mp c_3)])⟩
      · -- 21 F
        cases c_3
    · -- 8 F
      exact absurd (show c ≤ 255 by omega) c_2

theorem inX6_typeg_X5 : ∀ w ∈ wsX50, w ∈ wsX6_type := by decide +kernel
theorem inX6_typeg_X6 : ∀ w ∈ wsX60, w ∈ wsX6_type := by decide +kernel
set_option maxRecDepth 100000 in
set_option maxHeartbeats 4000000 in
theorem kX6_typeg (l : Launch) (g : GG) (O : Nat) (dh : Nat) (HH : Nat) (IM : Nat) (SG : Nat) (ca : Nat) (h : Nat) (P : Nat) (th : Nat) (tl : Nat) (tx : Nat → Int32) (z : Nat) (c : Nat) (hz : z < 100) (hc : c < 256) : KI l g yX6_type wsX6_type 1 21 [.ref O, .int (nI c)] [(O, ob 6 [.ref h, .ref dh, .ref th, .ref HH, .ref IM, .ref SG, .ref P, .ref ca]), (th, ob 5 [.ref tl, .int (nI z)]), (tl, aC g 100 tx)] (fun (r : Int32) (w' : va_W) => r = (nI (z + 1)) ∧ w' = [(O, ob 6 [.ref h, .ref dh, .ref th, .ref HH, .ref IM, .ref SG, .ref P, .ref ca]), (th, ob 5 [.ref tl, .int (nI (z + 1))]), (tl, aC g 100 (upd tx z (nI c)))]) := by
  refine kI_of (cc := cX6_type) (maxL := 2) (by decide) rfl (Nat.le_of_ble_eq_true rfl) ?_
  intro pp ee ss mm bel mth cd A ls C S hr hl
  obtain ⟨hx, hb, hml, hown, hts⟩ := id C.1
  have hl : lv_has ls 2 [(0, .ref O), (1, .int (nI c))] := hl
  obtain ⟨H, hH⟩ : ∃ H, H = ss.heap := ⟨_, rfl⟩
  obtain ⟨locs, hL0⟩ : ∃ L : List Loc, L = [] := ⟨_, rfl⟩
  rw [← hH, ← hL0] at S ⊢
  refine lv_iload_n hx hb dX6_type_0 rfl (lv_at hl 1 rfl) ?_
  refine bn_zlt (tgt := 11) (a := c) hx hb rfl (by omega) dX6_type_1 (by decide) (fun c_1 => ?_) (fun c_1 => ?_)
  · -- 1 T
    exact absurd c_1 (Nat.not_lt_zero _)
  · -- 1 F
    refine lv_iload_n hx hb dX6_type_4 rfl (lv_at hl 1 rfl) ?_
    refine lv_sipush (v := 255) hx hb dX6_type_5 (by decide) ?_
    refine bn_ile (tgt := 13) (a := c) (b := 255) hx hb rfl rfl (by omega) (by omega) dX6_type_8 (by decide) (fun c_2 => ?_) (fun c_2 => ?_)
    · -- 8 T
      refine lv_aload_n hx hb dX6_type_13 rfl (lv_at hl 0 rfl) ?_
      refine top_get C S inX6_typeg_X6 rfl 0 rfl 2 (by decide) (by decide +kernel) rfl rfl dX6_type_14 ?_
      refine lv_iload_n hx hb dX6_type_17 rfl (lv_at hl 1 rfl) ?_
      refine after_I (wc := [(th, ob 5 [.ref tl, .int (nI z)]), (tl, aC g 100 tx)]) (y := yX5_append) C S (va_runV (As := [.int (nI c)]) (rest := []) C.1 (kX5_appendy l g th tl tx z c (by first | assumption | omega) (by first | assumption | omega) H.size) (cwV 1 hts gX6_type_X5_append rfl rfl rfl (by decide +kernel) ⟨Nat.le_of_ble_eq_true rfl, Nat.le_of_ble_eq_true rfl⟩) (preV_at C S 1 rfl rfl [1, 2] rfl (by decide)) rfl rfl hl.1 rfl (lv_room (Nat.le_of_ble_eq_true rfl)) dX6_type_18 ⟨Nat.le_of_ble_eq_true rfl, Nat.le_of_ble_eq_true rfl⟩) [1, 2] [0] rfl (wr := [(O, ob 6 [.ref h, .ref dh, .ref th, .ref HH, .ref IM, .ref SG, .ref P, .ref ca])]) rfl (by decide) (by decide) (fun r0 w0 H locs hq S => ?_)
      obtain ⟨rfl, rfl⟩ := hq
      have S : ST g A ss H locs [(O, ob 6 [.ref h, .ref dh, .ref th, .ref HH, .ref IM, .ref SG, .ref P, .ref ca]), (th, ob 5 [.ref tl, .int (nI (z + 1))]), (tl, aC g 100 (upd tx z (nI c)))] := S
      refine br_eqB (tgt := 34) hx hb dX6_type_21 (by decide) (fun c_3 => ?_) (fun c_3 => ?_)
      · -- 21 T
        cases c_3
      · -- 21 F
        refine lv_aload_n hx hb dX6_type_24 rfl (lv_at hl 0 rfl) ?_
        refine top_get C S inX6_typeg_X6 rfl 0 rfl 2 (by decide) (by decide +kernel) rfl rfl dX6_type_25 ?_
        refine top_getN C S inX6_typeg_X5 rfl 1 rfl 1 (by decide) (by decide +kernel) rfl dX6_type_28 ?_
        refine lv_goto (tgt := 36) hx hb dX6_type_31 (by decide) ?_
        exact ret_I C S hr dX6_type_36 ⟨(by first | rfl | simp only [if_neg c_1, if_pos c_2, if_pos c_3]), (by first | rfl | simp only [if_neg c_1, if_pos c_2, if_pos c_3])⟩
    · -- 8 F
      exact absurd (show c ≤ 255 by omega) c_2

theorem inX6_clear_X6 : ∀ w ∈ wsX60, w ∈ wsX6_clear := by decide +kernel
set_option maxRecDepth 100000 in
set_option maxHeartbeats 4000000 in
theorem kX6_clear (l : Launch) (g : GG) (O : Nat) (dh : Nat) (HH : Nat) (IM : Nat) (SG : Nat) (ca : Nat) (h : Nat) (P : Nat) (th : Nat) (tl : Nat) (tx : Nat → Int32) (z : Nat)  : KI l g yX6_clear wsX6_clear 1 21 [.ref O] [(O, ob 6 [.ref h, .ref dh, .ref th, .ref HH, .ref IM, .ref SG, .ref P, .ref ca]), (th, ob 5 [.ref tl, .int (nI z)]), (tl, aC g 100 tx)] (fun (r : Int32) (w' : va_W) => r = (nI z) ∧ w' = [(O, ob 6 [.ref h, .ref dh, .ref th, .ref HH, .ref IM, .ref SG, .ref P, .ref ca]), (th, ob 5 [.ref tl, .int (nI 0)]), (tl, aC g 100 tx)]) := by
  refine kI_of (cc := cX6_clear) (maxL := 1) (by decide) rfl (Nat.le_of_ble_eq_true rfl) ?_
  intro pp ee ss mm bel mth cd A ls C S hr hl
  obtain ⟨hx, hb, hml, hown, hts⟩ := id C.1
  have hl : lv_has ls 1 [(0, .ref O)] := hl
  obtain ⟨H, hH⟩ : ∃ H, H = ss.heap := ⟨_, rfl⟩
  obtain ⟨locs, hL0⟩ : ∃ L : List Loc, L = [] := ⟨_, rfl⟩
  rw [← hH, ← hL0] at S ⊢
  refine lv_aload_n hx hb dX6_clear_0 rfl (lv_at hl 0 rfl) ?_
  refine top_get C S inX6_clear_X6 rfl 0 rfl 2 (by decide) (by decide +kernel) rfl rfl dX6_clear_1 ?_
  refine after_I (wc := [(th, ob 5 [.ref tl, .int (nI z)]), (tl, aC g 100 tx)]) (y := yX5_empty) C S (va_runV (As := []) (rest := []) C.1 (kX5_empty l g th tl tx z H.size) (cwV 0 hts gX6_clear_X5_empty rfl rfl rfl (by decide +kernel) ⟨Nat.le_of_ble_eq_true rfl, Nat.le_of_ble_eq_true rfl⟩) (preV_at C S 1 rfl rfl [1, 2] rfl (by decide)) rfl rfl hl.1 rfl (lv_room (Nat.le_of_ble_eq_true rfl)) dX6_clear_4 ⟨Nat.le_of_ble_eq_true rfl, Nat.le_of_ble_eq_true rfl⟩) [1, 2] [0] rfl (wr := [(O, ob 6 [.ref h, .ref dh, .ref th, .ref HH, .ref IM, .ref SG, .ref P, .ref ca])]) rfl (by decide) (by decide) (fun r0 w0 H locs hq S => ?_)
  obtain ⟨rfl, rfl⟩ := hq
  have S : ST g A ss H locs [(O, ob 6 [.ref h, .ref dh, .ref th, .ref HH, .ref IM, .ref SG, .ref P, .ref ca]), (th, ob 5 [.ref tl, .int (nI 0)]), (tl, aC g 100 tx)] := S
  exact ret_I C S hr dX6_clear_7 ⟨(by first | rfl | simp only []), (by first | rfl | simp only [])⟩

theorem inX6_tellsf_X6 : ∀ w ∈ wsX60, w ∈ wsX6_tells := by decide +kernel
set_option maxRecDepth 100000 in
set_option maxHeartbeats 4000000 in
theorem kX6_tellsf (l : Launch) (g : GG) (O : Nat) (dh : Nat) (HH : Nat) (IM : Nat) (SG : Nat) (ca : Nat) (h : Nat) (P : Nat) (th : Nat) (tl : Nat) (tx : Nat → Int32) (tz : Nat) (ch : Nat → Nat) (dq : Nat) (df : Nat → Int32) (dn : Nat) (dw : Nat) (qf : Nat) (htz : tz ≤ 100) (htx : ∀ i, i < tz → tx i = nI (ch i)) (hch : ∀ i, i < tz → ch i ≤ 255) (hfault : (RD ch tz).1 = some qf) : KI l g yX6_tells wsX6_tells 4 98 [.ref O] [(O, ob 6 [.ref h, .ref dh, .ref th, .ref HH, .ref IM, .ref SG, .ref P, .ref ca]), (th, ob 5 [.ref tl, .int (nI tz)]), (tl, aC g 100 tx), (dh, ob 2 [.ref dq, .int (nI dn), .int (nI dw)]), (dq, aI g 32 df)] (fun (r : Int32) (w' : va_W) => r = ((-10) - nI qf) ∧ ∃ (df' : Nat → Int32), ∃ (dn' : Nat), ∃ (dw' : Nat), w' = [(O, ob 6 [.ref h, .ref dh, .ref th, .ref HH, .ref IM, .ref SG, .ref P, .ref ca]), (th, ob 5 [.ref tl, .int (nI tz)]), (tl, aC g 100 tx), (dh, ob 2 [.ref dq, .int (nI dn'), .int (nI dw')]), (dq, aI g 32 df')]) := by
  refine kI_of (cc := cX6_tells) (maxL := 2) (by decide) rfl (Nat.le_of_ble_eq_true rfl) ?_
  intro pp ee ss mm bel mth cd A ls C S hr hl
  obtain ⟨hx, hb, hml, hown, hts⟩ := id C.1
  have hl : lv_has ls 2 [(0, .ref O)] := hl
  obtain ⟨H, hH⟩ : ∃ H, H = ss.heap := ⟨_, rfl⟩
  obtain ⟨locs, hL0⟩ : ∃ L : List Loc, L = [] := ⟨_, rfl⟩
  rw [← hH, ← hL0] at S ⊢
  have hq9 := RD_le hfault
  refine lv_aload_n hx hb dX6_tells_0 rfl (lv_at hl 0 rfl) ?_
  refine top_get C S inX6_tellsf_X6 rfl 0 rfl 2 (by decide) (by decide +kernel) rfl rfl dX6_tells_1 ?_
  refine lv_aload_n hx hb dX6_tells_4 rfl (lv_at hl 0 rfl) ?_
  refine top_get C S inX6_tellsf_X6 rfl 0 rfl 1 (by decide) (by decide +kernel) rfl rfl dX6_tells_5 ?_
  refine after_I (wc := [(th, ob 5 [.ref tl, .int (nI tz)]), (tl, aC g 100 tx), (dh, ob 2 [.ref dq, .int (nI dn), .int (nI dw)]), (dq, aI g 32 df)]) (y := yX5_readInto) C S (va_runV (As := [.ref dh]) (rest := []) C.1 (kX5_readInto l g th tl tx tz ch dh dq df dn dw (by first | assumption | omega) (by first | assumption | omega) (by first | assumption | omega) H.size) (cwV 1 hts gX6_tells_X5_readInto rfl rfl rfl (by decide +kernel) ⟨Nat.le_of_ble_eq_true rfl, Nat.le_of_ble_eq_true rfl⟩) (preV_at C S 1 rfl rfl [1, 2, 3, 4] rfl (by decide)) rfl rfl hl.1 rfl (lv_room (Nat.le_of_ble_eq_true rfl)) dX6_tells_8 ⟨Nat.le_of_ble_eq_true rfl, Nat.le_of_ble_eq_true rfl⟩) [1, 2, 3, 4] [0] rfl (wr := [(O, ob 6 [.ref h, .ref dh, .ref th, .ref HH, .ref IM, .ref SG, .ref P, .ref ca])]) rfl (by decide) (by decide) (fun r0 w0 H locs hq S => ?_)
  obtain ⟨rfl, f'_1, n'_2, ww'_3, hn8_4, rfl⟩ := hq
  have S : ST g A ss H locs [(O, ob 6 [.ref h, .ref dh, .ref th, .ref HH, .ref IM, .ref SG, .ref P, .ref ca]), (th, ob 5 [.ref tl, .int (nI tz)]), (tl, aC g 100 tx), (dh, ob 2 [.ref dq, .int (nI n'_2), .int (nI ww'_3)]), (dq, aI g 32 f'_1)] := S
  refine top_eq (y := nI qf) (by rw [hfault] <;> rfl) ?_
  refine lv_istore_n (lv' := [(1, .int (nI qf)), (0, .ref O)]) hx hb dX6_tells_11 rfl hl (by decide) rfl (fun ls hl => ?_)
  refine lv_iload_n hx hb dX6_tells_12 rfl (lv_at hl 0 rfl) ?_
  refine lv_iconst (v := (-1)) hx hb dX6_tells_13 (by decide) ?_
  refine lv_icmp_eq (tgt := 22) hx hb dX6_tells_14 (by decide) (fun c_5 => ?_) (fun c_5 => ?_)
  · -- 14 T
    exact absurd c_5 (nI_nm (by omega)).2
  · -- 14 F
    refine lv_bipush (v := (-10)) hx hb dX6_tells_17 (by decide) ?_
    refine lv_iload_n hx hb dX6_tells_19 rfl (lv_at hl 0 rfl) ?_
    refine lv_isub hx hb dX6_tells_20 ?_
    exact ret_I C S hr dX6_tells_21 ⟨(by first | rfl | simp only [if_neg c_5]), f'_1, n'_2, ww'_3, (by first | rfl | simp only [if_neg c_5])⟩

theorem inX6_tellsg_X2 : ∀ w ∈ wsX20, w ∈ wsX6_tells := by decide +kernel
theorem inX6_tellsg_X6 : ∀ w ∈ wsX60, w ∈ wsX6_tells := by decide +kernel
set_option maxRecDepth 100000 in
set_option maxHeartbeats 4000000 in
theorem kX6_tellsg (l : Launch) (g : GG) (O : Nat) (dh : Nat) (HH : Nat) (IM : Nat) (SG : Nat) (ca : Nat) (h : Nat) (P : Nat) (q : Nat) (f : Nat → Int32) (n : Nat) (ww : Nat) (th : Nat) (tl : Nat) (tx : Nat → Int32) (tz : Nat) (ch : Nat → Nat) (dq : Nat) (df : Nat → Int32) (dn : Nat) (dw : Nat) (rg : Nat) (ro : Nat → Option Nat) (a0 : Nat) (b0 : Nat) (a1 : Nat) (b1 : Nat) (a2 : Nat) (b2 : Nat) (a3 : Nat) (b3 : Nat) (a4 : Nat) (b4 : Nat) (a5 : Nat) (b5 : Nat) (fs : Nat → Nat → Int32) (ns : Nat → Nat) (wbs : Nat → Nat) (k : Nat) (z : Nat) (la : Nat) (ba : Nat) (lf : Nat → Int32) (bf : Nat → Int32) (sz : Nat) (ig : Nat) (io : Nat → Option Nat) (kb : Nat) (htz : tz ≤ 100) (htx : ∀ i, i < tz → tx i = nI (ch i)) (hch : ∀ i, i < tz → ch i ≤ 255) (hro : ro 0 = some a0 ∧ ro 1 = some a1 ∧ ro 2 = some a2 ∧ ro 3 = some a3 ∧ ro 4 = some a4 ∧ ro 5 = some a5) (hk : k < 6) (hz : z ≤ 6) (hok : (RD ch tz).1 = none) : KI l g yX6_tells wsX6_tells 4 106 [.ref O] [(O, ob 6 [.ref h, .ref dh, .ref th, .ref HH, .ref IM, .ref SG, .ref P, .ref ca]), (h, ob 2 [.ref q, .int (nI n), .int (nI ww)]), (q, aI g 32 f), (th, ob 5 [.ref tl, .int (nI tz)]), (tl, aC g 100 tx), (dh, ob 2 [.ref dq, .int (nI dn), .int (nI dw)]), (dq, aI g 32 df), (HH, ob 0 [.ref rg, .int (nI k), .int (nI z)]), (rg, aO g 6 ro), (a0, ob 2 [.ref b0, .int (nI (ns 0)), .int (nI (wbs 0))]), (b0, aI g 32 (fs 0)), (a1, ob 2 [.ref b1, .int (nI (ns 1)), .int (nI (wbs 1))]), (b1, aI g 32 (fs 1)), (a2, ob 2 [.ref b2, .int (nI (ns 2)), .int (nI (wbs 2))]), (b2, aI g 32 (fs 2)), (a3, ob 2 [.ref b3, .int (nI (ns 3)), .int (nI (wbs 3))]), (b3, aI g 32 (fs 3)), (a4, ob 2 [.ref b4, .int (nI (ns 4)), .int (nI (wbs 4))]), (b4, aI g 32 (fs 4)), (a5, ob 2 [.ref b5, .int (nI (ns 5)), .int (nI (wbs 5))]), (b5, aI g 32 (fs 5)), (SG, ob 4 [.ref la, .ref ba, .int (nI sz)]), (la, aI g 6 lf), (ba, aI g 6 bf), (IM, ob 1 [.ref ig, .int (nI kb)]), (ig, aO g 2 io)] (fun (r : Int32) (w' : va_W) => r = (nI ((RD ch tz).2.1)) ∧ ∃ (f' : Nat → Int32), ∃ (df' : Nat → Int32), ∃ (dn' : Nat), ∃ (dw' : Nat), ∃ (g' : Nat → Int32), (∀ a i, a < 4 → i < (RD ch tz).2.1 → f' (a * 8 + i) = nI ((RD ch tz).2.2 a i)) ∧ (∀ j, j < 32 → g' j = f j) ∧ w' = [(O, ob 6 [.ref h, .ref dh, .ref th, .ref HH, .ref IM, .ref SG, .ref P, .ref ca]), (h, ob 2 [.ref q, .int (nI ((RD ch tz).2.1)), .int (nI (2 ^ (RD ch tz).2.1 - 1))]), (q, aI g 32 f'), (th, ob 5 [.ref tl, .int (nI 0)]), (tl, aC g 100 tx), (dh, ob 2 [.ref dq, .int (nI dn'), .int (nI dw')]), (dq, aI g 32 df'), (HH, ob 0 [.ref rg, .int (nI (nxt k)), .int (nI (min (z + 1) 6))]), (rg, aO g 6 ro), (a0, ob 2 [.ref b0, .int (nI (updA ns k n 0)), .int (nI (updA wbs k ww 0))]), (b0, aI g 32 (updA fs k g' 0)), (a1, ob 2 [.ref b1, .int (nI (updA ns k n 1)), .int (nI (updA wbs k ww 1))]), (b1, aI g 32 (updA fs k g' 1)), (a2, ob 2 [.ref b2, .int (nI (updA ns k n 2)), .int (nI (updA wbs k ww 2))]), (b2, aI g 32 (updA fs k g' 2)), (a3, ob 2 [.ref b3, .int (nI (updA ns k n 3)), .int (nI (updA wbs k ww 3))]), (b3, aI g 32 (updA fs k g' 3)), (a4, ob 2 [.ref b4, .int (nI (updA ns k n 4)), .int (nI (updA wbs k ww 4))]), (b4, aI g 32 (updA fs k g' 4)), (a5, ob 2 [.ref b5, .int (nI (updA ns k n 5)), .int (nI (updA wbs k ww 5))]), (b5, aI g 32 (updA fs k g' 5)), (SG, ob 4 [.ref la, .ref ba, .int (nI 0)]), (la, aI g 6 lf), (ba, aI g 6 bf), (IM, ob 1 [.ref ig, .int (nI 0)]), (ig, aO g 2 io)]) := by
  refine kI_of (cc := cX6_tells) (maxL := 2) (by decide) rfl (Nat.le_of_ble_eq_true rfl) ?_
  intro pp ee ss mm bel mth cd A ls C S hr hl
  obtain ⟨hx, hb, hml, hown, hts⟩ := id C.1
  have hl : lv_has ls 2 [(0, .ref O)] := hl
  obtain ⟨H, hH⟩ : ∃ H, H = ss.heap := ⟨_, rfl⟩
  obtain ⟨locs, hL0⟩ : ∃ L : List Loc, L = [] := ⟨_, rfl⟩
  rw [← hH, ← hL0] at S ⊢
  refine lv_aload_n hx hb dX6_tells_0 rfl (lv_at hl 0 rfl) ?_
  refine top_get C S inX6_tellsg_X6 rfl 0 rfl 2 (by decide) (by decide +kernel) rfl rfl dX6_tells_1 ?_
  refine lv_aload_n hx hb dX6_tells_4 rfl (lv_at hl 0 rfl) ?_
  refine top_get C S inX6_tellsg_X6 rfl 0 rfl 1 (by decide) (by decide +kernel) rfl rfl dX6_tells_5 ?_
  refine after_I (wc := [(th, ob 5 [.ref tl, .int (nI tz)]), (tl, aC g 100 tx), (dh, ob 2 [.ref dq, .int (nI dn), .int (nI dw)]), (dq, aI g 32 df)]) (y := yX5_readInto) C S (va_runV (As := [.ref dh]) (rest := []) C.1 (kX5_readInto l g th tl tx tz ch dh dq df dn dw (by first | assumption | omega) (by first | assumption | omega) (by first | assumption | omega) H.size) (cwV 1 hts gX6_tells_X5_readInto rfl rfl rfl (by decide +kernel) ⟨Nat.le_of_ble_eq_true rfl, Nat.le_of_ble_eq_true rfl⟩) (preV_at C S 3 rfl rfl [3, 4, 5, 6] rfl (by decide)) rfl rfl hl.1 rfl (lv_room (Nat.le_of_ble_eq_true rfl)) dX6_tells_8 ⟨Nat.le_of_ble_eq_true rfl, Nat.le_of_ble_eq_true rfl⟩) [3, 4, 5, 6] [0, 1, 2, 7, 8, 9, 10, 11, 12, 13, 14, 15, 16, 17, 18, 19, 20, 21, 22, 23, 24, 25] rfl (wr := [(O, ob 6 [.ref h, .ref dh, .ref th, .ref HH, .ref IM, .ref SG, .ref P, .ref ca]), (h, ob 2 [.ref q, .int (nI n), .int (nI ww)]), (q, aI g 32 f), (HH, ob 0 [.ref rg, .int (nI k), .int (nI z)]), (rg, aO g 6 ro), (a0, ob 2 [.ref b0, .int (nI (ns 0)), .int (nI (wbs 0))]), (b0, aI g 32 (fs 0)), (a1, ob 2 [.ref b1, .int (nI (ns 1)), .int (nI (wbs 1))]), (b1, aI g 32 (fs 1)), (a2, ob 2 [.ref b2, .int (nI (ns 2)), .int (nI (wbs 2))]), (b2, aI g 32 (fs 2)), (a3, ob 2 [.ref b3, .int (nI (ns 3)), .int (nI (wbs 3))]), (b3, aI g 32 (fs 3)), (a4, ob 2 [.ref b4, .int (nI (ns 4)), .int (nI (wbs 4))]), (b4, aI g 32 (fs 4)), (a5, ob 2 [.ref b5, .int (nI (ns 5)), .int (nI (wbs 5))]), (b5, aI g 32 (fs 5)), (SG, ob 4 [.ref la, .ref ba, .int (nI sz)]), (la, aI g 6 lf), (ba, aI g 6 bf), (IM, ob 1 [.ref ig, .int (nI kb)]), (ig, aO g 2 io)]) rfl (by decide) (by decide) (fun r0 w0 H locs hq S => ?_)
  obtain ⟨rfl, df1, dn1, dw1, hd8, rfl⟩ := hq
  have S : ST g A ss H locs [(O, ob 6 [.ref h, .ref dh, .ref th, .ref HH, .ref IM, .ref SG, .ref P, .ref ca]), (h, ob 2 [.ref q, .int (nI n), .int (nI ww)]), (q, aI g 32 f), (th, ob 5 [.ref tl, .int (nI tz)]), (tl, aC g 100 tx), (dh, ob 2 [.ref dq, .int (nI dn1), .int (nI dw1)]), (dq, aI g 32 df1), (HH, ob 0 [.ref rg, .int (nI k), .int (nI z)]), (rg, aO g 6 ro), (a0, ob 2 [.ref b0, .int (nI (ns 0)), .int (nI (wbs 0))]), (b0, aI g 32 (fs 0)), (a1, ob 2 [.ref b1, .int (nI (ns 1)), .int (nI (wbs 1))]), (b1, aI g 32 (fs 1)), (a2, ob 2 [.ref b2, .int (nI (ns 2)), .int (nI (wbs 2))]), (b2, aI g 32 (fs 2)), (a3, ob 2 [.ref b3, .int (nI (ns 3)), .int (nI (wbs 3))]), (b3, aI g 32 (fs 3)), (a4, ob 2 [.ref b4, .int (nI (ns 4)), .int (nI (wbs 4))]), (b4, aI g 32 (fs 4)), (a5, ob 2 [.ref b5, .int (nI (ns 5)), .int (nI (wbs 5))]), (b5, aI g 32 (fs 5)), (SG, ob 4 [.ref la, .ref ba, .int (nI sz)]), (la, aI g 6 lf), (ba, aI g 6 bf), (IM, ob 1 [.ref ig, .int (nI kb)]), (ig, aO g 2 io)] := ST.sub S [0, 1, 2, 22, 23, 24, 25, 3, 4, 5, 6, 7, 8, 9, 10, 11, 12, 13, 14, 15, 16, 17, 18, 19, 20, 21] (by decide) rfl
  refine top_eq (y := (-1)) (by rw [hok] <;> rfl) ?_
  refine lv_istore_n (lv' := [(1, .int (-1)), (0, .ref O)]) hx hb dX6_tells_11 rfl hl (by decide) rfl (fun ls hl => ?_)
  obtain ⟨hd1, hd2, hd3⟩ := hd8 hok
  have hRH := RD_HB hok
  refine lv_iload_n hx hb dX6_tells_12 rfl (lv_at hl 0 rfl) ?_
  refine lv_iconst (v := (-1)) hx hb dX6_tells_13 (by decide) ?_
  refine lv_icmp_eq (tgt := 22) hx hb dX6_tells_14 (by decide) (fun c_1 => ?_) (fun c_1 => ?_)
  · -- 14 T
    refine lv_aload_n hx hb dX6_tells_22 rfl (lv_at hl 1 rfl) ?_
    refine top_get C S inX6_tellsg_X6 rfl 0 rfl 3 (by decide) (by decide +kernel) rfl rfl dX6_tells_23 ?_
    refine lv_aload_n hx hb dX6_tells_26 rfl (lv_at hl 1 rfl) ?_
    refine top_get C S inX6_tellsg_X6 rfl 0 rfl 0 (by decide) (by decide +kernel) rfl rfl dX6_tells_27 ?_
    refine after_V (wc := [(HH, ob 0 [.ref rg, .int (nI k), .int (nI z)]), (rg, aO g 6 ro), (a0, ob 2 [.ref b0, .int (nI (ns 0)), .int (nI (wbs 0))]), (b0, aI g 32 (fs 0)), (a1, ob 2 [.ref b1, .int (nI (ns 1)), .int (nI (wbs 1))]), (b1, aI g 32 (fs 1)), (a2, ob 2 [.ref b2, .int (nI (ns 2)), .int (nI (wbs 2))]), (b2, aI g 32 (fs 2)), (a3, ob 2 [.ref b3, .int (nI (ns 3)), .int (nI (wbs 3))]), (b3, aI g 32 (fs 3)), (a4, ob 2 [.ref b4, .int (nI (ns 4)), .int (nI (wbs 4))]), (b4, aI g 32 (fs 4)), (a5, ob 2 [.ref b5, .int (nI (ns 5)), .int (nI (wbs 5))]), (b5, aI g 32 (fs 5)), (h, ob 2 [.ref q, .int (nI n), .int (nI ww)]), (q, aI g 32 f)]) (y := yX0_push) C S (va_runV (As := [.ref h]) (rest := []) C.1 (kX0_push l g HH rg ro a0 b0 a1 b1 a2 b2 a3 b3 a4 b4 a5 b5 fs ns wbs k z h q f n ww (by first | assumption | omega) (by first | assumption | omega) (by first | assumption | omega) H.size) (cwV 1 hts gX6_tells_X0_push rfl rfl rfl (by decide +kernel) ⟨Nat.le_of_ble_eq_true rfl, Nat.le_of_ble_eq_true rfl⟩) (preV_at C S 7 rfl rfl [7, 8, 9, 10, 11, 12, 13, 14, 15, 16, 17, 18, 19, 20, 1, 2] rfl (by decide)) rfl rfl hl.1 rfl (lv_room (Nat.le_of_ble_eq_true rfl)) dX6_tells_30 ⟨Nat.le_of_ble_eq_true rfl, Nat.le_of_ble_eq_true rfl⟩) [7, 8, 9, 10, 11, 12, 13, 14, 15, 16, 17, 18, 19, 20, 1, 2] [0, 3, 4, 5, 6, 21, 22, 23, 24, 25] rfl (wr := [(O, ob 6 [.ref h, .ref dh, .ref th, .ref HH, .ref IM, .ref SG, .ref P, .ref ca]), (th, ob 5 [.ref tl, .int (nI tz)]), (tl, aC g 100 tx), (dh, ob 2 [.ref dq, .int (nI dn1), .int (nI dw1)]), (dq, aI g 32 df1), (SG, ob 4 [.ref la, .ref ba, .int (nI sz)]), (la, aI g 6 lf), (ba, aI g 6 bf), (IM, ob 1 [.ref ig, .int (nI kb)]), (ig, aO g 2 io)]) rfl (by decide) (by decide) (fun w0 H locs hq S => ?_)
    obtain ⟨gg1, hg1, rfl⟩ := hq
    have S : ST g A ss H locs [(O, ob 6 [.ref h, .ref dh, .ref th, .ref HH, .ref IM, .ref SG, .ref P, .ref ca]), (h, ob 2 [.ref q, .int (nI n), .int (nI ww)]), (q, aI g 32 f), (th, ob 5 [.ref tl, .int (nI tz)]), (tl, aC g 100 tx), (dh, ob 2 [.ref dq, .int (nI dn1), .int (nI dw1)]), (dq, aI g 32 df1), (HH, ob 0 [.ref rg, .int (nI (nxt k)), .int (nI (min (z + 1) 6))]), (rg, aO g 6 ro), (a0, ob 2 [.ref b0, .int (nI (updA ns k n 0)), .int (nI (updA wbs k ww 0))]), (b0, aI g 32 (updA fs k gg1 0)), (a1, ob 2 [.ref b1, .int (nI (updA ns k n 1)), .int (nI (updA wbs k ww 1))]), (b1, aI g 32 (updA fs k gg1 1)), (a2, ob 2 [.ref b2, .int (nI (updA ns k n 2)), .int (nI (updA wbs k ww 2))]), (b2, aI g 32 (updA fs k gg1 2)), (a3, ob 2 [.ref b3, .int (nI (updA ns k n 3)), .int (nI (updA wbs k ww 3))]), (b3, aI g 32 (updA fs k gg1 3)), (a4, ob 2 [.ref b4, .int (nI (updA ns k n 4)), .int (nI (updA wbs k ww 4))]), (b4, aI g 32 (updA fs k gg1 4)), (a5, ob 2 [.ref b5, .int (nI (updA ns k n 5)), .int (nI (updA wbs k ww 5))]), (b5, aI g 32 (updA fs k gg1 5)), (SG, ob 4 [.ref la, .ref ba, .int (nI sz)]), (la, aI g 6 lf), (ba, aI g 6 bf), (IM, ob 1 [.ref ig, .int (nI kb)]), (ig, aO g 2 io)] := ST.sub S [0, 24, 25, 1, 2, 3, 4, 10, 11, 12, 13, 14, 15, 16, 17, 18, 19, 20, 21, 22, 23, 5, 6, 7, 8, 9] (by decide) rfl
    refine lv_aload_n hx hb dX6_tells_33 rfl (lv_at hl 1 rfl) ?_
    refine top_get C S inX6_tellsg_X6 rfl 0 rfl 0 (by decide) (by decide +kernel) rfl rfl dX6_tells_34 ?_
    refine lv_aload_n hx hb dX6_tells_37 rfl (lv_at hl 1 rfl) ?_
    refine top_get C S inX6_tellsg_X6 rfl 0 rfl 1 (by decide) (by decide +kernel) rfl rfl dX6_tells_38 ?_
    refine after_V (wc := [(h, ob 2 [.ref q, .int (nI n), .int (nI ww)]), (q, aI g 32 f), (dh, ob 2 [.ref dq, .int (nI dn1), .int (nI dw1)]), (dq, aI g 32 df1)]) (y := yX2_become) C S (va_runV (As := [.ref dh]) (rest := []) C.1 (kX2_become l g h q f n ww dh dq df1 dn1 dw1 H.size) (cwV 1 hts gX6_tells_X2_become rfl rfl rfl (by decide +kernel) ⟨Nat.le_of_ble_eq_true rfl, Nat.le_of_ble_eq_true rfl⟩) (preV_at C S 1 rfl rfl [1, 2, 5, 6] rfl (by decide)) rfl rfl hl.1 rfl (lv_room (Nat.le_of_ble_eq_true rfl)) dX6_tells_41 ⟨Nat.le_of_ble_eq_true rfl, Nat.le_of_ble_eq_true rfl⟩) [1, 2, 5, 6] [0, 3, 4, 7, 8, 9, 10, 11, 12, 13, 14, 15, 16, 17, 18, 19, 20, 21, 22, 23, 24, 25] rfl (wr := [(O, ob 6 [.ref h, .ref dh, .ref th, .ref HH, .ref IM, .ref SG, .ref P, .ref ca]), (th, ob 5 [.ref tl, .int (nI tz)]), (tl, aC g 100 tx), (HH, ob 0 [.ref rg, .int (nI (nxt k)), .int (nI (min (z + 1) 6))]), (rg, aO g 6 ro), (a0, ob 2 [.ref b0, .int (nI (updA ns k n 0)), .int (nI (updA wbs k ww 0))]), (b0, aI g 32 (updA fs k gg1 0)), (a1, ob 2 [.ref b1, .int (nI (updA ns k n 1)), .int (nI (updA wbs k ww 1))]), (b1, aI g 32 (updA fs k gg1 1)), (a2, ob 2 [.ref b2, .int (nI (updA ns k n 2)), .int (nI (updA wbs k ww 2))]), (b2, aI g 32 (updA fs k gg1 2)), (a3, ob 2 [.ref b3, .int (nI (updA ns k n 3)), .int (nI (updA wbs k ww 3))]), (b3, aI g 32 (updA fs k gg1 3)), (a4, ob 2 [.ref b4, .int (nI (updA ns k n 4)), .int (nI (updA wbs k ww 4))]), (b4, aI g 32 (updA fs k gg1 4)), (a5, ob 2 [.ref b5, .int (nI (updA ns k n 5)), .int (nI (updA wbs k ww 5))]), (b5, aI g 32 (updA fs k gg1 5)), (SG, ob 4 [.ref la, .ref ba, .int (nI sz)]), (la, aI g 6 lf), (ba, aI g 6 bf), (IM, ob 1 [.ref ig, .int (nI kb)]), (ig, aO g 2 io)]) rfl (by decide) (by decide) (fun w0 H locs hq S => ?_)
    obtain ⟨ff1, hff, rfl⟩ := hq
    have S : ST g A ss H locs [(O, ob 6 [.ref h, .ref dh, .ref th, .ref HH, .ref IM, .ref SG, .ref P, .ref ca]), (h, ob 2 [.ref q, .int (nI dn1), .int (nI dw1)]), (q, aI g 32 ff1), (th, ob 5 [.ref tl, .int (nI tz)]), (tl, aC g 100 tx), (dh, ob 2 [.ref dq, .int (nI dn1), .int (nI dw1)]), (dq, aI g 32 df1), (HH, ob 0 [.ref rg, .int (nI (nxt k)), .int (nI (min (z + 1) 6))]), (rg, aO g 6 ro), (a0, ob 2 [.ref b0, .int (nI (updA ns k n 0)), .int (nI (updA wbs k ww 0))]), (b0, aI g 32 (updA fs k gg1 0)), (a1, ob 2 [.ref b1, .int (nI (updA ns k n 1)), .int (nI (updA wbs k ww 1))]), (b1, aI g 32 (updA fs k gg1 1)), (a2, ob 2 [.ref b2, .int (nI (updA ns k n 2)), .int (nI (updA wbs k ww 2))]), (b2, aI g 32 (updA fs k gg1 2)), (a3, ob 2 [.ref b3, .int (nI (updA ns k n 3)), .int (nI (updA wbs k ww 3))]), (b3, aI g 32 (updA fs k gg1 3)), (a4, ob 2 [.ref b4, .int (nI (updA ns k n 4)), .int (nI (updA wbs k ww 4))]), (b4, aI g 32 (updA fs k gg1 4)), (a5, ob 2 [.ref b5, .int (nI (updA ns k n 5)), .int (nI (updA wbs k ww 5))]), (b5, aI g 32 (updA fs k gg1 5)), (SG, ob 4 [.ref la, .ref ba, .int (nI sz)]), (la, aI g 6 lf), (ba, aI g 6 bf), (IM, ob 1 [.ref ig, .int (nI kb)]), (ig, aO g 2 io)] := ST.sub S [0, 22, 23, 1, 2, 24, 25, 3, 4, 5, 6, 7, 8, 9, 10, 11, 12, 13, 14, 15, 16, 17, 18, 19, 20, 21] (by decide) rfl
    refine lv_aload_n hx hb dX6_tells_44 rfl (lv_at hl 1 rfl) ?_
    refine top_get C S inX6_tellsg_X6 rfl 0 rfl 5 (by decide) (by decide +kernel) rfl rfl dX6_tells_45 ?_
    refine after_I (wc := [(SG, ob 4 [.ref la, .ref ba, .int (nI sz)]), (la, aI g 6 lf), (ba, aI g 6 bf)]) (y := yX4_empty) C S (va_runV (As := []) (rest := []) C.1 (kX4_empty l g SG la ba lf bf sz H.size) (cwV 0 hts gX6_tells_X4_empty rfl rfl rfl (by decide +kernel) ⟨Nat.le_of_ble_eq_true rfl, Nat.le_of_ble_eq_true rfl⟩) (preV_at C S 21 rfl rfl [21, 22, 23] rfl (by decide)) rfl rfl hl.1 rfl (lv_room (Nat.le_of_ble_eq_true rfl)) dX6_tells_48 ⟨Nat.le_of_ble_eq_true rfl, Nat.le_of_ble_eq_true rfl⟩) [21, 22, 23] [0, 1, 2, 3, 4, 5, 6, 7, 8, 9, 10, 11, 12, 13, 14, 15, 16, 17, 18, 19, 20, 24, 25] rfl (wr := [(O, ob 6 [.ref h, .ref dh, .ref th, .ref HH, .ref IM, .ref SG, .ref P, .ref ca]), (h, ob 2 [.ref q, .int (nI dn1), .int (nI dw1)]), (q, aI g 32 ff1), (th, ob 5 [.ref tl, .int (nI tz)]), (tl, aC g 100 tx), (dh, ob 2 [.ref dq, .int (nI dn1), .int (nI dw1)]), (dq, aI g 32 df1), (HH, ob 0 [.ref rg, .int (nI (nxt k)), .int (nI (min (z + 1) 6))]), (rg, aO g 6 ro), (a0, ob 2 [.ref b0, .int (nI (updA ns k n 0)), .int (nI (updA wbs k ww 0))]), (b0, aI g 32 (updA fs k gg1 0)), (a1, ob 2 [.ref b1, .int (nI (updA ns k n 1)), .int (nI (updA wbs k ww 1))]), (b1, aI g 32 (updA fs k gg1 1)), (a2, ob 2 [.ref b2, .int (nI (updA ns k n 2)), .int (nI (updA wbs k ww 2))]), (b2, aI g 32 (updA fs k gg1 2)), (a3, ob 2 [.ref b3, .int (nI (updA ns k n 3)), .int (nI (updA wbs k ww 3))]), (b3, aI g 32 (updA fs k gg1 3)), (a4, ob 2 [.ref b4, .int (nI (updA ns k n 4)), .int (nI (updA wbs k ww 4))]), (b4, aI g 32 (updA fs k gg1 4)), (a5, ob 2 [.ref b5, .int (nI (updA ns k n 5)), .int (nI (updA wbs k ww 5))]), (b5, aI g 32 (updA fs k gg1 5)), (IM, ob 1 [.ref ig, .int (nI kb)]), (ig, aO g 2 io)]) rfl (by decide) (by decide) (fun r0 w0 H locs hq S => ?_)
    obtain ⟨rfl, rfl⟩ := hq
    have S : ST g A ss H locs [(O, ob 6 [.ref h, .ref dh, .ref th, .ref HH, .ref IM, .ref SG, .ref P, .ref ca]), (h, ob 2 [.ref q, .int (nI dn1), .int (nI dw1)]), (q, aI g 32 ff1), (th, ob 5 [.ref tl, .int (nI tz)]), (tl, aC g 100 tx), (dh, ob 2 [.ref dq, .int (nI dn1), .int (nI dw1)]), (dq, aI g 32 df1), (HH, ob 0 [.ref rg, .int (nI (nxt k)), .int (nI (min (z + 1) 6))]), (rg, aO g 6 ro), (a0, ob 2 [.ref b0, .int (nI (updA ns k n 0)), .int (nI (updA wbs k ww 0))]), (b0, aI g 32 (updA fs k gg1 0)), (a1, ob 2 [.ref b1, .int (nI (updA ns k n 1)), .int (nI (updA wbs k ww 1))]), (b1, aI g 32 (updA fs k gg1 1)), (a2, ob 2 [.ref b2, .int (nI (updA ns k n 2)), .int (nI (updA wbs k ww 2))]), (b2, aI g 32 (updA fs k gg1 2)), (a3, ob 2 [.ref b3, .int (nI (updA ns k n 3)), .int (nI (updA wbs k ww 3))]), (b3, aI g 32 (updA fs k gg1 3)), (a4, ob 2 [.ref b4, .int (nI (updA ns k n 4)), .int (nI (updA wbs k ww 4))]), (b4, aI g 32 (updA fs k gg1 4)), (a5, ob 2 [.ref b5, .int (nI (updA ns k n 5)), .int (nI (updA wbs k ww 5))]), (b5, aI g 32 (updA fs k gg1 5)), (SG, ob 4 [.ref la, .ref ba, .int (nI 0)]), (la, aI g 6 lf), (ba, aI g 6 bf), (IM, ob 1 [.ref ig, .int (nI kb)]), (ig, aO g 2 io)] := ST.sub S [0, 1, 2, 3, 4, 5, 6, 7, 8, 9, 10, 11, 12, 13, 14, 15, 16, 17, 18, 19, 20, 23, 24, 25, 21, 22] (by decide) rfl
    refine lv_pop hx hb dX6_tells_51 rfl ?_
    refine lv_aload_n hx hb dX6_tells_52 rfl (lv_at hl 1 rfl) ?_
    refine top_get C S inX6_tellsg_X6 rfl 0 rfl 4 (by decide) (by decide +kernel) rfl rfl dX6_tells_53 ?_
    refine after_V (wc := [(IM, ob 1 [.ref ig, .int (nI kb)]), (ig, aO g 2 io)]) (y := yX1_empty) C S (va_runV (As := []) (rest := []) C.1 (kX1_empty l g IM ig io kb H.size) (cwV 0 hts gX6_tells_X1_empty rfl rfl rfl (by decide +kernel) ⟨Nat.le_of_ble_eq_true rfl, Nat.le_of_ble_eq_true rfl⟩) (preV_at C S 24 rfl rfl [24, 25] rfl (by decide)) rfl rfl hl.1 rfl (lv_room (Nat.le_of_ble_eq_true rfl)) dX6_tells_56 ⟨Nat.le_of_ble_eq_true rfl, Nat.le_of_ble_eq_true rfl⟩) [24, 25] [0, 1, 2, 3, 4, 5, 6, 7, 8, 9, 10, 11, 12, 13, 14, 15, 16, 17, 18, 19, 20, 21, 22, 23] rfl (wr := [(O, ob 6 [.ref h, .ref dh, .ref th, .ref HH, .ref IM, .ref SG, .ref P, .ref ca]), (h, ob 2 [.ref q, .int (nI dn1), .int (nI dw1)]), (q, aI g 32 ff1), (th, ob 5 [.ref tl, .int (nI tz)]), (tl, aC g 100 tx), (dh, ob 2 [.ref dq, .int (nI dn1), .int (nI dw1)]), (dq, aI g 32 df1), (HH, ob 0 [.ref rg, .int (nI (nxt k)), .int (nI (min (z + 1) 6))]), (rg, aO g 6 ro), (a0, ob 2 [.ref b0, .int (nI (updA ns k n 0)), .int (nI (updA wbs k ww 0))]), (b0, aI g 32 (updA fs k gg1 0)), (a1, ob 2 [.ref b1, .int (nI (updA ns k n 1)), .int (nI (updA wbs k ww 1))]), (b1, aI g 32 (updA fs k gg1 1)), (a2, ob 2 [.ref b2, .int (nI (updA ns k n 2)), .int (nI (updA wbs k ww 2))]), (b2, aI g 32 (updA fs k gg1 2)), (a3, ob 2 [.ref b3, .int (nI (updA ns k n 3)), .int (nI (updA wbs k ww 3))]), (b3, aI g 32 (updA fs k gg1 3)), (a4, ob 2 [.ref b4, .int (nI (updA ns k n 4)), .int (nI (updA wbs k ww 4))]), (b4, aI g 32 (updA fs k gg1 4)), (a5, ob 2 [.ref b5, .int (nI (updA ns k n 5)), .int (nI (updA wbs k ww 5))]), (b5, aI g 32 (updA fs k gg1 5)), (SG, ob 4 [.ref la, .ref ba, .int (nI 0)]), (la, aI g 6 lf), (ba, aI g 6 bf)]) rfl (by decide) (by decide) (fun w0 H locs hq S => ?_)
    subst hq
    have S : ST g A ss H locs [(O, ob 6 [.ref h, .ref dh, .ref th, .ref HH, .ref IM, .ref SG, .ref P, .ref ca]), (h, ob 2 [.ref q, .int (nI dn1), .int (nI dw1)]), (q, aI g 32 ff1), (th, ob 5 [.ref tl, .int (nI tz)]), (tl, aC g 100 tx), (dh, ob 2 [.ref dq, .int (nI dn1), .int (nI dw1)]), (dq, aI g 32 df1), (HH, ob 0 [.ref rg, .int (nI (nxt k)), .int (nI (min (z + 1) 6))]), (rg, aO g 6 ro), (a0, ob 2 [.ref b0, .int (nI (updA ns k n 0)), .int (nI (updA wbs k ww 0))]), (b0, aI g 32 (updA fs k gg1 0)), (a1, ob 2 [.ref b1, .int (nI (updA ns k n 1)), .int (nI (updA wbs k ww 1))]), (b1, aI g 32 (updA fs k gg1 1)), (a2, ob 2 [.ref b2, .int (nI (updA ns k n 2)), .int (nI (updA wbs k ww 2))]), (b2, aI g 32 (updA fs k gg1 2)), (a3, ob 2 [.ref b3, .int (nI (updA ns k n 3)), .int (nI (updA wbs k ww 3))]), (b3, aI g 32 (updA fs k gg1 3)), (a4, ob 2 [.ref b4, .int (nI (updA ns k n 4)), .int (nI (updA wbs k ww 4))]), (b4, aI g 32 (updA fs k gg1 4)), (a5, ob 2 [.ref b5, .int (nI (updA ns k n 5)), .int (nI (updA wbs k ww 5))]), (b5, aI g 32 (updA fs k gg1 5)), (SG, ob 4 [.ref la, .ref ba, .int (nI 0)]), (la, aI g 6 lf), (ba, aI g 6 bf), (IM, ob 1 [.ref ig, .int (nI 0)]), (ig, aO g 2 io)] := S
    refine lv_aload_n hx hb dX6_tells_59 rfl (lv_at hl 1 rfl) ?_
    refine top_get C S inX6_tellsg_X6 rfl 0 rfl 2 (by decide) (by decide +kernel) rfl rfl dX6_tells_60 ?_
    refine after_I (wc := [(th, ob 5 [.ref tl, .int (nI tz)]), (tl, aC g 100 tx)]) (y := yX5_empty) C S (va_runV (As := []) (rest := []) C.1 (kX5_empty l g th tl tx tz H.size) (cwV 0 hts gX6_tells_X5_empty rfl rfl rfl (by decide +kernel) ⟨Nat.le_of_ble_eq_true rfl, Nat.le_of_ble_eq_true rfl⟩) (preV_at C S 3 rfl rfl [3, 4] rfl (by decide)) rfl rfl hl.1 rfl (lv_room (Nat.le_of_ble_eq_true rfl)) dX6_tells_63 ⟨Nat.le_of_ble_eq_true rfl, Nat.le_of_ble_eq_true rfl⟩) [3, 4] [0, 1, 2, 5, 6, 7, 8, 9, 10, 11, 12, 13, 14, 15, 16, 17, 18, 19, 20, 21, 22, 23, 24, 25] rfl (wr := [(O, ob 6 [.ref h, .ref dh, .ref th, .ref HH, .ref IM, .ref SG, .ref P, .ref ca]), (h, ob 2 [.ref q, .int (nI dn1), .int (nI dw1)]), (q, aI g 32 ff1), (dh, ob 2 [.ref dq, .int (nI dn1), .int (nI dw1)]), (dq, aI g 32 df1), (HH, ob 0 [.ref rg, .int (nI (nxt k)), .int (nI (min (z + 1) 6))]), (rg, aO g 6 ro), (a0, ob 2 [.ref b0, .int (nI (updA ns k n 0)), .int (nI (updA wbs k ww 0))]), (b0, aI g 32 (updA fs k gg1 0)), (a1, ob 2 [.ref b1, .int (nI (updA ns k n 1)), .int (nI (updA wbs k ww 1))]), (b1, aI g 32 (updA fs k gg1 1)), (a2, ob 2 [.ref b2, .int (nI (updA ns k n 2)), .int (nI (updA wbs k ww 2))]), (b2, aI g 32 (updA fs k gg1 2)), (a3, ob 2 [.ref b3, .int (nI (updA ns k n 3)), .int (nI (updA wbs k ww 3))]), (b3, aI g 32 (updA fs k gg1 3)), (a4, ob 2 [.ref b4, .int (nI (updA ns k n 4)), .int (nI (updA wbs k ww 4))]), (b4, aI g 32 (updA fs k gg1 4)), (a5, ob 2 [.ref b5, .int (nI (updA ns k n 5)), .int (nI (updA wbs k ww 5))]), (b5, aI g 32 (updA fs k gg1 5)), (SG, ob 4 [.ref la, .ref ba, .int (nI 0)]), (la, aI g 6 lf), (ba, aI g 6 bf), (IM, ob 1 [.ref ig, .int (nI 0)]), (ig, aO g 2 io)]) rfl (by decide) (by decide) (fun r0 w0 H locs hq S => ?_)
    obtain ⟨rfl, rfl⟩ := hq
    have S : ST g A ss H locs [(O, ob 6 [.ref h, .ref dh, .ref th, .ref HH, .ref IM, .ref SG, .ref P, .ref ca]), (h, ob 2 [.ref q, .int (nI dn1), .int (nI dw1)]), (q, aI g 32 ff1), (th, ob 5 [.ref tl, .int (nI 0)]), (tl, aC g 100 tx), (dh, ob 2 [.ref dq, .int (nI dn1), .int (nI dw1)]), (dq, aI g 32 df1), (HH, ob 0 [.ref rg, .int (nI (nxt k)), .int (nI (min (z + 1) 6))]), (rg, aO g 6 ro), (a0, ob 2 [.ref b0, .int (nI (updA ns k n 0)), .int (nI (updA wbs k ww 0))]), (b0, aI g 32 (updA fs k gg1 0)), (a1, ob 2 [.ref b1, .int (nI (updA ns k n 1)), .int (nI (updA wbs k ww 1))]), (b1, aI g 32 (updA fs k gg1 1)), (a2, ob 2 [.ref b2, .int (nI (updA ns k n 2)), .int (nI (updA wbs k ww 2))]), (b2, aI g 32 (updA fs k gg1 2)), (a3, ob 2 [.ref b3, .int (nI (updA ns k n 3)), .int (nI (updA wbs k ww 3))]), (b3, aI g 32 (updA fs k gg1 3)), (a4, ob 2 [.ref b4, .int (nI (updA ns k n 4)), .int (nI (updA wbs k ww 4))]), (b4, aI g 32 (updA fs k gg1 4)), (a5, ob 2 [.ref b5, .int (nI (updA ns k n 5)), .int (nI (updA wbs k ww 5))]), (b5, aI g 32 (updA fs k gg1 5)), (SG, ob 4 [.ref la, .ref ba, .int (nI 0)]), (la, aI g 6 lf), (ba, aI g 6 bf), (IM, ob 1 [.ref ig, .int (nI 0)]), (ig, aO g 2 io)] := ST.sub S [0, 1, 2, 24, 25, 3, 4, 5, 6, 7, 8, 9, 10, 11, 12, 13, 14, 15, 16, 17, 18, 19, 20, 21, 22, 23] (by decide) rfl
    refine lv_pop hx hb dX6_tells_66 rfl ?_
    refine lv_aload_n hx hb dX6_tells_67 rfl (lv_at hl 1 rfl) ?_
    refine top_get C S inX6_tellsg_X6 rfl 0 rfl 0 (by decide) (by decide +kernel) rfl rfl dX6_tells_68 ?_
    refine top_getN C S inX6_tellsg_X2 rfl 1 rfl 1 (by decide) (by decide +kernel) rfl dX6_tells_71 ?_
    exact ret_I C S hr dX6_tells_74 ⟨(by rw [hd1]), ff1, df1, dn1, dw1, gg1, (fun a i ha hi => by rw [hff _ (by omega)]; exact hd3 a i ha (by omega)), (hg1), (by rw [hd2, hd1])⟩
  · -- 14 F
    exact absurd rfl c_1
