set_option maxRecDepth 100000 in
set_option maxHeartbeats 4000000 in
/-- bit i of ww -/
theorem kX6_holds (l : Launch) (g : GG) (ww : Nat) (i : Nat) (hw : ww < 512) (hi : i < 31) : KI l g yX6_holds wsX6_holds 0 0 [.int (nI ww), .int (nI i)] [] (fun (r : Int32) (w' : va_W) => r = (bI (ww.testBit i)) ∧ w' = []) := by
  refine kI_of (cc := cX6_holds) (maxL := 2) (by decide) rfl (Nat.le_of_ble_eq_true rfl) ?_
  intro pp ee ss mm bel mth cd A ls C S hr hl
  obtain ⟨hx, hb, hml, hown, hts⟩ := id C.1
  have hl : lv_has ls 2 [(0, .int (nI ww)), (1, .int (nI i))] := hl
  obtain ⟨H, hH⟩ : ∃ H, H = ss.heap := ⟨_, rfl⟩
  obtain ⟨locs, hL0⟩ : ∃ L : List Loc, L = [] := ⟨_, rfl⟩
  rw [← hH, ← hL0] at S ⊢
  refine lv_iload_n hx hb dX6_holds_0 rfl (lv_at hl 0 rfl) ?_
  refine lv_iload_n hx hb dX6_holds_1 rfl (lv_at hl 1 rfl) ?_
  refine lv_ishr hx hb dX6_holds_2 ?_
  refine lv_iconst (v := 1) hx hb dX6_holds_3 (by decide) ?_
  refine lv_iand hx hb dX6_holds_4 ?_
  refine lv_if_eq (tgt := 12) hx hb dX6_holds_5 (by decide) (fun c_1 => ?_) (fun c_1 => ?_)
  · -- 5 T
    refine lv_iconst (v := 0) hx hb dX6_holds_12 (by decide) ?_
    exact ret_Z (ww.testBit i) C S hr dX6_holds_13 (by rw [(bit_0 (by omega) (by omega)).mp c_1]; rfl) ⟨(by rw [(bit_0 (by omega) (by omega)).mp c_1]; rfl), (rfl)⟩
  · -- 5 F
    refine lv_iconst (v := 1) hx hb dX6_holds_8 (by decide) ?_
    refine lv_goto (tgt := 13) hx hb dX6_holds_9 (by decide) ?_
    exact ret_Z (ww.testBit i) C S hr dX6_holds_13 (by rw [nf_t (fun q => c_1 ((bit_0 (by omega) (by omega)).mpr q))]; rfl) ⟨(by rw [nf_t (fun q => c_1 ((bit_0 (by omega) (by omega)).mpr q))]; rfl), (rfl)⟩

def sX6_isLoad (p0 : Int32) : Bool := if p0 < 0 then false else (if 999 < p0 then false else true)
set_option maxRecDepth 100000 in
set_option maxHeartbeats 4000000 in
theorem kX6_isLoad (l : Launch) (g : GG) (p0 : Int32)  : KI l g yX6_isLoad wsX6_isLoad 0 0 [.int p0] [] (fun (r : Int32) (w' : va_W) => r = (bI (sX6_isLoad p0)) ∧ w' = []) := by
  refine kI_of (cc := cX6_isLoad) (maxL := 1) (by decide) rfl (Nat.le_of_ble_eq_true rfl) ?_
  intro pp ee ss mm bel mth cd A ls C S hr hl
  obtain ⟨hx, hb, hml, hown, hts⟩ := id C.1
  have hl : lv_has ls 1 [(0, .int p0)] := hl
  obtain ⟨H, hH⟩ : ∃ H, H = ss.heap := ⟨_, rfl⟩
  obtain ⟨locs, hL0⟩ : ∃ L : List Loc, L = [] := ⟨_, rfl⟩
  rw [← hH, ← hL0] at S ⊢
  refine lv_iload_n hx hb dX6_isLoad_0 rfl (lv_at hl 0 rfl) ?_
  refine lv_if_lt (tgt := 15) hx hb dX6_isLoad_1 (by decide) (fun c_1 => ?_) (fun c_1 => ?_)
  · -- 1 T
    refine lv_iconst (v := 0) hx hb dX6_isLoad_15 (by decide) ?_
    exact ret_Z (sX6_isLoad p0) C S hr dX6_isLoad_16 (by first | rfl | (simp only [sX6_isLoad, if_pos c_1]; first | rfl | done)) ⟨(by first | rfl | (simp only [sX6_isLoad, if_pos c_1]; first | rfl | done)), (by first | rfl | (simp only [sX6_isLoad, if_pos c_1]; first | rfl | done))⟩
  · -- 1 F
    refine lv_iload_n hx hb dX6_isLoad_4 rfl (lv_at hl 0 rfl) ?_
    refine lv_sipush (v := 999) hx hb dX6_isLoad_5 (by decide) ?_
    refine lv_icmp_gt (tgt := 15) hx hb dX6_isLoad_8 (by decide) (fun c_2 => ?_) (fun c_2 => ?_)
    · -- 8 T
      refine lv_iconst (v := 0) hx hb dX6_isLoad_15 (by decide) ?_
      exact ret_Z (sX6_isLoad p0) C S hr dX6_isLoad_16 (by first | rfl | (simp only [sX6_isLoad, if_neg c_1, if_pos c_2]; first | rfl | done)) ⟨(by first | rfl | (simp only [sX6_isLoad, if_neg c_1, if_pos c_2]; first | rfl | done)), (by first | rfl | (simp only [sX6_isLoad, if_neg c_1, if_pos c_2]; first | rfl | done))⟩
    · -- 8 F
      refine lv_iconst (v := 1) hx hb dX6_isLoad_11 (by decide) ?_
      refine lv_goto (tgt := 16) hx hb dX6_isLoad_12 (by decide) ?_
      exact ret_Z (sX6_isLoad p0) C S hr dX6_isLoad_16 (by first | rfl | (simp only [sX6_isLoad, if_neg c_1, if_neg c_2]; first | rfl | done)) ⟨(by first | rfl | (simp only [sX6_isLoad, if_neg c_1, if_neg c_2]; first | rfl | done)), (by first | rfl | (simp only [sX6_isLoad, if_neg c_1, if_neg c_2]; first | rfl | done))⟩

def sJ6_bitCount_0f7a4a (x0 : Int32) : Int32 := (((((((x0 - (((x0.toUInt32 >>> (Int32.toUInt32 1 &&& Int32.toUInt32 31)).toInt32) &&& (1431655765))) &&& (858993459)) + ((((x0 - (((x0.toUInt32 >>> (Int32.toUInt32 1 &&& Int32.toUInt32 31)).toInt32) &&& (1431655765))).toUInt32 >>> (Int32.toUInt32 2 &&& Int32.toUInt32 31)).toInt32) &&& (858993459))) + (((((x0 - (((x0.toUInt32 >>> (Int32.toUInt32 1 &&& Int32.toUInt32 31)).toInt32) &&& (1431655765))) &&& (858993459)) + ((((x0 - (((x0.toUInt32 >>> (Int32.toUInt32 1 &&& Int32.toUInt32 31)).toInt32) &&& (1431655765))).toUInt32 >>> (Int32.toUInt32 2 &&& Int32.toUInt32 31)).toInt32) &&& (858993459))).toUInt32 >>> (Int32.toUInt32 4 &&& Int32.toUInt32 31)).toInt32)) &&& (252645135)) + (((((((x0 - (((x0.toUInt32 >>> (Int32.toUInt32 1 &&& Int32.toUInt32 31)).toInt32) &&& (1431655765))) &&& (858993459)) + ((((x0 - (((x0.toUInt32 >>> (Int32.toUInt32 1 &&& Int32.toUInt32 31)).toInt32) &&& (1431655765))).toUInt32 >>> (Int32.toUInt32 2 &&& Int32.toUInt32 31)).toInt32) &&& (858993459))) + (((((x0 - (((x0.toUInt32 >>> (Int32.toUInt32 1 &&& Int32.toUInt32 31)).toInt32) &&& (1431655765))) &&& (858993459)) + ((((x0 - (((x0.toUInt32 >>> (Int32.toUInt32 1 &&& Int32.toUInt32 31)).toInt32) &&& (1431655765))).toUInt32 >>> (Int32.toUInt32 2 &&& Int32.toUInt32 31)).toInt32) &&& (858993459))).toUInt32 >>> (Int32.toUInt32 4 &&& Int32.toUInt32 31)).toInt32)) &&& (252645135)).toUInt32 >>> (Int32.toUInt32 8 &&& Int32.toUInt32 31)).toInt32)) + ((((((((x0 - (((x0.toUInt32 >>> (Int32.toUInt32 1 &&& Int32.toUInt32 31)).toInt32) &&& (1431655765))) &&& (858993459)) + ((((x0 - (((x0.toUInt32 >>> (Int32.toUInt32 1 &&& Int32.toUInt32 31)).toInt32) &&& (1431655765))).toUInt32 >>> (Int32.toUInt32 2 &&& Int32.toUInt32 31)).toInt32) &&& (858993459))) + (((((x0 - (((x0.toUInt32 >>> (Int32.toUInt32 1 &&& Int32.toUInt32 31)).toInt32) &&& (1431655765))) &&& (858993459)) + ((((x0 - (((x0.toUInt32 >>> (Int32.toUInt32 1 &&& Int32.toUInt32 31)).toInt32) &&& (1431655765))).toUInt32 >>> (Int32.toUInt32 2 &&& Int32.toUInt32 31)).toInt32) &&& (858993459))).toUInt32 >>> (Int32.toUInt32 4 &&& Int32.toUInt32 31)).toInt32)) &&& (252645135)) + (((((((x0 - (((x0.toUInt32 >>> (Int32.toUInt32 1 &&& Int32.toUInt32 31)).toInt32) &&& (1431655765))) &&& (858993459)) + ((((x0 - (((x0.toUInt32 >>> (Int32.toUInt32 1 &&& Int32.toUInt32 31)).toInt32) &&& (1431655765))).toUInt32 >>> (Int32.toUInt32 2 &&& Int32.toUInt32 31)).toInt32) &&& (858993459))) + (((((x0 - (((x0.toUInt32 >>> (Int32.toUInt32 1 &&& Int32.toUInt32 31)).toInt32) &&& (1431655765))) &&& (858993459)) + ((((x0 - (((x0.toUInt32 >>> (Int32.toUInt32 1 &&& Int32.toUInt32 31)).toInt32) &&& (1431655765))).toUInt32 >>> (Int32.toUInt32 2 &&& Int32.toUInt32 31)).toInt32) &&& (858993459))).toUInt32 >>> (Int32.toUInt32 4 &&& Int32.toUInt32 31)).toInt32)) &&& (252645135)).toUInt32 >>> (Int32.toUInt32 8 &&& Int32.toUInt32 31)).toInt32)).toUInt32 >>> (Int32.toUInt32 16 &&& Int32.toUInt32 31)).toInt32)) &&& 63
set_option maxRecDepth 100000 in
set_option maxHeartbeats 4000000 in
theorem kJ6_bitCount_0f7a4a (l : Launch) (g : GG) (x0 : Int32)  : KI l g yJ6_bitCount_0f7a4 wsJ6_bitCount_0f7a4 0 0 [.int x0] [] (fun (r : Int32) (w' : va_W) => r = (sJ6_bitCount_0f7a4a x0) ∧ w' = []) := by
  refine kI_of (cc := cJ6_bitCount_0f7a4) (maxL := 1) (by decide) rfl (Nat.le_of_ble_eq_true rfl) ?_
  intro pp ee ss mm bel mth cd A ls C S hr hl
  obtain ⟨hx, hb, hml, hown, hts⟩ := id C.1
  have hl : lv_has ls 1 [(0, .int x0)] := hl
  obtain ⟨H, hH⟩ : ∃ H, H = ss.heap := ⟨_, rfl⟩
  obtain ⟨locs, hL0⟩ : ∃ L : List Loc, L = [] := ⟨_, rfl⟩
  rw [← hH, ← hL0] at S ⊢
  refine lv_iload_n hx hb dJ6_bitCount_0f7a4_0 rfl (lv_at hl 0 rfl) ?_
  refine lv_iload_n hx hb dJ6_bitCount_0f7a4_1 rfl (lv_at hl 0 rfl) ?_
  refine lv_iconst (v := 1) hx hb dJ6_bitCount_0f7a4_2 (by decide) ?_
  refine lv_iushr hx hb dJ6_bitCount_0f7a4_3 rfl ?_
  refine lv_ldcw (v := (1431655765)) hx hb hown (hts (.constant RJ6 265 (1431655765)) (by decide +kernel)) dJ6_bitCount_0f7a4_4 ?_
  refine lv_iand hx hb dJ6_bitCount_0f7a4_7 ?_
  refine lv_isub hx hb dJ6_bitCount_0f7a4_8 ?_
  refine lv_istore_n (lv' := [(0, .int (x0 - (((x0.toUInt32 >>> (Int32.toUInt32 1 &&& Int32.toUInt32 31)).toInt32) &&& (1431655765))))]) hx hb dJ6_bitCount_0f7a4_9 rfl hl (by decide) rfl (fun ls hl => ?_)
  refine lv_iload_n hx hb dJ6_bitCount_0f7a4_10 rfl (lv_at hl 0 rfl) ?_
  refine lv_ldcw (v := (858993459)) hx hb hown (hts (.constant RJ6 266 (858993459)) (by decide +kernel)) dJ6_bitCount_0f7a4_11 ?_
  refine lv_iand hx hb dJ6_bitCount_0f7a4_14 ?_
  refine lv_iload_n hx hb dJ6_bitCount_0f7a4_15 rfl (lv_at hl 0 rfl) ?_
  refine lv_iconst (v := 2) hx hb dJ6_bitCount_0f7a4_16 (by decide) ?_
  refine lv_iushr hx hb dJ6_bitCount_0f7a4_17 rfl ?_
  refine lv_ldcw (v := (858993459)) hx hb hown (hts (.constant RJ6 266 (858993459)) (by decide +kernel)) dJ6_bitCount_0f7a4_18 ?_
  refine lv_iand hx hb dJ6_bitCount_0f7a4_21 ?_
  refine lv_iadd hx hb dJ6_bitCount_0f7a4_22 ?_
  refine lv_istore_n (lv' := [(0, .int (((x0 - (((x0.toUInt32 >>> (Int32.toUInt32 1 &&& Int32.toUInt32 31)).toInt32) &&& (1431655765))) &&& (858993459)) + ((((x0 - (((x0.toUInt32 >>> (Int32.toUInt32 1 &&& Int32.toUInt32 31)).toInt32) &&& (1431655765))).toUInt32 >>> (Int32.toUInt32 2 &&& Int32.toUInt32 31)).toInt32) &&& (858993459))))]) hx hb dJ6_bitCount_0f7a4_23 rfl hl (by decide) rfl (fun ls hl => ?_)
  refine lv_iload_n hx hb dJ6_bitCount_0f7a4_24 rfl (lv_at hl 0 rfl) ?_
  refine lv_iload_n hx hb dJ6_bitCount_0f7a4_25 rfl (lv_at hl 0 rfl) ?_
  refine lv_iconst (v := 4) hx hb dJ6_bitCount_0f7a4_26 (by decide) ?_
  refine lv_iushr hx hb dJ6_bitCount_0f7a4_27 rfl ?_
  refine lv_iadd hx hb dJ6_bitCount_0f7a4_28 ?_
  refine lv_ldcw (v := (252645135)) hx hb hown (hts (.constant RJ6 267 (252645135)) (by decide +kernel)) dJ6_bitCount_0f7a4_29 ?_
  refine lv_iand hx hb dJ6_bitCount_0f7a4_32 ?_
  refine lv_istore_n (lv' := [(0, .int (((((x0 - (((x0.toUInt32 >>> (Int32.toUInt32 1 &&& Int32.toUInt32 31)).toInt32) &&& (1431655765))) &&& (858993459)) + ((((x0 - (((x0.toUInt32 >>> (Int32.toUInt32 1 &&& Int32.toUInt32 31)).toInt32) &&& (1431655765))).toUInt32 >>> (Int32.toUInt32 2 &&& Int32.toUInt32 31)).toInt32) &&& (858993459))) + (((((x0 - (((x0.toUInt32 >>> (Int32.toUInt32 1 &&& Int32.toUInt32 31)).toInt32) &&& (1431655765))) &&& (858993459)) + ((((x0 - (((x0.toUInt32 >>> (Int32.toUInt32 1 &&& Int32.toUInt32 31)).toInt32) &&& (1431655765))).toUInt32 >>> (Int32.toUInt32 2 &&& Int32.toUInt32 31)).toInt32) &&& (858993459))).toUInt32 >>> (Int32.toUInt32 4 &&& Int32.toUInt32 31)).toInt32)) &&& (252645135)))]) hx hb dJ6_bitCount_0f7a4_33 rfl hl (by decide) rfl (fun ls hl => ?_)
  refine lv_iload_n hx hb dJ6_bitCount_0f7a4_34 rfl (lv_at hl 0 rfl) ?_
  refine lv_iload_n hx hb dJ6_bitCount_0f7a4_35 rfl (lv_at hl 0 rfl) ?_
  refine lv_bipush (v := 8) hx hb dJ6_bitCount_0f7a4_36 (by decide) ?_
  refine lv_iushr hx hb dJ6_bitCount_0f7a4_38 rfl ?_
  refine lv_iadd hx hb dJ6_bitCount_0f7a4_39 ?_
  refine lv_istore_n (lv' := [(0, .int ((((((x0 - (((x0.toUInt32 >>> (Int32.toUInt32 1 &&& Int32.toUInt32 31)).toInt32) &&& (1431655765))) &&& (858993459)) + ((((x0 - (((x0.toUInt32 >>> (Int32.toUInt32 1 &&& Int32.toUInt32 31)).toInt32) &&& (1431655765))).toUInt32 >>> (Int32.toUInt32 2 &&& Int32.toUInt32 31)).toInt32) &&& (858993459))) + (((((x0 - (((x0.toUInt32 >>> (Int32.toUInt32 1 &&& Int32.toUInt32 31)).toInt32) &&& (1431655765))) &&& (858993459)) + ((((x0 - (((x0.toUInt32 >>> (Int32.toUInt32 1 &&& Int32.toUInt32 31)).toInt32) &&& (1431655765))).toUInt32 >>> (Int32.toUInt32 2 &&& Int32.toUInt32 31)).toInt32) &&& (858993459))).toUInt32 >>> (Int32.toUInt32 4 &&& Int32.toUInt32 31)).toInt32)) &&& (252645135)) + (((((((x0 - (((x0.toUInt32 >>> (Int32.toUInt32 1 &&& Int32.toUInt32 31)).toInt32) &&& (1431655765))) &&& (858993459)) + ((((x0 - (((x0.toUInt32 >>> (Int32.toUInt32 1 &&& Int32.toUInt32 31)).toInt32) &&& (1431655765))).toUInt32 >>> (Int32.toUInt32 2 &&& Int32.toUInt32 31)).toInt32) &&& (858993459))) + (((((x0 - (((x0.toUInt32 >>> (Int32.toUInt32 1 &&& Int32.toUInt32 31)).toInt32) &&& (1431655765))) &&& (858993459)) + ((((x0 - (((x0.toUInt32 >>> (Int32.toUInt32 1 &&& Int32.toUInt32 31)).toInt32) &&& (1431655765))).toUInt32 >>> (Int32.toUInt32 2 &&& Int32.toUInt32 31)).toInt32) &&& (858993459))).toUInt32 >>> (Int32.toUInt32 4 &&& Int32.toUInt32 31)).toInt32)) &&& (252645135)).toUInt32 >>> (Int32.toUInt32 8 &&& Int32.toUInt32 31)).toInt32)))]) hx hb dJ6_bitCount_0f7a4_40 rfl hl (by decide) rfl (fun ls hl => ?_)
  refine lv_iload_n hx hb dJ6_bitCount_0f7a4_41 rfl (lv_at hl 0 rfl) ?_
  refine lv_iload_n hx hb dJ6_bitCount_0f7a4_42 rfl (lv_at hl 0 rfl) ?_
  refine lv_bipush (v := 16) hx hb dJ6_bitCount_0f7a4_43 (by decide) ?_
  refine lv_iushr hx hb dJ6_bitCount_0f7a4_45 rfl ?_
  refine lv_iadd hx hb dJ6_bitCount_0f7a4_46 ?_
  refine lv_istore_n (lv' := [(0, .int (((((((x0 - (((x0.toUInt32 >>> (Int32.toUInt32 1 &&& Int32.toUInt32 31)).toInt32) &&& (1431655765))) &&& (858993459)) + ((((x0 - (((x0.toUInt32 >>> (Int32.toUInt32 1 &&& Int32.toUInt32 31)).toInt32) &&& (1431655765))).toUInt32 >>> (Int32.toUInt32 2 &&& Int32.toUInt32 31)).toInt32) &&& (858993459))) + (((((x0 - (((x0.toUInt32 >>> (Int32.toUInt32 1 &&& Int32.toUInt32 31)).toInt32) &&& (1431655765))) &&& (858993459)) + ((((x0 - (((x0.toUInt32 >>> (Int32.toUInt32 1 &&& Int32.toUInt32 31)).toInt32) &&& (1431655765))).toUInt32 >>> (Int32.toUInt32 2 &&& Int32.toUInt32 31)).toInt32) &&& (858993459))).toUInt32 >>> (Int32.toUInt32 4 &&& Int32.toUInt32 31)).toInt32)) &&& (252645135)) + (((((((x0 - (((x0.toUInt32 >>> (Int32.toUInt32 1 &&& Int32.toUInt32 31)).toInt32) &&& (1431655765))) &&& (858993459)) + ((((x0 - (((x0.toUInt32 >>> (Int32.toUInt32 1 &&& Int32.toUInt32 31)).toInt32) &&& (1431655765))).toUInt32 >>> (Int32.toUInt32 2 &&& Int32.toUInt32 31)).toInt32) &&& (858993459))) + (((((x0 - (((x0.toUInt32 >>> (Int32.toUInt32 1 &&& Int32.toUInt32 31)).toInt32) &&& (1431655765))) &&& (858993459)) + ((((x0 - (((x0.toUInt32 >>> (Int32.toUInt32 1 &&& Int32.toUInt32 31)).toInt32) &&& (1431655765))).toUInt32 >>> (Int32.toUInt32 2 &&& Int32.toUInt32 31)).toInt32) &&& (858993459))).toUInt32 >>> (Int32.toUInt32 4 &&& Int32.toUInt32 31)).toInt32)) &&& (252645135)).toUInt32 >>> (Int32.toUInt32 8 &&& Int32.toUInt32 31)).toInt32)) + ((((((((x0 - (((x0.toUInt32 >>> (Int32.toUInt32 1 &&& Int32.toUInt32 31)).toInt32) &&& (1431655765))) &&& (858993459)) + ((((x0 - (((x0.toUInt32 >>> (Int32.toUInt32 1 &&& Int32.toUInt32 31)).toInt32) &&& (1431655765))).toUInt32 >>> (Int32.toUInt32 2 &&& Int32.toUInt32 31)).toInt32) &&& (858993459))) + (((((x0 - (((x0.toUInt32 >>> (Int32.toUInt32 1 &&& Int32.toUInt32 31)).toInt32) &&& (1431655765))) &&& (858993459)) + ((((x0 - (((x0.toUInt32 >>> (Int32.toUInt32 1 &&& Int32.toUInt32 31)).toInt32) &&& (1431655765))).toUInt32 >>> (Int32.toUInt32 2 &&& Int32.toUInt32 31)).toInt32) &&& (858993459))).toUInt32 >>> (Int32.toUInt32 4 &&& Int32.toUInt32 31)).toInt32)) &&& (252645135)) + (((((((x0 - (((x0.toUInt32 >>> (Int32.toUInt32 1 &&& Int32.toUInt32 31)).toInt32) &&& (1431655765))) &&& (858993459)) + ((((x0 - (((x0.toUInt32 >>> (Int32.toUInt32 1 &&& Int32.toUInt32 31)).toInt32) &&& (1431655765))).toUInt32 >>> (Int32.toUInt32 2 &&& Int32.toUInt32 31)).toInt32) &&& (858993459))) + (((((x0 - (((x0.toUInt32 >>> (Int32.toUInt32 1 &&& Int32.toUInt32 31)).toInt32) &&& (1431655765))) &&& (858993459)) + ((((x0 - (((x0.toUInt32 >>> (Int32.toUInt32 1 &&& Int32.toUInt32 31)).toInt32) &&& (1431655765))).toUInt32 >>> (Int32.toUInt32 2 &&& Int32.toUInt32 31)).toInt32) &&& (858993459))).toUInt32 >>> (Int32.toUInt32 4 &&& Int32.toUInt32 31)).toInt32)) &&& (252645135)).toUInt32 >>> (Int32.toUInt32 8 &&& Int32.toUInt32 31)).toInt32)).toUInt32 >>> (Int32.toUInt32 16 &&& Int32.toUInt32 31)).toInt32)))]) hx hb dJ6_bitCount_0f7a4_47 rfl hl (by decide) rfl (fun ls hl => ?_)
  refine lv_iload_n hx hb dJ6_bitCount_0f7a4_48 rfl (lv_at hl 0 rfl) ?_
  refine lv_bipush (v := 63) hx hb dJ6_bitCount_0f7a4_49 (by decide) ?_
  refine lv_iand hx hb dJ6_bitCount_0f7a4_51 ?_
  exact ret_I C S hr dJ6_bitCount_0f7a4_52 ⟨(by first | rfl | simp only [sJ6_bitCount_0f7a4a]), (by first | rfl | simp only [sJ6_bitCount_0f7a4a])⟩

def sX2_exists (n : Nat) (x : Int32) : Bool := if x < 0 then false else (if (nI n) ≤ x then false else true)
theorem inX2_exists_X2 : ∀ w ∈ wsX20, w ∈ wsX2_exists := by decide +kernel
set_option maxRecDepth 100000 in
set_option maxHeartbeats 4000000 in
theorem kX2_exists (l : Launch) (g : GG) (h : Nat) (q : Nat) (f : Nat → Int32) (n : Nat) (ww : Nat) (x : Int32)  : KI l g yX2_exists wsX2_exists 0 0 [.ref h, .int x] [(h, ob 2 [.ref q, .int (nI n), .int (nI ww)]), (q, aI g 32 f)] (fun (r : Int32) (w' : va_W) => r = (bI (sX2_exists n x)) ∧ w' = [(h, ob 2 [.ref q, .int (nI n), .int (nI ww)]), (q, aI g 32 f)]) := by
  refine kI_of (cc := cX2_exists) (maxL := 2) (by decide) rfl (Nat.le_of_ble_eq_true rfl) ?_
  intro pp ee ss mm bel mth cd A ls C S hr hl
  obtain ⟨hx, hb, hml, hown, hts⟩ := id C.1
  have hl : lv_has ls 2 [(0, .ref h), (1, .int x)] := hl
  obtain ⟨H, hH⟩ : ∃ H, H = ss.heap := ⟨_, rfl⟩
  obtain ⟨locs, hL0⟩ : ∃ L : List Loc, L = [] := ⟨_, rfl⟩
  rw [← hH, ← hL0] at S ⊢
  refine lv_iload_n hx hb dX2_exists_0 rfl (lv_at hl 1 rfl) ?_
  refine lv_if_lt (tgt := 16) hx hb dX2_exists_1 (by decide) (fun c_1 => ?_) (fun c_1 => ?_)
  · -- 1 T
    refine lv_iconst (v := 0) hx hb dX2_exists_16 (by decide) ?_
    exact ret_Z (sX2_exists n x) C S hr dX2_exists_17 (by first | rfl | (simp only [sX2_exists, if_pos c_1]; first | rfl | done)) ⟨(by first | rfl | (simp only [sX2_exists, if_pos c_1]; first | rfl | done)), (by first | rfl | (simp only [sX2_exists, if_pos c_1]; first | rfl | done))⟩
  · -- 1 F
    refine lv_iload_n hx hb dX2_exists_4 rfl (lv_at hl 1 rfl) ?_
    refine lv_aload_n hx hb dX2_exists_5 rfl (lv_at hl 0 rfl) ?_
    refine top_get C S inX2_exists_X2 rfl 0 rfl 1 (by decide) (by decide +kernel) rfl rfl dX2_exists_6 ?_
    refine lv_icmp_ge (tgt := 16) hx hb dX2_exists_9 (by decide) (fun c_2 => ?_) (fun c_2 => ?_)
    · -- 9 T
      refine lv_iconst (v := 0) hx hb dX2_exists_16 (by decide) ?_
      exact ret_Z (sX2_exists n x) C S hr dX2_exists_17 (by first | rfl | (simp only [sX2_exists, if_neg c_1, if_pos c_2]; first | rfl | done)) ⟨(by first | rfl | (simp only [sX2_exists, if_neg c_1, if_pos c_2]; first | rfl | done)), (by first | rfl | (simp only [sX2_exists, if_neg c_1, if_pos c_2]; first | rfl | done))⟩
    · -- 9 F
      refine lv_iconst (v := 1) hx hb dX2_exists_12 (by decide) ?_
      refine lv_goto (tgt := 17) hx hb dX2_exists_13 (by decide) ?_
      exact ret_Z (sX2_exists n x) C S hr dX2_exists_17 (by first | rfl | (simp only [sX2_exists, if_neg c_1, if_neg c_2]; first | rfl | done)) ⟨(by first | rfl | (simp only [sX2_exists, if_neg c_1, if_neg c_2]; first | rfl | done)), (by first | rfl | (simp only [sX2_exists, if_neg c_1, if_neg c_2]; first | rfl | done))⟩

theorem inX2_isWhole_X2 : ∀ w ∈ wsX20, w ∈ wsX2_isWhole := by decide +kernel
set_option maxRecDepth 100000 in
set_option maxHeartbeats 4000000 in
theorem kX2_isWhole (l : Launch) (g : GG) (h : Nat) (q : Nat) (f : Nat → Int32) (n : Nat) (ww : Nat) (i : Nat) (hw : ww < 512) (hi : i < 31) : KI l g yX2_isWhole wsX2_isWhole 1 21 [.ref h, .int (nI i)] [(h, ob 2 [.ref q, .int (nI n), .int (nI ww)]), (q, aI g 32 f)] (fun (r : Int32) (w' : va_W) => r = (bI (ww.testBit i)) ∧ w' = [(h, ob 2 [.ref q, .int (nI n), .int (nI ww)]), (q, aI g 32 f)]) := by
  refine kI_of (cc := cX2_isWhole) (maxL := 2) (by decide) rfl (Nat.le_of_ble_eq_true rfl) ?_
  intro pp ee ss mm bel mth cd A ls C S hr hl
  obtain ⟨hx, hb, hml, hown, hts⟩ := id C.1
  have hl : lv_has ls 2 [(0, .ref h), (1, .int (nI i))] := hl
  obtain ⟨H, hH⟩ : ∃ H, H = ss.heap := ⟨_, rfl⟩
  obtain ⟨locs, hL0⟩ : ∃ L : List Loc, L = [] := ⟨_, rfl⟩
  rw [← hH, ← hL0] at S ⊢
  refine lv_aload_n hx hb dX2_isWhole_0 rfl (lv_at hl 0 rfl) ?_
  refine top_get C S inX2_isWhole_X2 rfl 0 rfl 2 (by decide) (by decide +kernel) rfl rfl dX2_isWhole_1 ?_
  refine lv_iload_n hx hb dX2_isWhole_4 rfl (lv_at hl 1 rfl) ?_
  refine after_I (wc := []) (y := yX6_holds) C S (va_runSN (As := [.int (nI ww), .int (nI i)]) (rest := []) C.1 (kX6_holds l g ww i (by first | assumption | omega) (by first | assumption | omega) H.size) ⟨va_cnB 2 hts gX2_isWhole_X6_holds_n28 rfl rfl rfl (C.2.2.1.1.2 ("StackedLeaves$Leaves", 28, yX6_holds) (by decide +kernel)) (hts (.initialized RX6) (by decide +kernel)) (by decide +kernel) ⟨Nat.le_of_ble_eq_true rfl, Nat.le_of_ble_eq_true rfl⟩, hts (.static yX6_holds) (by decide +kernel), trivial⟩ (preS_at C S [] rfl (by decide)) rfl rfl hl.1 rfl (lv_room (Nat.le_of_ble_eq_true rfl)) dX2_isWhole_5 ⟨Nat.le_of_ble_eq_true rfl, Nat.le_of_ble_eq_true rfl⟩) [] [0, 1] rfl (wr := [(h, ob 2 [.ref q, .int (nI n), .int (nI ww)]), (q, aI g 32 f)]) rfl (by decide) (by decide) (fun r0 w0 H locs hq S => ?_)
  obtain ⟨rfl, rfl⟩ := hq
  have S : ST g A ss H locs [(h, ob 2 [.ref q, .int (nI n), .int (nI ww)]), (q, aI g 32 f)] := S
  exact ret_Z (ww.testBit i) C S hr dX2_isWhole_8 (rfl) ⟨(rfl), (rfl)⟩

theorem inX2_number_X2 : ∀ w ∈ wsX20, w ∈ wsX2_number := by decide +kernel
set_option maxRecDepth 100000 in
set_option maxHeartbeats 4000000 in
theorem kX2_number (l : Launch) (g : GG) (h : Nat) (q : Nat) (f : Nat → Int32) (n : Nat) (ww : Nat) (a : Nat) (b : Nat) (ha : a < 4) (hb1 : b < 8) : KI l g yX2_number wsX2_number 0 0 [.ref h, .int (nI a), .int (nI b)] [(h, ob 2 [.ref q, .int (nI n), .int (nI ww)]), (q, aI g 32 f)] (fun (r : Int32) (w' : va_W) => r = (f (a * 8 + b)) ∧ w' = [(h, ob 2 [.ref q, .int (nI n), .int (nI ww)]), (q, aI g 32 f)]) := by
  refine kI_of (cc := cX2_number) (maxL := 3) (by decide) rfl (Nat.le_of_ble_eq_true rfl) ?_
  intro pp ee ss mm bel mth cd A ls C S hr hl
  obtain ⟨hx, hb, hml, hown, hts⟩ := id C.1
  have hl : lv_has ls 3 [(0, .ref h), (1, .int (nI a)), (2, .int (nI b))] := hl
  obtain ⟨H, hH⟩ : ∃ H, H = ss.heap := ⟨_, rfl⟩
  obtain ⟨locs, hL0⟩ : ∃ L : List Loc, L = [] := ⟨_, rfl⟩
  rw [← hH, ← hL0] at S ⊢
  refine lv_aload_n hx hb dX2_number_0 rfl (lv_at hl 0 rfl) ?_
  refine top_get C S inX2_number_X2 rfl 0 rfl 0 (by decide) (by decide +kernel) rfl rfl dX2_number_1 ?_
  refine lv_iload_n hx hb dX2_number_4 rfl (lv_at hl 1 rfl) ?_
  refine lv_bipush (v := 8) hx hb dX2_number_5 (by decide) ?_
  refine lv_imul hx hb dX2_number_7 ?_
  refine top_eq (y := nI (a * 8)) (pk_mul _ _) ?_
  refine lv_iload_n hx hb dX2_number_8 rfl (lv_at hl 2 rfl) ?_
  refine lv_iadd hx hb dX2_number_9 ?_
  refine top_eq (y := nI ((a * 8) + b)) (nI_add _ _) ?_
  refine top_ild C S 1 rfl (j := ((a * 8) + b)) rfl (by omega) (by decide) dX2_number_10 ?_
  exact ret_I C S hr dX2_number_11 ⟨(by first | rfl | simp only []), (by first | rfl | simp only [])⟩

theorem inX2_put_X2 : ∀ w ∈ wsX20, w ∈ wsX2_put := by decide +kernel
set_option maxRecDepth 100000 in
set_option maxHeartbeats 4000000 in
theorem kX2_put (l : Launch) (g : GG) (h : Nat) (q : Nat) (f : Nat → Int32) (n : Nat) (ww : Nat) (a : Nat) (b : Nat) (v : Int32) (ha : a < 4) (hb1 : b < 8) : KV l g yX2_put wsX2_put 0 0 [.ref h, .int (nI a), .int (nI b), .int v] [(h, ob 2 [.ref q, .int (nI n), .int (nI ww)]), (q, aI g 32 f)] (fun (w' : va_W) => w' = [(h, ob 2 [.ref q, .int (nI n), .int (nI ww)]), (q, aI g 32 (upd f (a * 8 + b) v))]) := by
  refine kV_of (cc := cX2_put) (maxL := 4) (by decide) rfl (Nat.le_of_ble_eq_true rfl) ?_
  intro pp ee ss mm bel mth cd A ls C S hr hl
  obtain ⟨hx, hb, hml, hown, hts⟩ := id C.1
  have hl : lv_has ls 4 [(0, .ref h), (1, .int (nI a)), (2, .int (nI b)), (3, .int v)] := hl
  obtain ⟨H, hH⟩ : ∃ H, H = ss.heap := ⟨_, rfl⟩
  obtain ⟨locs, hL0⟩ : ∃ L : List Loc, L = [] := ⟨_, rfl⟩
  rw [← hH, ← hL0] at S ⊢
  refine lv_aload_n hx hb dX2_put_0 rfl (lv_at hl 0 rfl) ?_
  refine top_get C S inX2_put_X2 rfl 0 rfl 0 (by decide) (by decide +kernel) rfl rfl dX2_put_1 ?_
  refine lv_iload_n hx hb dX2_put_4 rfl (lv_at hl 1 rfl) ?_
  refine lv_bipush (v := 8) hx hb dX2_put_5 (by decide) ?_
  refine lv_imul hx hb dX2_put_7 ?_
  refine top_eq (y := nI (a * 8)) (pk_mul _ _) ?_
  refine lv_iload_n hx hb dX2_put_8 rfl (lv_at hl 2 rfl) ?_
  refine lv_iadd hx hb dX2_put_9 ?_
  refine top_eq (y := nI ((a * 8) + b)) (nI_add _ _) ?_
  refine lv_iload_n hx hb dX2_put_10 rfl (lv_at hl 3 rfl) ?_
  refine top_ist C S 1 rfl (j := ((a * 8) + b)) rfl (by omega) (by decide) dX2_put_11 (fun H locs S => ?_)
  have S : ST g A ss H locs [(h, ob 2 [.ref q, .int (nI n), .int (nI ww)]), (q, aI g 32 (upd f ((a * 8) + b) v))] := S
  exact ret_V C S hr dX2_put_12 (by first | rfl | simp only [])

theorem inX2_empty_X2 : ∀ w ∈ wsX20, w ∈ wsX2_empty := by decide +kernel
set_option maxRecDepth 100000 in
set_option maxHeartbeats 4000000 in
theorem kX2_empty (l : Launch) (g : GG) (h : Nat) (q : Nat) (f : Nat → Int32) (n : Nat) (ww : Nat)  : KV l g yX2_empty wsX2_empty 0 0 [.ref h] [(h, ob 2 [.ref q, .int (nI n), .int (nI ww)]), (q, aI g 32 f)] (fun (w' : va_W) => w' = [(h, ob 2 [.ref q, .int (nI 0), .int (nI 0)]), (q, aI g 32 f)]) := by
  refine kV_of (cc := cX2_empty) (maxL := 1) (by decide) rfl (Nat.le_of_ble_eq_true rfl) ?_
  intro pp ee ss mm bel mth cd A ls C S hr hl
  obtain ⟨hx, hb, hml, hown, hts⟩ := id C.1
  have hl : lv_has ls 1 [(0, .ref h)] := hl
  obtain ⟨H, hH⟩ : ∃ H, H = ss.heap := ⟨_, rfl⟩
  obtain ⟨locs, hL0⟩ : ∃ L : List Loc, L = [] := ⟨_, rfl⟩
  rw [← hH, ← hL0] at S ⊢
  refine lv_aload_n hx hb dX2_empty_0 rfl (lv_at hl 0 rfl) ?_
  refine lv_iconst (v := 0) hx hb dX2_empty_1 (by decide) ?_
  refine top_put (ty := .int) C S inX2_empty_X2 tyX2 tyX2_ok nmX2 rfl 0 rfl 1 (by decide) (by decide +kernel) rfl rfl (tyX2_ok 1 (by decide)) rfl rfl (Nat.le_of_ble_eq_true rfl) dX2_empty_2 (fun H locs S => ?_)
  have S : ST g A ss H locs [(h, ob 2 [.ref q, .int 0, .int (nI ww)]), (q, aI g 32 f)] := S
  refine lv_aload_n hx hb dX2_empty_5 rfl (lv_at hl 0 rfl) ?_
  refine lv_iconst (v := 0) hx hb dX2_empty_6 (by decide) ?_
  refine top_put (ty := .int) C S inX2_empty_X2 tyX2 tyX2_ok nmX2 rfl 0 rfl 2 (by decide) (by decide +kernel) rfl rfl (tyX2_ok 2 (by decide)) rfl rfl (Nat.le_of_ble_eq_true rfl) dX2_empty_7 (fun H locs S => ?_)
  have S : ST g A ss H locs [(h, ob 2 [.ref q, .int 0, .int 0]), (q, aI g 32 f)] := S
  exact ret_V C S hr dX2_empty_10 (by first | rfl | simp only [])

theorem inX2_appendWhole_X2 : ∀ w ∈ wsX20, w ∈ wsX2_appendWhole := by decide +kernel
set_option maxRecDepth 100000 in
set_option maxHeartbeats 4000000 in
theorem kX2_appendWhole (l : Launch) (g : GG) (h : Nat) (q : Nat) (f : Nat → Int32) (n : Nat) (ww : Nat) (hn : n < 8) (hw : ww < 512) : KV l g yX2_appendWhole wsX2_appendWhole 0 0 [.ref h] [(h, ob 2 [.ref q, .int (nI n), .int (nI ww)]), (q, aI g 32 f)] (fun (w' : va_W) => w' = [(h, ob 2 [.ref q, .int (nI (n + 1)), .int (nI (ww ||| 2 ^ n))]), (q, aI g 32 f)]) := by
  refine kV_of (cc := cX2_appendWhole) (maxL := 1) (by decide) rfl (Nat.le_of_ble_eq_true rfl) ?_
  intro pp ee ss mm bel mth cd A ls C S hr hl
  obtain ⟨hx, hb, hml, hown, hts⟩ := id C.1
  have hl : lv_has ls 1 [(0, .ref h)] := hl
  obtain ⟨H, hH⟩ : ∃ H, H = ss.heap := ⟨_, rfl⟩
  obtain ⟨locs, hL0⟩ : ∃ L : List Loc, L = [] := ⟨_, rfl⟩
  rw [← hH, ← hL0] at S ⊢
  refine lv_aload_n hx hb dX2_appendWhole_0 rfl (lv_at hl 0 rfl) ?_
  refine top_get C S inX2_appendWhole_X2 rfl 0 rfl 1 (by decide) (by decide +kernel) rfl rfl dX2_appendWhole_1 ?_
  refine lv_bipush (v := 8) hx hb dX2_appendWhole_4 (by decide) ?_
  refine bn_ige (tgt := 34) (a := n) (b := 8) hx hb rfl rfl (by omega) (by omega) dX2_appendWhole_6 (by decide) (fun c_1 => ?_) (fun c_1 => ?_)
  · -- 6 T
    exact absurd c_1 (by omega)
  · -- 6 F
    refine lv_aload_n hx hb dX2_appendWhole_9 rfl (lv_at hl 0 rfl) ?_
    refine lv_dup hx hb dX2_appendWhole_10 rfl ?_
    refine top_get C S inX2_appendWhole_X2 rfl 0 rfl 2 (by decide) (by decide +kernel) rfl rfl dX2_appendWhole_11 ?_
    refine lv_iconst (v := 1) hx hb dX2_appendWhole_14 (by decide) ?_
    refine lv_aload_n hx hb dX2_appendWhole_15 rfl (lv_at hl 0 rfl) ?_
    refine top_get C S inX2_appendWhole_X2 rfl 0 rfl 1 (by decide) (by decide +kernel) rfl rfl dX2_appendWhole_16 ?_
    refine lv_ishl hx hb dX2_appendWhole_19 ?_
    refine top_eq (y := nI (2 ^ n)) (shl_1 (by omega)) ?_
    refine lv_ior hx hb dX2_appendWhole_20 ?_
    refine top_eq (y := nI (ww ||| 2 ^ n)) (fa_or _ _) ?_
    refine top_put (ty := .int) C S inX2_appendWhole_X2 tyX2 tyX2_ok nmX2 rfl 0 rfl 2 (by decide) (by decide +kernel) rfl rfl (tyX2_ok 2 (by decide)) rfl rfl (Nat.le_of_ble_eq_true rfl) dX2_appendWhole_21 (fun H locs S => ?_)
    have S : ST g A ss H locs [(h, ob 2 [.ref q, .int (nI n), .int (nI (ww ||| 2 ^ n))]), (q, aI g 32 f)] := S
    refine lv_aload_n hx hb dX2_appendWhole_24 rfl (lv_at hl 0 rfl) ?_
    refine lv_dup hx hb dX2_appendWhole_25 rfl ?_
    refine top_get C S inX2_appendWhole_X2 rfl 0 rfl 1 (by decide) (by decide +kernel) rfl rfl dX2_appendWhole_26 ?_
    refine lv_iconst (v := 1) hx hb dX2_appendWhole_29 (by decide) ?_
    refine lv_iadd hx hb dX2_appendWhole_30 ?_
    refine top_eq (y := nI (n + 1)) (nI_add _ _) ?_
    refine top_put (ty := .int) C S inX2_appendWhole_X2 tyX2 tyX2_ok nmX2 rfl 0 rfl 1 (by decide) (by decide +kernel) rfl rfl (tyX2_ok 1 (by decide)) rfl rfl (Nat.le_of_ble_eq_true rfl) dX2_appendWhole_31 (fun H locs S => ?_)
    have S : ST g A ss H locs [(h, ob 2 [.ref q, .int (nI (n + 1)), .int (nI (ww ||| 2 ^ n))]), (q, aI g 32 f)] := S
    exact ret_V C S hr dX2_appendWhole_34 (by first | rfl | simp only [if_neg c_1])

def sX2_mostOfNext (f : Nat → Int32) (n : Nat) (a : Nat) : Int32 := if a = 0 then (if n ≤ 0 then (fMo a) else (f (0 * 8 + (n - 1)))) else (fMo a)
theorem inX2_mostOfNext_X2 : ∀ w ∈ wsX20, w ∈ wsX2_mostOfNext := by decide +kernel
set_option maxRecDepth 100000 in
set_option maxHeartbeats 4000000 in
theorem kX2_mostOfNext (l : Launch) (g : GG) (h : Nat) (q : Nat) (f : Nat → Int32) (n : Nat) (ww : Nat) (a : Nat) (ha : a < 4) (hn : n ≤ 8) : KI l g yX2_mostOfNext wsX2_mostOfNext 1 22 [.ref h, .int (nI a)] [(h, ob 2 [.ref q, .int (nI n), .int (nI ww)]), (q, aI g 32 f)] (fun (r : Int32) (w' : va_W) => r = (sX2_mostOfNext f n a) ∧ w' = [(h, ob 2 [.ref q, .int (nI n), .int (nI ww)]), (q, aI g 32 f)]) := by
  refine kI_of (cc := cX2_mostOfNext) (maxL := 2) (by decide) rfl (Nat.le_of_ble_eq_true rfl) ?_
  intro pp ee ss mm bel mth cd A ls C S hr hl
  obtain ⟨hx, hb, hml, hown, hts⟩ := id C.1
  have hl : lv_has ls 2 [(0, .ref h), (1, .int (nI a))] := hl
  obtain ⟨H, hH⟩ : ∃ H, H = ss.heap := ⟨_, rfl⟩
  obtain ⟨locs, hL0⟩ : ∃ L : List Loc, L = [] := ⟨_, rfl⟩
  rw [← hH, ← hL0] at S ⊢
  refine lv_iload_n hx hb dX2_mostOfNext_0 rfl (lv_at hl 1 rfl) ?_
  refine bn_zne (tgt := 25) (a := a) hx hb rfl (by omega) dX2_mostOfNext_1 (by decide) (fun c_1 => ?_) (fun c_1 => ?_)
  · -- 1 T
    obtain ⟨tMo, ztMo, htMo⟩ := C.2.2.1.2.2
    refine va_getsN hx hb ztMo S.2.2 hown (va_Nw.use rfl (C.2.2.1.1.1 ("StackedLeaves$Leaves", 36, "StackedLeaves", "MOST_NUMBER", "[I") (by decide +kernel))) (fun _ h9 => h9) dX2_mostOfNext_25 ?_
    refine lv_iload_n hx hb dX2_mostOfNext_28 rfl (lv_at hl 1 rfl) ?_
    refine top_tab C S htMo (j := a) rfl (by omega) dX2_mostOfNext_29 ?_
    exact ret_I C S hr dX2_mostOfNext_30 ⟨(by first | rfl | simp only [sX2_mostOfNext, if_neg c_1]), (by first | rfl | simp only [sX2_mostOfNext, if_neg c_1])⟩
  · -- 1 F
    refine lv_aload_n hx hb dX2_mostOfNext_4 rfl (lv_at hl 0 rfl) ?_
    refine top_get C S inX2_mostOfNext_X2 rfl 0 rfl 1 (by decide) (by decide +kernel) rfl rfl dX2_mostOfNext_5 ?_
    refine bn_zle (tgt := 25) (a := n) hx hb rfl (by omega) dX2_mostOfNext_8 (by decide) (fun c_2 => ?_) (fun c_2 => ?_)
    · -- 8 T
      obtain ⟨tMo, ztMo, htMo⟩ := C.2.2.1.2.2
      refine va_getsN hx hb ztMo S.2.2 hown (va_Nw.use rfl (C.2.2.1.1.1 ("StackedLeaves$Leaves", 36, "StackedLeaves", "MOST_NUMBER", "[I") (by decide +kernel))) (fun _ h9 => h9) dX2_mostOfNext_25 ?_
      refine lv_iload_n hx hb dX2_mostOfNext_28 rfl (lv_at hl 1 rfl) ?_
      refine top_tab C S htMo (j := a) rfl (by omega) dX2_mostOfNext_29 ?_
      exact ret_I C S hr dX2_mostOfNext_30 ⟨(by first | rfl | simp only [sX2_mostOfNext, if_pos c_1, if_pos c_2]), (by first | rfl | simp only [sX2_mostOfNext, if_pos c_1, if_pos c_2])⟩
    · -- 8 F
      refine lv_aload_n hx hb dX2_mostOfNext_11 rfl (lv_at hl 0 rfl) ?_
      refine lv_iconst (v := 0) hx hb dX2_mostOfNext_12 (by decide) ?_
      refine lv_aload_n hx hb dX2_mostOfNext_13 rfl (lv_at hl 0 rfl) ?_
      refine top_get C S inX2_mostOfNext_X2 rfl 0 rfl 1 (by decide) (by decide +kernel) rfl rfl dX2_mostOfNext_14 ?_
      refine lv_iconst (v := 1) hx hb dX2_mostOfNext_17 (by decide) ?_
      refine lv_isub hx hb dX2_mostOfNext_18 ?_
      refine top_eq (y := nI (n - 1)) (pk_sub (a := n) (b := 1) (by omega)) ?_
      refine after_I (wc := [(h, ob 2 [.ref q, .int (nI n), .int (nI ww)]), (q, aI g 32 f)]) (y := yX2_number) C S (va_runV (As := [.int 0, .int (nI (n - 1))]) (rest := []) C.1 (kX2_number l g h q f n ww 0 (n - 1) (by first | assumption | omega) (by first | assumption | omega) H.size) (cwV 2 hts gX2_mostOfNext_X2_number rfl rfl rfl (by decide +kernel) ⟨Nat.le_of_ble_eq_true rfl, Nat.le_of_ble_eq_true rfl⟩) (preV_at C S 0 rfl rfl [0, 1] rfl (by decide)) rfl rfl hl.1 rfl (lv_room (Nat.le_of_ble_eq_true rfl)) dX2_mostOfNext_19 ⟨Nat.le_of_ble_eq_true rfl, Nat.le_of_ble_eq_true rfl⟩) [0, 1] [] rfl (wr := []) rfl (by decide) (by decide) (fun r0 w0 H locs hq S => ?_)
      obtain ⟨rfl, rfl⟩ := hq
      have S : ST g A ss H locs [(h, ob 2 [.ref q, .int (nI n), .int (nI ww)]), (q, aI g 32 f)] := S
      refine lv_goto (tgt := 30) hx hb dX2_mostOfNext_22 (by decide) ?_
      exact ret_I C S hr dX2_mostOfNext_30 ⟨(by first | rfl | simp only [sX2_mostOfNext, if_pos c_1, if_neg c_2]), (by first | rfl | simp only [sX2_mostOfNext, if_pos c_1, if_neg c_2])⟩

set_option maxRecDepth 100000 in
set_option maxHeartbeats 4000000 in
theorem kX2_nipn (l : Launch) (g : GG) (h : Nat) (q : Nat) (f : Nat → Int32) (n : Nat) (ww : Nat) (b : Nat)  : KI l g yX2_nip wsX2_nip 0 0 [.ref h, .int (-1), .int (nI b)] [(h, ob 2 [.ref q, .int (nI n), .int (nI ww)]), (q, aI g 32 f)] (fun (r : Int32) (w' : va_W) => r = (nI 0) ∧ w' = [(h, ob 2 [.ref q, .int (nI n), .int (nI ww)]), (q, aI g 32 f)]) := by
  refine kI_of (cc := cX2_nip) (maxL := 3) (by decide) rfl (Nat.le_of_ble_eq_true rfl) ?_
  intro pp ee ss mm bel mth cd A ls C S hr hl
  obtain ⟨hx, hb, hml, hown, hts⟩ := id C.1
  have hl : lv_has ls 3 [(0, .ref h), (1, .int (-1)), (2, .int (nI b))] := hl
  obtain ⟨H, hH⟩ : ∃ H, H = ss.heap := ⟨_, rfl⟩
  obtain ⟨locs, hL0⟩ : ∃ L : List Loc, L = [] := ⟨_, rfl⟩
  rw [← hH, ← hL0] at S ⊢
  refine lv_iload_n hx hb dX2_nip_0 rfl (lv_at hl 1 rfl) ?_
  refine lv_if_ge (tgt := 8) hx hb dX2_nip_1 (by decide) (fun c_1 => ?_) (fun c_1 => ?_)
  · -- 1 T
    exact absurd c_1 (by decide)
  · -- 1 F
    refine lv_iconst (v := 0) hx hb dX2_nip_4 (by decide) ?_
    refine lv_goto (tgt := 25) hx hb dX2_nip_5 (by decide) ?_
    exact ret_I C S hr dX2_nip_25 ⟨(by first | rfl | simp only [if_neg c_1]), (by first | rfl | simp only [if_neg c_1])⟩

set_option maxRecDepth 100000 in
set_option maxHeartbeats 4000000 in
theorem kX2_nips (l : Launch) (g : GG) (h : Nat) (q : Nat) (f : Nat → Int32) (n : Nat) (ww : Nat) (nu : Nat → Nat → Nat) (j : Nat) (b : Nat) (hn : n ≤ 8) (hf : ∀ a i, a < 4 → i < n → f (a * 8 + i) = nI (nu a i)) (hca : ∀ i, i < n → nu 2 i ≤ 30) (hj : j < n) (hb1 : b < n) : KI l g yX2_nip wsX2_nip 1 22 [.ref h, .int (nI j), .int (nI b)] [(h, ob 2 [.ref q, .int (nI n), .int (nI ww)]), (q, aI g 32 f)] (fun (r : Int32) (w' : va_W) => r = (nI (nu 2 j - nu 2 b)) ∧ w' = [(h, ob 2 [.ref q, .int (nI n), .int (nI ww)]), (q, aI g 32 f)]) := by
  refine kI_of (cc := cX2_nip) (maxL := 3) (by decide) rfl (Nat.le_of_ble_eq_true rfl) ?_
  intro pp ee ss mm bel mth cd A ls C S hr hl
  obtain ⟨hx, hb, hml, hown, hts⟩ := id C.1
  have hl : lv_has ls 3 [(0, .ref h), (1, .int (nI j)), (2, .int (nI b))] := hl
  obtain ⟨H, hH⟩ : ∃ H, H = ss.heap := ⟨_, rfl⟩
  obtain ⟨locs, hL0⟩ : ∃ L : List Loc, L = [] := ⟨_, rfl⟩
  rw [← hH, ← hL0] at S ⊢
  have hc1 := hca j hj
  have hc2 := hca b hb1
  refine lv_iload_n hx hb dX2_nip_0 rfl (lv_at hl 1 rfl) ?_
  refine bn_zge (tgt := 8) (a := j) hx hb rfl (by omega) dX2_nip_1 (by decide) (fun c_1 => ?_) (fun c_1 => ?_)
  · -- 1 T
    refine lv_iconst (v := 0) hx hb dX2_nip_8 (by decide) ?_
    refine lv_aload_n hx hb dX2_nip_9 rfl (lv_at hl 0 rfl) ?_
    refine lv_iconst (v := 2) hx hb dX2_nip_10 (by decide) ?_
    refine lv_iload_n hx hb dX2_nip_11 rfl (lv_at hl 1 rfl) ?_
    refine after_I (wc := [(h, ob 2 [.ref q, .int (nI n), .int (nI ww)]), (q, aI g 32 f)]) (y := yX2_number) C S (va_runV (As := [.int 2, .int (nI j)]) (rest := [.int 0]) C.1 (kX2_number l g h q f n ww 2 j (by first | assumption | omega) (by first | assumption | omega) H.size) (cwV 2 hts gX2_nip_X2_number rfl rfl rfl (by decide +kernel) ⟨Nat.le_of_ble_eq_true rfl, Nat.le_of_ble_eq_true rfl⟩) (preV_at C S 0 rfl rfl [0, 1] rfl (by decide)) rfl rfl hl.1 rfl (lv_room (Nat.le_of_ble_eq_true rfl)) dX2_nip_12 ⟨Nat.le_of_ble_eq_true rfl, Nat.le_of_ble_eq_true rfl⟩) [0, 1] [] rfl (wr := []) rfl (by decide) (by decide) (fun r0 w0 H locs hq S => ?_)
    obtain ⟨rfl, rfl⟩ := hq
    have S : ST g A ss H locs [(h, ob 2 [.ref q, .int (nI n), .int (nI ww)]), (q, aI g 32 f)] := S
    refine top_eq (y := nI (nu 2 j)) (hf _ _ (by omega) (by omega)) ?_
    refine lv_aload_n hx hb dX2_nip_15 rfl (lv_at hl 0 rfl) ?_
    refine lv_iconst (v := 2) hx hb dX2_nip_16 (by decide) ?_
    refine lv_iload_n hx hb dX2_nip_17 rfl (lv_at hl 2 rfl) ?_
    refine after_I (wc := [(h, ob 2 [.ref q, .int (nI n), .int (nI ww)]), (q, aI g 32 f)]) (y := yX2_number) C S (va_runV (As := [.int 2, .int (nI b)]) (rest := [.int (nI (nu 2 j)), .int 0]) C.1 (kX2_number l g h q f n ww 2 b (by first | assumption | omega) (by first | assumption | omega) H.size) (cwV 2 hts gX2_nip_X2_number rfl rfl rfl (by decide +kernel) ⟨Nat.le_of_ble_eq_true rfl, Nat.le_of_ble_eq_true rfl⟩) (preV_at C S 0 rfl rfl [0, 1] rfl (by decide)) rfl rfl hl.1 rfl (lv_room (Nat.le_of_ble_eq_true rfl)) dX2_nip_18 ⟨Nat.le_of_ble_eq_true rfl, Nat.le_of_ble_eq_true rfl⟩) [0, 1] [] rfl (wr := []) rfl (by decide) (by decide) (fun r0 w0 H locs hq S => ?_)
    obtain ⟨rfl, rfl⟩ := hq
    have S : ST g A ss H locs [(h, ob 2 [.ref q, .int (nI n), .int (nI ww)]), (q, aI g 32 f)] := S
    refine top_eq (y := nI (nu 2 b)) (hf _ _ (by omega) (by omega)) ?_
    refine lv_isub hx hb dX2_nip_21 ?_
    refine va_mmax hx hb (hml.trans hl.1.symm) hown (hts (.methodLink RX2 39 Lib.Math.max.name) (by decide +kernel)) (hts (.static Lib.Math.max.name) (by decide +kernel)) (hts (.initialized "java/lang/Math") (by decide +kernel)) (hts (.code Lib.Math.max.name Lib.Math.max.code 2 (some .int)) (by decide +kernel)) (Nat.le_of_ble_eq_true rfl) (Nat.le_of_ble_eq_true rfl) (Nat.le_of_ble_eq_true rfl) (Nat.le_of_ble_eq_true rfl) dX2_nip_22 ?_
    refine top_eq (y := imax 0 ((nI (nu 2 j)) - (nI (nu 2 b)))) rfl ?_
    refine top_eq (y := nI (nu 2 j - nu 2 b)) (max_0 (by omega) (by omega)) ?_
    exact ret_I C S hr dX2_nip_25 ⟨(by first | rfl | simp only [if_pos c_1]), (by first | rfl | simp only [if_pos c_1])⟩
  · -- 1 F
    exact absurd (Nat.zero_le _) c_1

theorem inX2_sum_X2 : ∀ w ∈ wsX20, w ∈ wsX2_sum := by decide +kernel
set_option maxRecDepth 100000 in
set_option maxHeartbeats 4000000 in
theorem kX2_sum (l : Launch) (g : GG) (h : Nat) (q : Nat) (f : Nat → Int32) (n : Nat) (ww : Nat) (nu : Nat → Nat → Nat) (a : Nat) (b : Nat) (hn : n ≤ 8) (hf : ∀ a i, a < 4 → i < n → f (a * 8 + i) = nI (nu a i)) (ha : a < 4) (hb1 : b < 512) : KI l g yX2_sum wsX2_sum 1 22 [.ref h, .int (nI a), .int (nI b)] [(h, ob 2 [.ref q, .int (nI n), .int (nI ww)]), (q, aI g 32 f)] (fun (r : Int32) (w' : va_W) => r = (nI (sumN (nu a) b n)) ∧ w' = [(h, ob 2 [.ref q, .int (nI n), .int (nI ww)]), (q, aI g 32 f)]) := by
  refine kI_of (cc := cX2_sum) (maxL := 5) (by decide) rfl (Nat.le_of_ble_eq_true rfl) ?_
  intro pp ee ss mm bel mth cd A ls C S hr hl
  obtain ⟨hx, hb, hml, hown, hts⟩ := id C.1
  have hl : lv_has ls 5 [(0, .ref h), (1, .int (nI a)), (2, .int (nI b))] := hl
  obtain ⟨H, hH⟩ : ∃ H, H = ss.heap := ⟨_, rfl⟩
  obtain ⟨locs, hL0⟩ : ∃ L : List Loc, L = [] := ⟨_, rfl⟩
  rw [← hH, ← hL0] at S ⊢
  refine lv_iconst (v := 0) hx hb dX2_sum_0 (by decide) ?_
  refine lv_istore_n (lv' := [(3, .int 0), (0, .ref h), (1, .int (nI a)), (2, .int (nI b))]) hx hb dX2_sum_1 rfl hl (by decide) rfl (fun ls hl => ?_)
  refine lv_iconst (v := 0) hx hb dX2_sum_2 (by decide) ?_
  refine lv_istore (lv' := [(4, .int 0), (3, .int 0), (0, .ref h), (1, .int (nI a)), (2, .int (nI b))]) hx hb dX2_sum_3 hl (by decide) rfl (fun ls hl => ?_)
  have loop5 : ∀ (N0 : Nat) (i : Nat) (x : Nat), n - i < N0 → (i ≤ n) → (x = sumN (nu a) b i) → ∀ (H : Heap) (locs : List Loc) (ls : Array Slot), ST g A ss H locs [(h, ob 2 [.ref q, .int (nI n), .int (nI ww)]), (q, aI g 32 f)] → lv_has ls 5 [(4, .int (nI i)), (3, .int (nI x)), (0, .ref h), (1, .int (nI a)), (2, .int (nI b))] → W pp l ee { frames := 1, cells := 0, slots := 0, locals := 22 } ss mm ([.ref h, .int (nI a), .int (nI b)] : List Value).toArray bel mth cd H locs 0 0 (QI bel ([.ref h, .int (nI a), .int (nI b)] : List Value).toArray ss g A (fun (r : Int32) (w' : va_W) => r = (nI (sumN (nu a) b n)) ∧ w' = [(h, ob 2 [.ref q, .int (nI n), .int (nI ww)]), (q, aI g 32 f)])) (F0 mm 5 ls []) := by
    intro N0
    induction N0 with
    | zero => intro i x hN; exact absurd hN (Nat.not_lt_zero _)
    | succ N0 ih5 =>
      intro i x hN hi hx1 H locs ls S hl
      refine lv_iload hx hb dX2_sum_5 (lv_at hl 0 rfl) ?_
      refine lv_aload_n hx hb dX2_sum_7 rfl (lv_at hl 2 rfl) ?_
      refine top_get C S inX2_sum_X2 rfl 0 rfl 1 (by decide) (by decide +kernel) rfl rfl dX2_sum_8 ?_
      refine bn_ige (tgt := 39) (a := i) (b := n) hx hb rfl rfl (by omega) (by omega) dX2_sum_11 (by decide) (fun c_1 => ?_) (fun c_1 => ?_)
      · -- 11 T
        refine lv_iload_n hx hb dX2_sum_39 rfl (lv_at hl 1 rfl) ?_
        exact ret_I C S hr dX2_sum_40 ⟨(by rw [hx1, show i = n by omega]), (rfl)⟩
      · -- 11 F
        refine lv_iload_n hx hb dX2_sum_14 rfl (lv_at hl 4 rfl) ?_
        refine lv_iload hx hb dX2_sum_15 (lv_at hl 0 rfl) ?_
        refine after_I (wc := []) (y := yX6_holds) C S (va_runSN (As := [.int (nI b), .int (nI i)]) (rest := []) C.1 (kX6_holds l g b i (by first | assumption | omega) (by first | assumption | omega) H.size) ⟨va_cnB 2 hts gX2_sum_X6_holds_n28 rfl rfl rfl (C.2.2.1.1.2 ("StackedLeaves$Leaves", 28, yX6_holds) (by decide +kernel)) (hts (.initialized RX6) (by decide +kernel)) (by decide +kernel) ⟨Nat.le_of_ble_eq_true rfl, Nat.le_of_ble_eq_true rfl⟩, hts (.static yX6_holds) (by decide +kernel), trivial⟩ (preS_at C S [] rfl (by decide)) rfl rfl hl.1 rfl (lv_room (Nat.le_of_ble_eq_true rfl)) dX2_sum_17 ⟨Nat.le_of_ble_eq_true rfl, Nat.le_of_ble_eq_true rfl⟩) [] [0, 1] rfl (wr := [(h, ob 2 [.ref q, .int (nI n), .int (nI ww)]), (q, aI g 32 f)]) rfl (by decide) (by decide) (fun r0 w0 H locs hq S => ?_)
        obtain ⟨rfl, rfl⟩ := hq
        have S : ST g A ss H locs [(h, ob 2 [.ref q, .int (nI n), .int (nI ww)]), (q, aI g 32 f)] := S
        refine br_eqB (tgt := 33) hx hb dX2_sum_20 (by decide) (fun c_2 => ?_) (fun c_2 => ?_)
        · -- 20 T
          refine lv_iinc (v := nI (i + 1)) (lv' := [(4, .int (nI (i + 1))), (3, .int (nI x)), (0, .ref h), (1, .int (nI a)), (2, .int (nI b))]) hx hb dX2_sum_33 hl (k := 0) rfl (nI_add _ _) (by decide) rfl (fun ls hl => ?_)
          refine lv_goto (tgt := 5) hx hb dX2_sum_36 (by decide) ?_
          exact ih5 (i + 1) x (by omega) (by first | assumption | omega) (by simp only [sumN, hx1, if_neg c_1, if_neg (Bool.eq_false_iff.mp c_2)]) H locs ls (ST.eq S (rfl)) (lv_sub hl [0, 1, 2, 3, 4] (rfl))
        · -- 20 F
          refine lv_iload_n hx hb dX2_sum_23 rfl (lv_at hl 1 rfl) ?_
          refine lv_aload_n hx hb dX2_sum_24 rfl (lv_at hl 2 rfl) ?_
          refine lv_iload_n hx hb dX2_sum_25 rfl (lv_at hl 3 rfl) ?_
          refine lv_iload hx hb dX2_sum_26 (lv_at hl 0 rfl) ?_
          refine after_I (wc := [(h, ob 2 [.ref q, .int (nI n), .int (nI ww)]), (q, aI g 32 f)]) (y := yX2_number) C S (va_runV (As := [.int (nI a), .int (nI i)]) (rest := [.int (nI x)]) C.1 (kX2_number l g h q f n ww a i (by first | assumption | omega) (by first | assumption | omega) H.size) (cwV 2 hts gX2_sum_X2_number rfl rfl rfl (by decide +kernel) ⟨Nat.le_of_ble_eq_true rfl, Nat.le_of_ble_eq_true rfl⟩) (preV_at C S 0 rfl rfl [0, 1] rfl (by decide)) rfl rfl hl.1 rfl (lv_room (Nat.le_of_ble_eq_true rfl)) dX2_sum_28 ⟨Nat.le_of_ble_eq_true rfl, Nat.le_of_ble_eq_true rfl⟩) [0, 1] [] rfl (wr := []) rfl (by decide) (by decide) (fun r0 w0 H locs hq S => ?_)
          obtain ⟨rfl, rfl⟩ := hq
          have S : ST g A ss H locs [(h, ob 2 [.ref q, .int (nI n), .int (nI ww)]), (q, aI g 32 f)] := S
          refine top_eq (y := nI (nu a i)) (hf _ _ ha (by omega)) ?_
          refine lv_iadd hx hb dX2_sum_31 ?_
          refine top_eq (y := nI (x + (nu a i))) (nI_add _ _) ?_
          refine lv_istore_n (lv' := [(3, .int (nI (x + (nu a i)))), (4, .int (nI i)), (0, .ref h), (1, .int (nI a)), (2, .int (nI b))]) hx hb dX2_sum_32 rfl hl (by decide) rfl (fun ls hl => ?_)
          refine lv_iinc (v := nI (i + 1)) (lv' := [(4, .int (nI (i + 1))), (3, .int (nI (x + (nu a i)))), (0, .ref h), (1, .int (nI a)), (2, .int (nI b))]) hx hb dX2_sum_33 hl (k := 1) rfl (nI_add _ _) (by decide) rfl (fun ls hl => ?_)
          refine lv_goto (tgt := 5) hx hb dX2_sum_36 (by decide) ?_
          exact ih5 (i + 1) (x + (nu a i)) (by omega) (by first | assumption | omega) (by simp only [sumN, hx1, if_neg c_1, if_pos c_2]) H locs ls (ST.eq S (rfl)) (lv_sub hl [0, 1, 2, 3, 4] (rfl))
  exact loop5 _ 0 0 (Nat.lt_succ_self _) (by first | assumption | omega) (rfl) H locs ls (ST.eq S (rfl)) (lv_sub hl [0, 1, 2, 3, 4] (rfl))

theorem inX2_become_X2 : ∀ w ∈ wsX20, w ∈ wsX2_become := by decide +kernel
set_option maxRecDepth 100000 in
set_option maxHeartbeats 4000000 in
theorem kX2_become (l : Launch) (g : GG) (h : Nat) (q : Nat) (f : Nat → Int32) (n : Nat) (ww : Nat) (h2 : Nat) (q2 : Nat) (f2 : Nat → Int32) (n2 : Nat) (ww2 : Nat)  : KV l g yX2_become wsX2_become 1 64 [.ref h, .ref h2] [(h, ob 2 [.ref q, .int (nI n), .int (nI ww)]), (q, aI g 32 f), (h2, ob 2 [.ref q2, .int (nI n2), .int (nI ww2)]), (q2, aI g 32 f2)] (fun (w' : va_W) => ∃ (f' : Nat → Int32), (∀ j, j < 32 → f' j = f2 j) ∧ w' = [(h, ob 2 [.ref q, .int (nI n2), .int (nI ww2)]), (q, aI g 32 f'), (h2, ob 2 [.ref q2, .int (nI n2), .int (nI ww2)]), (q2, aI g 32 f2)]) := by
  refine kV_of (cc := cX2_become) (maxL := 2) (by decide) rfl (Nat.le_of_ble_eq_true rfl) ?_
  intro pp ee ss mm bel mth cd A ls C S hr hl
  obtain ⟨hx, hb, hml, hown, hts⟩ := id C.1
  have hl : lv_has ls 2 [(0, .ref h), (1, .ref h2)] := hl
  obtain ⟨H, hH⟩ : ∃ H, H = ss.heap := ⟨_, rfl⟩
  obtain ⟨locs, hL0⟩ : ∃ L : List Loc, L = [] := ⟨_, rfl⟩
  rw [← hH, ← hL0] at S ⊢
  refine lv_aload_n hx hb dX2_become_0 rfl (lv_at hl 1 rfl) ?_
  refine top_get C S inX2_become_X2 rfl 2 rfl 0 (by decide) (by decide +kernel) rfl rfl dX2_become_1 ?_
  refine lv_iconst (v := 0) hx hb dX2_become_4 (by decide) ?_
  refine lv_aload_n hx hb dX2_become_5 rfl (lv_at hl 0 rfl) ?_
  refine top_get C S inX2_become_X2 rfl 0 rfl 0 (by decide) (by decide +kernel) rfl rfl dX2_become_6 ?_
  refine lv_iconst (v := 0) hx hb dX2_become_9 (by decide) ?_
  refine lv_bipush (v := 32) hx hb dX2_become_10 (by decide) ?_
  refine va_copyi hx hb (hml.trans hl.1.symm) hown (hts (.methodLink RX2 22 arraycopyName) (by decide +kernel)) (hts (.native arraycopyName) (by decide +kernel)) (hts (.static arraycopyName) (by decide +kernel)) (hts (.initialized "java/lang/System") (by decide +kernel)) C.2.1 S.1 S.2.1 S.2.2 3 1 1 1 rfl rfl rfl rfl rfl (by decide) (by decide) (by decide) (by decide) (by decide) (fun _ _ => rfl) (Nat.le_of_ble_eq_true rfl) (by decide) dX2_become_12 (fun H locs hP hD hS => ?_)
  have S : ST g A ss H locs [(h, ob 2 [.ref q, .int (nI n), .int (nI ww)]), (q, aI g 32 (va_cpy f2 f 0 0 32)), (h2, ob 2 [.ref q2, .int (nI n2), .int (nI ww2)]), (q2, aI g 32 f2)] := ⟨hP, hD, hS⟩
  refine lv_aload_n hx hb dX2_become_15 rfl (lv_at hl 0 rfl) ?_
  refine lv_aload_n hx hb dX2_become_16 rfl (lv_at hl 1 rfl) ?_
  refine top_get C S inX2_become_X2 rfl 2 rfl 1 (by decide) (by decide +kernel) rfl rfl dX2_become_17 ?_
  refine top_put (ty := .int) C S inX2_become_X2 tyX2 tyX2_ok nmX2 rfl 0 rfl 1 (by decide) (by decide +kernel) rfl rfl (tyX2_ok 1 (by decide)) rfl rfl (Nat.le_of_ble_eq_true rfl) dX2_become_20 (fun H locs S => ?_)
  have S : ST g A ss H locs [(h, ob 2 [.ref q, .int (nI n2), .int (nI ww)]), (q, aI g 32 (va_cpy f2 f 0 0 32)), (h2, ob 2 [.ref q2, .int (nI n2), .int (nI ww2)]), (q2, aI g 32 f2)] := S
  refine lv_aload_n hx hb dX2_become_23 rfl (lv_at hl 0 rfl) ?_
  refine lv_aload_n hx hb dX2_become_24 rfl (lv_at hl 1 rfl) ?_
  refine top_get C S inX2_become_X2 rfl 2 rfl 2 (by decide) (by decide +kernel) rfl rfl dX2_become_25 ?_
  refine top_put (ty := .int) C S inX2_become_X2 tyX2 tyX2_ok nmX2 rfl 0 rfl 2 (by decide) (by decide +kernel) rfl rfl (tyX2_ok 2 (by decide)) rfl rfl (Nat.le_of_ble_eq_true rfl) dX2_become_28 (fun H locs S => ?_)
  have S : ST g A ss H locs [(h, ob 2 [.ref q, .int (nI n2), .int (nI ww2)]), (q, aI g 32 (va_cpy f2 f 0 0 32)), (h2, ob 2 [.ref q2, .int (nI n2), .int (nI ww2)]), (q2, aI g 32 f2)] := S
  exact ret_V C S hr dX2_become_31 ⟨(va_cpy f2 f 0 0 32), (fun j hj => sb_cpy0 hj), (by first | rfl | simp only [])⟩
