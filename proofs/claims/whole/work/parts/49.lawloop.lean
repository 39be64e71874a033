theorem and31 (x : Int32) : ∃ j, j < 32 ∧ x &&& 31 = nI j := by
  refine ⟨(x.toBitVec &&& 31#32).toNat, ?_, ?_⟩
  · rw [BitVec.toNat_and]
    exact Nat.lt_of_le_of_lt Nat.and_le_right (by decide)
  · apply Int32.toBitVec_inj.mp
    show x.toBitVec &&& (31 : Int32).toBitVec = BitVec.ofNat 32 _
    rw [BitVec.ofNat_toNat]
    rfl
theorem gt_out {i L : Nat} (hi : i ≤ 4000) (hL : L ≤ 2048) (h : ¬ nI L - 4 < nI i) : i + 4 ≤ L := by
  have e : (nI L - 4).toInt = (L : Int) - 4 := by
    rw [Int32.toInt_sub, nI_toInt (by omega), show (4 : Int32).toInt = 4 from rfl]
    exact Int.bmod_eq_of_le (by omega) (by omega)
  have h2 : ¬ (nI L - 4).toInt < (nI i).toInt := fun q => h (Int32.lt_iff_toInt_lt.mpr q)
  rw [e, nI_toInt (by omega)] at h2
  omega
set_option maxRecDepth 100000 in
set_option maxHeartbeats 8000000 in
theorem law_loop (l : Launch) {pp : Program} {ee : Env} {ss : State} {mm : MethodId} {bel : List Frame} {mth : Method} {cd : Code} {g : GG} {A : Nat → Prop} {b L O M : Nat} {xs : Nat → Int32} {Q : State → Prop} (hL : L ≤ 2048) (C : CX pp ss mm #[Value.ref b] mth cd cL_law 4 wsL_law RL g A) (hX : va_X b L xs ss ss.heap) (hbl : b < ss.heap.size) (hbA : ¬ A b) (hend : ∀ (H : Heap) (locs : List Loc) (ls : Array Slot), (∀ q ∈ locs, A q.base) → W pp l ee room_1 ss mm #[Value.ref b] bel mth cd H locs 48 1110 Q (F0 mm 679 ls [.int 1])) : ∀ (N0 i : Nat) (ls : Array Slot), L + 4 - i < N0 → i ≤ L + 4 → lv_has ls 4 [(3, .int (nI i)), (2, .ref M), (1, .ref O), (0, .ref b)] → LPx l pp ee ss mm bel mth cd g A b O M Q ls 18 := by
  intro N0
  induction N0 with
  | zero => intro i ls hN; exact absurd hN (Nat.not_lt_zero _)
  | succ N0 ih =>
    intro i ls hN hiL hl
    obtain ⟨hx, hb, hml, hown, hts⟩ := id C.1
    have next : i + 4 ≤ L → LPx l pp ee ss mm bel mth cd g A b O M Q ls 672 := by
      intro hi H locs h q dh dq th tl HH rg a0 b0 a1 b1 a2 b2 a3 b3 a4 b4 a5 b5 IM ig c0 d0 c1 d1 SG la ba P ra sa ta ca nw dr pa im ke fl fq te ni re ma be f n ww df dn dw tz tx ro k z fs ns wbs io kb gs ms vbs sz lf bf p1 p2 p3 p4 p5 rf sf tf cf yat yst yso v0 yab ybl yis yra gn mdf pf mf kz nf ref mz bm nu ch lo S hE hro hio hk hz hkb htz htx hch hs6 hlo hlb hv0 hH hIm
      refine lv_iinc (v := nI (i + 4)) (lv' := [(3, .int (nI (i + 4))), (2, .ref M), (1, .ref O), (0, .ref b)]) hx hb dL_law_672 hl (k := 0) rfl (nI_add _ _) (by decide) rfl (fun ls hl => ?_)
      refine lv_goto (tgt := 18) hx hb dL_law_675 (by decide) ?_
      exact ih (i + 4) ls (by omega) (by omega) hl H locs h q dh dq th tl HH rg a0 b0 a1 b1 a2 b2 a3 b3 a4 b4 a5 b5 IM ig c0 d0 c1 d1 SG la ba P ra sa ta ca nw dr pa im ke fl fq te ni re ma be f n ww df dn dw tz tx ro k z fs ns wbs io kb gs ms vbs sz lf bf p1 p2 p3 p4 p5 rf sf tf cf yat yst yso v0 yab ybl yis yra gn mdf pf mf kz nf ref mz bm nu ch lo S hE hro hio hk hz hkb htz htx hch hs6 hlo hlb hv0 hH hIm
    intro H locs h q dh dq th tl HH rg a0 b0 a1 b1 a2 b2 a3 b3 a4 b4 a5 b5 IM ig c0 d0 c1 d1 SG la ba P ra sa ta ca nw dr pa im ke fl fq te ni re ma be f n ww df dn dw tz tx ro k z fs ns wbs io kb gs ms vbs sz lf bf p1 p2 p3 p4 p5 rf sf tf cf yat yst yso v0 yab ybl yis yra gn mdf pf mf kz nf ref mz bm nu ch lo S hE hro hio hk hz hkb htz htx hch hs6 hlo hlb hv0 hH hIm
    refine lv_iload_n hx hb dL_law_18 rfl (lv_at hl 0 rfl) ?_
    refine lv_aload_n hx hb dL_law_19 rfl (lv_at hl 3 rfl) ?_
    refine va_slen hx hb hX hbl hbA S.2.2 dL_law_20 ?_
    refine lv_iconst (v := 4) hx hb dL_law_21 (by decide) ?_
    refine lv_isub hx hb dL_law_22 ?_
    refine lv_icmp_gt (tgt := 678) hx hb dL_law_23 (by decide) (fun _ => ?_) (fun hc => ?_)
    · refine lv_iconst (v := 1) hx hb dL_law_678 (by decide) ?_
      exact hend H locs ls S.2.2.2.2
    · have hi : i + 4 ≤ L := gt_out (by omega) hL hc
      refine lv_aload_n hx hb dL_law_26 rfl (lv_at hl 3 rfl) ?_
      refine lv_iload_n hx hb dL_law_27 rfl (lv_at hl 0 rfl) ?_
      refine top_sld C S hX hbl hbA (j := i) rfl (by omega) hL dL_law_28 ?_
      refine lv_bipush (v := 31) hx hb dL_law_29 (by decide) ?_
      refine lv_iand hx hb dL_law_31 ?_
      obtain ⟨j, hj, hje⟩ := and31 (xs i)
      refine top_eq (y := nI j) hje ?_
      rcases (show j = 0 ∨ j = 1 ∨ j = 2 ∨ j = 3 ∨ j = 4 ∨ j = 5 ∨ j = 6 ∨ j = 7 ∨ j = 8 ∨ j = 9 ∨ j = 10 ∨ j = 11 ∨ j = 12 ∨ j = 13 ∨ j = 14 ∨ j = 15 ∨ j = 16 ∨ j = 17 ∨ j = 18 ∨ j = 19 ∨ j = 20 ∨ j = 21 ∨ 22 ≤ j by omega) with rfl | rfl | rfl | rfl | rfl | rfl | rfl | rfl | rfl | rfl | rfl | rfl | rfl | rfl | rfl | rfl | rfl | rfl | rfl | rfl | rfl | rfl | hj22
      · refine lv_tableIn (tgt := 136) hx hb dL_law_32 (by decide) (by decide) (by rfl) (by decide) ?_
        exact lc_type l hL C hX hbl hbA hi hl (next hi) H locs h q dh dq th tl HH rg a0 b0 a1 b1 a2 b2 a3 b3 a4 b4 a5 b5 IM ig c0 d0 c1 d1 SG la ba P ra sa ta ca nw dr pa im ke fl fq te ni re ma be f n ww df dn dw tz tx ro k z fs ns wbs io kb gs ms vbs sz lf bf p1 p2 p3 p4 p5 rf sf tf cf yat yst yso v0 yab ybl yis yra gn mdf pf mf kz nf ref mz bm nu ch lo S hE hro hio hk hz hkb htz htx hch hs6 hlo hlb hv0 hH hIm
      · refine lv_tableIn (tgt := 159) hx hb dL_law_32 (by decide) (by decide) (by rfl) (by decide) ?_
        exact lc_clear l hL C hX hbl hbA hi hl (next hi) H locs h q dh dq th tl HH rg a0 b0 a1 b1 a2 b2 a3 b3 a4 b4 a5 b5 IM ig c0 d0 c1 d1 SG la ba P ra sa ta ca nw dr pa im ke fl fq te ni re ma be f n ww df dn dw tz tx ro k z fs ns wbs io kb gs ms vbs sz lf bf p1 p2 p3 p4 p5 rf sf tf cf yat yst yso v0 yab ybl yis yra gn mdf pf mf kz nf ref mz bm nu ch lo S hE hro hio hk hz hkb htz htx hch hs6 hlo hlb hv0 hH hIm
      · refine lv_tableIn (tgt := 172) hx hb dL_law_32 (by decide) (by decide) (by rfl) (by decide) ?_
        exact lc_tells l hL C hX hbl hbA hi hl (next hi) H locs h q dh dq th tl HH rg a0 b0 a1 b1 a2 b2 a3 b3 a4 b4 a5 b5 IM ig c0 d0 c1 d1 SG la ba P ra sa ta ca nw dr pa im ke fl fq te ni re ma be f n ww df dn dw tz tx ro k z fs ns wbs io kb gs ms vbs sz lf bf p1 p2 p3 p4 p5 rf sf tf cf yat yst yso v0 yab ybl yis yra gn mdf pf mf kz nf ref mz bm nu ch lo S hE hro hio hk hz hkb htz htx hch hs6 hlo hlb hv0 hH hIm
      · refine lv_tableIn (tgt := 185) hx hb dL_law_32 (by decide) (by decide) (by rfl) (by decide) ?_
        exact lc_loads l hL C hX hbl hbA hi hl (next hi) H locs h q dh dq th tl HH rg a0 b0 a1 b1 a2 b2 a3 b3 a4 b4 a5 b5 IM ig c0 d0 c1 d1 SG la ba P ra sa ta ca nw dr pa im ke fl fq te ni re ma be f n ww df dn dw tz tx ro k z fs ns wbs io kb gs ms vbs sz lf bf p1 p2 p3 p4 p5 rf sf tf cf yat yst yso v0 yab ybl yis yra gn mdf pf mf kz nf ref mz bm nu ch lo S hE hro hio hk hz hkb htz htx hch hs6 hlo hlb hv0 hH hIm
      · refine lv_tableIn (tgt := 208) hx hb dL_law_32 (by decide) (by decide) (by rfl) (by decide) ?_
        exact lc_breaks l hL C hX hbl hbA hi hl (next hi) H locs h q dh dq th tl HH rg a0 b0 a1 b1 a2 b2 a3 b3 a4 b4 a5 b5 IM ig c0 d0 c1 d1 SG la ba P ra sa ta ca nw dr pa im ke fl fq te ni re ma be f n ww df dn dw tz tx ro k z fs ns wbs io kb gs ms vbs sz lf bf p1 p2 p3 p4 p5 rf sf tf cf yat yst yso v0 yab ybl yis yra gn mdf pf mf kz nf ref mz bm nu ch lo S hE hro hio hk hz hkb htz htx hch hs6 hlo hlb hv0 hH hIm
      · refine lv_tableIn (tgt := 231) hx hb dL_law_32 (by decide) (by decide) (by rfl) (by decide) ?_
        exact lc_mends l hL C hX hbl hbA hi hl (next hi) H locs h q dh dq th tl HH rg a0 b0 a1 b1 a2 b2 a3 b3 a4 b4 a5 b5 IM ig c0 d0 c1 d1 SG la ba P ra sa ta ca nw dr pa im ke fl fq te ni re ma be f n ww df dn dw tz tx ro k z fs ns wbs io kb gs ms vbs sz lf bf p1 p2 p3 p4 p5 rf sf tf cf yat yst yso v0 yab ybl yis yra gn mdf pf mf kz nf ref mz bm nu ch lo S hE hro hio hk hz hkb htz htx hch hs6 hlo hlb hv0 hH hIm
      · refine lv_tableIn (tgt := 254) hx hb dL_law_32 (by decide) (by decide) (by rfl) (by decide) ?_
        exact lc_cambers l hL C hX hbl hbA hi hl (next hi) H locs h q dh dq th tl HH rg a0 b0 a1 b1 a2 b2 a3 b3 a4 b4 a5 b5 IM ig c0 d0 c1 d1 SG la ba P ra sa ta ca nw dr pa im ke fl fq te ni re ma be f n ww df dn dw tz tx ro k z fs ns wbs io kb gs ms vbs sz lf bf p1 p2 p3 p4 p5 rf sf tf cf yat yst yso v0 yab ybl yis yra gn mdf pf mf kz nf ref mz bm nu ch lo S hE hro hio hk hz hkb htz htx hch hs6 hlo hlb hv0 hH hIm
      · refine lv_tableIn (tgt := 287) hx hb dL_law_32 (by decide) (by decide) (by rfl) (by decide) ?_
        exact lc_undo l hL C hX hbl hbA hi hl (next hi) H locs h q dh dq th tl HH rg a0 b0 a1 b1 a2 b2 a3 b3 a4 b4 a5 b5 IM ig c0 d0 c1 d1 SG la ba P ra sa ta ca nw dr pa im ke fl fq te ni re ma be f n ww df dn dw tz tx ro k z fs ns wbs io kb gs ms vbs sz lf bf p1 p2 p3 p4 p5 rf sf tf cf yat yst yso v0 yab ybl yis yra gn mdf pf mf kz nf ref mz bm nu ch lo S hE hro hio hk hz hkb htz htx hch hs6 hlo hlb hv0 hH hIm
      · refine lv_tableIn (tgt := 300) hx hb dL_law_32 (by decide) (by decide) (by rfl) (by decide) ?_
        exact lc_leaf l hL C hX hbl hbA hi hl (next hi) H locs h q dh dq th tl HH rg a0 b0 a1 b1 a2 b2 a3 b3 a4 b4 a5 b5 IM ig c0 d0 c1 d1 SG la ba P ra sa ta ca nw dr pa im ke fl fq te ni re ma be f n ww df dn dw tz tx ro k z fs ns wbs io kb gs ms vbs sz lf bf p1 p2 p3 p4 p5 rf sf tf cf yat yst yso v0 yab ybl yis yra gn mdf pf mf kz nf ref mz bm nu ch lo S hE hro hio hk hz hkb htz htx hch hs6 hlo hlb hv0 hH hIm
      · refine lv_tableIn (tgt := 333) hx hb dL_law_32 (by decide) (by decide) (by rfl) (by decide) ?_
        exact lc_bend l hL C hX hbl hbA hi hl (next hi) H locs h q dh dq th tl HH rg a0 b0 a1 b1 a2 b2 a3 b3 a4 b4 a5 b5 IM ig c0 d0 c1 d1 SG la ba P ra sa ta ca nw dr pa im ke fl fq te ni re ma be f n ww df dn dw tz tx ro k z fs ns wbs io kb gs ms vbs sz lf bf p1 p2 p3 p4 p5 rf sf tf cf yat yst yso v0 yab ybl yis yra gn mdf pf mf kz nf ref mz bm nu ch lo S hE hro hio hk hz hkb htz htx hch hs6 hlo hlb hv0 hH hIm
      · refine lv_tableIn (tgt := 366) hx hb dL_law_32 (by decide) (by decide) (by rfl) (by decide) ?_
        exact lc_bears l hL C hX hbl hbA hi hl (next hi) H locs h q dh dq th tl HH rg a0 b0 a1 b1 a2 b2 a3 b3 a4 b4 a5 b5 IM ig c0 d0 c1 d1 SG la ba P ra sa ta ca nw dr pa im ke fl fq te ni re ma be f n ww df dn dw tz tx ro k z fs ns wbs io kb gs ms vbs sz lf bf p1 p2 p3 p4 p5 rf sf tf cf yat yst yso v0 yab ybl yis yra gn mdf pf mf kz nf ref mz bm nu ch lo S hE hro hio hk hz hkb htz htx hch hs6 hlo hlb hv0 hH hIm
      · refine lv_tableIn (tgt := 409) hx hb dL_law_32 (by decide) (by decide) (by rfl) (by decide) ?_
        exact lc_rate l hL C hX hbl hbA hi hl (next hi) H locs h q dh dq th tl HH rg a0 b0 a1 b1 a2 b2 a3 b3 a4 b4 a5 b5 IM ig c0 d0 c1 d1 SG la ba P ra sa ta ca nw dr pa im ke fl fq te ni re ma be f n ww df dn dw tz tx ro k z fs ns wbs io kb gs ms vbs sz lf bf p1 p2 p3 p4 p5 rf sf tf cf yat yst yso v0 yab ybl yis yra gn mdf pf mf kz nf ref mz bm nu ch lo S hE hro hio hk hz hkb htz htx hch hs6 hlo hlb hv0 hH hIm
      · refine lv_tableIn (tgt := 432) hx hb dL_law_32 (by decide) (by decide) (by rfl) (by decide) ?_
        exact lc_least l hL C hX hbl hbA hi hl (next hi) H locs h q dh dq th tl HH rg a0 b0 a1 b1 a2 b2 a3 b3 a4 b4 a5 b5 IM ig c0 d0 c1 d1 SG la ba P ra sa ta ca nw dr pa im ke fl fq te ni re ma be f n ww df dn dw tz tx ro k z fs ns wbs io kb gs ms vbs sz lf bf p1 p2 p3 p4 p5 rf sf tf cf yat yst yso v0 yab ybl yis yra gn mdf pf mf kz nf ref mz bm nu ch lo S hE hro hio hk hz hkb htz htx hch hs6 hlo hlb hv0 hH hIm
      · refine lv_tableIn (tgt := 455) hx hb dL_law_32 (by decide) (by decide) (by rfl) (by decide) ?_
        exact lc_knee l hL C hX hbl hbA hi hl (next hi) H locs h q dh dq th tl HH rg a0 b0 a1 b1 a2 b2 a3 b3 a4 b4 a5 b5 IM ig c0 d0 c1 d1 SG la ba P ra sa ta ca nw dr pa im ke fl fq te ni re ma be f n ww df dn dw tz tx ro k z fs ns wbs io kb gs ms vbs sz lf bf p1 p2 p3 p4 p5 rf sf tf cf yat yst yso v0 yab ybl yis yra gn mdf pf mf kz nf ref mz bm nu ch lo S hE hro hio hk hz hkb htz htx hch hs6 hlo hlb hv0 hH hIm
      · refine lv_tableIn (tgt := 478) hx hb dL_law_32 (by decide) (by decide) (by rfl) (by decide) ?_
        exact lc_chosen l hL C hX hbl hbA hi hl (next hi) H locs h q dh dq th tl HH rg a0 b0 a1 b1 a2 b2 a3 b3 a4 b4 a5 b5 IM ig c0 d0 c1 d1 SG la ba P ra sa ta ca nw dr pa im ke fl fq te ni re ma be f n ww df dn dw tz tx ro k z fs ns wbs io kb gs ms vbs sz lf bf p1 p2 p3 p4 p5 rf sf tf cf yat yst yso v0 yab ybl yis yra gn mdf pf mf kz nf ref mz bm nu ch lo S hE hro hio hk hz hkb htz htx hch hs6 hlo hlb hv0 hH hIm
      · refine lv_tableIn (tgt := 521) hx hb dL_law_32 (by decide) (by decide) (by rfl) (by decide) ?_
        exact lc_sees l hL C hX hbl hbA hi hl (next hi) H locs h q dh dq th tl HH rg a0 b0 a1 b1 a2 b2 a3 b3 a4 b4 a5 b5 IM ig c0 d0 c1 d1 SG la ba P ra sa ta ca nw dr pa im ke fl fq te ni re ma be f n ww df dn dw tz tx ro k z fs ns wbs io kb gs ms vbs sz lf bf p1 p2 p3 p4 p5 rf sf tf cf yat yst yso v0 yab ybl yis yra gn mdf pf mf kz nf ref mz bm nu ch lo S hE hro hio hk hz hkb htz htx hch hs6 hlo hlb hv0 hH hIm
      · refine lv_tableIn (tgt := 554) hx hb dL_law_32 (by decide) (by decide) (by rfl) (by decide) ?_
        exact lc_forget l hL C hX hbl hbA hi hl (next hi) H locs h q dh dq th tl HH rg a0 b0 a1 b1 a2 b2 a3 b3 a4 b4 a5 b5 IM ig c0 d0 c1 d1 SG la ba P ra sa ta ca nw dr pa im ke fl fq te ni re ma be f n ww df dn dw tz tx ro k z fs ns wbs io kb gs ms vbs sz lf bf p1 p2 p3 p4 p5 rf sf tf cf yat yst yso v0 yab ybl yis yra gn mdf pf mf kz nf ref mz bm nu ch lo S hE hro hio hk hz hkb htz htx hch hs6 hlo hlb hv0 hH hIm
      · refine lv_tableIn (tgt := 567) hx hb dL_law_32 (by decide) (by decide) (by rfl) (by decide) ?_
        exact lc_which l hL C hX hbl hbA hi hl (next hi) H locs h q dh dq th tl HH rg a0 b0 a1 b1 a2 b2 a3 b3 a4 b4 a5 b5 IM ig c0 d0 c1 d1 SG la ba P ra sa ta ca nw dr pa im ke fl fq te ni re ma be f n ww df dn dw tz tx ro k z fs ns wbs io kb gs ms vbs sz lf bf p1 p2 p3 p4 p5 rf sf tf cf yat yst yso v0 yab ybl yis yra gn mdf pf mf kz nf ref mz bm nu ch lo S hE hro hio hk hz hkb htz htx hch hs6 hlo hlb hv0 hH hIm
      · refine lv_tableIn (tgt := 590) hx hb dL_law_32 (by decide) (by decide) (by rfl) (by decide) ?_
        exact lc_ask l hL C hX hbl hbA hi hl (next hi) H locs h q dh dq th tl HH rg a0 b0 a1 b1 a2 b2 a3 b3 a4 b4 a5 b5 IM ig c0 d0 c1 d1 SG la ba P ra sa ta ca nw dr pa im ke fl fq te ni re ma be f n ww df dn dw tz tx ro k z fs ns wbs io kb gs ms vbs sz lf bf p1 p2 p3 p4 p5 rf sf tf cf yat yst yso v0 yab ybl yis yra gn mdf pf mf kz nf ref mz bm nu ch lo S hE hro hio hk hz hkb htz htx hch hs6 hlo hlb hv0 hH hIm
      · refine lv_tableIn (tgt := 603) hx hb dL_law_32 (by decide) (by decide) (by rfl) (by decide) ?_
        exact lc_keep l hL C hX hbl hbA hi hl (next hi) H locs h q dh dq th tl HH rg a0 b0 a1 b1 a2 b2 a3 b3 a4 b4 a5 b5 IM ig c0 d0 c1 d1 SG la ba P ra sa ta ca nw dr pa im ke fl fq te ni re ma be f n ww df dn dw tz tx ro k z fs ns wbs io kb gs ms vbs sz lf bf p1 p2 p3 p4 p5 rf sf tf cf yat yst yso v0 yab ybl yis yra gn mdf pf mf kz nf ref mz bm nu ch lo S hE hro hio hk hz hkb htz htx hch hs6 hlo hlb hv0 hH hIm
      · refine lv_tableIn (tgt := 626) hx hb dL_law_32 (by decide) (by decide) (by rfl) (by decide) ?_
        exact lc_back l hL C hX hbl hbA hi hl (next hi) H locs h q dh dq th tl HH rg a0 b0 a1 b1 a2 b2 a3 b3 a4 b4 a5 b5 IM ig c0 d0 c1 d1 SG la ba P ra sa ta ca nw dr pa im ke fl fq te ni re ma be f n ww df dn dw tz tx ro k z fs ns wbs io kb gs ms vbs sz lf bf p1 p2 p3 p4 p5 rf sf tf cf yat yst yso v0 yab ybl yis yra gn mdf pf mf kz nf ref mz bm nu ch lo S hE hro hio hk hz hkb htz htx hch hs6 hlo hlb hv0 hH hIm
      · refine lv_tableIn (tgt := 649) hx hb dL_law_32 (by decide) (by decide) (by rfl) (by decide) ?_
        exact lc_count l hL C hX hbl hbA hi hl (next hi) H locs h q dh dq th tl HH rg a0 b0 a1 b1 a2 b2 a3 b3 a4 b4 a5 b5 IM ig c0 d0 c1 d1 SG la ba P ra sa ta ca nw dr pa im ke fl fq te ni re ma be f n ww df dn dw tz tx ro k z fs ns wbs io kb gs ms vbs sz lf bf p1 p2 p3 p4 p5 rf sf tf cf yat yst yso v0 yab ybl yis yra gn mdf pf mf kz nf ref mz bm nu ch lo S hE hro hio hk hz hkb htz htx hch hs6 hlo hlb hv0 hH hIm
      · refine lv_tableOut (tgt := 672) hx hb dL_law_32 (Or.inr (by rw [nI_toInt (by omega)]; omega)) (by decide) ?_
        exact next hi H locs h q dh dq th tl HH rg a0 b0 a1 b1 a2 b2 a3 b3 a4 b4 a5 b5 IM ig c0 d0 c1 d1 SG la ba P ra sa ta ca nw dr pa im ke fl fq te ni re ma be f n ww df dn dw tz tx ro k z fs ns wbs io kb gs ms vbs sz lf bf p1 p2 p3 p4 p5 rf sf tf cf yat yst yso v0 yab ybl yis yra gn mdf pf mf kz nf ref mz bm nu ch lo S hE hro hio hk hz hkb htz htx hch hs6 hlo hlb hv0 hH hIm
