theorem inX7_notesl_X7 : ∀ w ∈ wsX70, w ∈ wsX7_notes := by decide +kernel
set_option maxRecDepth 100000 in
set_option maxHeartbeats 4000000 in
theorem kX7_notesl (l : Launch) (g : GG) (M : Nat) (nw : Nat) (dr : Nat) (pa : Nat) (im : Nat) (ke : Nat) (fl : Nat) (fq : Nat) (te : Nat) (ni : Nat) (re : Nat) (ma : Nat) (be : Nat) (yfa : Int32) (yty : Int32) (yat : Int32) (yst : Int32) (yso : Int32) (yva : Int32) (yab : Int32) (ybl : Int32) (yis : Int32) (yra : Int32) (z : Nat) (gn : Nat → Int32) (pf : Nat → Int32) (hz : z < 6) : KV l g yX7_notes wsX7_notes 0 0 [.ref M] [(M, ob 7 [.ref nw, .ref dr, .ref pa, .int (nI z), .ref im, .ref ke, .ref fl, .ref fq, .int yfa, .ref te, .int yty, .int yat, .int yst, .int yso, .int yva, .ref ni, .ref re, .int yab, .int ybl, .int yis, .int yra, .ref ma, .ref be]), (nw, aI g 41 gn), (pa, aI g 246 pf)] (fun (w' : va_W) => ∃ (pf' : Nat → Int32), (∀ t, t < 41 * z → pf' t = pf t) ∧ (∀ t, t < 41 → pf' (41 * z + t) = gn t) ∧ w' = [(M, ob 7 [.ref nw, .ref dr, .ref pa, .int (nI (z + 1)), .ref im, .ref ke, .ref fl, .ref fq, .int yfa, .ref te, .int yty, .int yat, .int yst, .int yso, .int yva, .ref ni, .ref re, .int yab, .int ybl, .int yis, .int yra, .ref ma, .ref be]), (nw, aI g 41 gn), (pa, aI g 246 pf')]) := by
  refine kV_of (cc := cX7_notes) (maxL := 2) (by decide) rfl (Nat.le_of_ble_eq_true rfl) ?_
  intro pp ee ss mm bel mth cd A ls C S hr hl
  obtain ⟨hx, hb, hml, hown, hts⟩ := id C.1
  have hl : lv_has ls 2 [(0, .ref M)] := hl
  obtain ⟨H, hH⟩ : ∃ H, H = ss.heap := ⟨_, rfl⟩
  obtain ⟨locs, hL0⟩ : ∃ L : List Loc, L = [] := ⟨_, rfl⟩
  rw [← hH, ← hL0] at S ⊢
  refine lv_aload_n hx hb dX7_notes_0 rfl (lv_at hl 0 rfl) ?_
  refine top_get C S inX7_notesl_X7 rfl 0 rfl 3 (by decide) (by decide +kernel) rfl rfl dX7_notes_1 ?_
  refine lv_bipush (v := 6) hx hb dX7_notes_4 (by decide) ?_
  refine bn_ine (tgt := 49) (a := z) (b := 6) hx hb rfl rfl (by omega) (by omega) dX7_notes_6 (by decide) (fun c_1 => ?_) (fun c_1 => ?_)
  · -- 6 T
    refine lv_iconst (v := 0) hx hb dX7_notes_49 (by decide) ?_
    refine lv_istore_n (lv' := [(1, .int 0), (0, .ref M)]) hx hb dX7_notes_50 rfl hl (by decide) rfl (fun ls hl => ?_)
    have loop51 : ∀ (N0 : Nat) (i : Nat) (p1 : Nat → Int32), 41 - i < N0 → (i ≤ 41) → (∀ t, t < 41 * z → p1 t = pf t) → (∀ t, t < i → p1 (41 * z + t) = gn t) → ∀ (H : Heap) (locs : List Loc) (ls : Array Slot), ST g A ss H locs [(M, ob 7 [.ref nw, .ref dr, .ref pa, .int (nI z), .ref im, .ref ke, .ref fl, .ref fq, .int yfa, .ref te, .int yty, .int yat, .int yst, .int yso, .int yva, .ref ni, .ref re, .int yab, .int ybl, .int yis, .int yra, .ref ma, .ref be]), (nw, aI g 41 gn), (pa, aI g 246 p1)] → lv_has ls 2 [(1, .int (nI i)), (0, .ref M)] → W pp l ee { frames := 0, cells := 0, slots := 0, locals := 0 } ss mm ([.ref M] : List Value).toArray bel mth cd H locs 0 0 (QV bel ([.ref M] : List Value).toArray ss g A (fun (w' : va_W) => ∃ (pf' : Nat → Int32), (∀ t, t < 41 * z → pf' t = pf t) ∧ (∀ t, t < 41 → pf' (41 * z + t) = gn t) ∧ w' = [(M, ob 7 [.ref nw, .ref dr, .ref pa, .int (nI (z + 1)), .ref im, .ref ke, .ref fl, .ref fq, .int yfa, .ref te, .int yty, .int yat, .int yst, .int yso, .int yva, .ref ni, .ref re, .int yab, .int ybl, .int yis, .int yra, .ref ma, .ref be]), (nw, aI g 41 gn), (pa, aI g 246 pf')])) (F0 mm 51 ls []) := by
      intro N0
      induction N0 with
      | zero => intro i p1 hN; exact absurd hN (Nat.not_lt_zero _)
      | succ N0 ih51 =>
        intro i p1 hN hi hA hBt H locs ls S hl
        refine lv_iload_n hx hb dX7_notes_51 rfl (lv_at hl 0 rfl) ?_
        refine lv_bipush (v := 41) hx hb dX7_notes_52 (by decide) ?_
        refine bn_ige (tgt := 83) (a := i) (b := 41) hx hb rfl rfl (by omega) (by omega) dX7_notes_54 (by decide) (fun c_2 => ?_) (fun c_2 => ?_)
        · -- 54 T
          refine lv_aload_n hx hb dX7_notes_83 rfl (lv_at hl 1 rfl) ?_
          refine lv_dup hx hb dX7_notes_84 rfl ?_
          refine top_get C S inX7_notesl_X7 rfl 0 rfl 3 (by decide) (by decide +kernel) rfl rfl dX7_notes_85 ?_
          refine lv_iconst (v := 1) hx hb dX7_notes_88 (by decide) ?_
          refine lv_iadd hx hb dX7_notes_89 ?_
          refine top_eq (y := nI (z + 1)) (nI_add _ _) ?_
          refine top_put (ty := .int) C S inX7_notesl_X7 tyX7 tyX7_ok nmX7 rfl 0 rfl 3 (by decide) (by decide +kernel) rfl rfl (tyX7_ok 3 (by decide)) rfl rfl (Nat.le_of_ble_eq_true rfl) dX7_notes_90 (fun H locs S => ?_)
          have S : ST g A ss H locs [(M, ob 7 [.ref nw, .ref dr, .ref pa, .int (nI (z + 1)), .ref im, .ref ke, .ref fl, .ref fq, .int yfa, .ref te, .int yty, .int yat, .int yst, .int yso, .int yva, .ref ni, .ref re, .int yab, .int ybl, .int yis, .int yra, .ref ma, .ref be]), (nw, aI g 41 gn), (pa, aI g 246 p1)] := S
          exact ret_V C S hr dX7_notes_93 ⟨p1, (hA), (fun t9 h9 => hBt t9 (by omega)), (rfl)⟩
        · -- 54 F
          refine lv_aload_n hx hb dX7_notes_57 rfl (lv_at hl 1 rfl) ?_
          refine top_get C S inX7_notesl_X7 rfl 0 rfl 2 (by decide) (by decide +kernel) rfl rfl dX7_notes_58 ?_
          refine lv_bipush (v := 41) hx hb dX7_notes_61 (by decide) ?_
          refine lv_aload_n hx hb dX7_notes_63 rfl (lv_at hl 1 rfl) ?_
          refine top_get C S inX7_notesl_X7 rfl 0 rfl 3 (by decide) (by decide +kernel) rfl rfl dX7_notes_64 ?_
          refine lv_imul hx hb dX7_notes_67 ?_
          refine top_eq (y := nI (41 * z)) (pk_mul _ _) ?_
          refine lv_iload_n hx hb dX7_notes_68 rfl (lv_at hl 0 rfl) ?_
          refine lv_iadd hx hb dX7_notes_69 ?_
          refine top_eq (y := nI ((41 * z) + i)) (nI_add _ _) ?_
          refine lv_aload_n hx hb dX7_notes_70 rfl (lv_at hl 1 rfl) ?_
          refine top_get C S inX7_notesl_X7 rfl 0 rfl 0 (by decide) (by decide +kernel) rfl rfl dX7_notes_71 ?_
          refine lv_iload_n hx hb dX7_notes_74 rfl (lv_at hl 0 rfl) ?_
          refine top_ild C S 1 rfl (j := i) rfl (by omega) (by decide) dX7_notes_75 ?_
          refine top_ist C S 2 rfl (j := ((41 * z) + i)) rfl (by omega) (by decide) dX7_notes_76 (fun H locs S => ?_)
          have S : ST g A ss H locs [(M, ob 7 [.ref nw, .ref dr, .ref pa, .int (nI z), .ref im, .ref ke, .ref fl, .ref fq, .int yfa, .ref te, .int yty, .int yat, .int yst, .int yso, .int yva, .ref ni, .ref re, .int yab, .int ybl, .int yis, .int yra, .ref ma, .ref be]), (nw, aI g 41 gn), (pa, aI g 246 (upd p1 ((41 * z) + i) (gn i)))] := S
          refine lv_iinc (v := nI (i + 1)) (lv' := [(1, .int (nI (i + 1))), (0, .ref M)]) hx hb dX7_notes_77 hl (k := 0) rfl (nI_add _ _) (by decide) rfl (fun ls hl => ?_)
          refine lv_goto (tgt := 51) hx hb dX7_notes_80 (by decide) ?_
          exact ih51 (i + 1) (upd p1 ((41 * z) + i) (gn i)) (by omega) (by first | assumption | omega) (upd_keep hA (by omega)) (upd_at hBt rfl) H locs ls (ST.eq S (rfl)) (lv_sub hl [0, 1] (rfl))
    exact loop51 _ 0 pf (Nat.lt_succ_self _) (by first | assumption | omega) (fun t9 _ => rfl) (fun t9 h9 => absurd h9 (Nat.not_lt_zero _)) H locs ls (ST.eq S (rfl)) (lv_sub hl [0, 1] (rfl))
  · -- 6 F
    exact absurd c_1 (by omega)

theorem inX7_notesf_X7 : ∀ w ∈ wsX70, w ∈ wsX7_notes := by decide +kernel
set_option maxRecDepth 100000 in
set_option maxHeartbeats 4000000 in
theorem kX7_notesf (l : Launch) (g : GG) (M : Nat) (nw : Nat) (dr : Nat) (pa : Nat) (im : Nat) (ke : Nat) (fl : Nat) (fq : Nat) (te : Nat) (ni : Nat) (re : Nat) (ma : Nat) (be : Nat) (yfa : Int32) (yty : Int32) (yat : Int32) (yst : Int32) (yso : Int32) (yva : Int32) (yab : Int32) (ybl : Int32) (yis : Int32) (yra : Int32) (gn : Nat → Int32) (pf : Nat → Int32)  : KV l g yX7_notes wsX7_notes 0 0 [.ref M] [(M, ob 7 [.ref nw, .ref dr, .ref pa, .int (nI 6), .ref im, .ref ke, .ref fl, .ref fq, .int yfa, .ref te, .int yty, .int yat, .int yst, .int yso, .int yva, .ref ni, .ref re, .int yab, .int ybl, .int yis, .int yra, .ref ma, .ref be]), (nw, aI g 41 gn), (pa, aI g 246 pf)] (fun (w' : va_W) => ∃ (pf' : Nat → Int32), (∀ t, t < 205 → pf' t = pf (t + 41)) ∧ (∀ t, t < 41 → pf' (205 + t) = gn t) ∧ w' = [(M, ob 7 [.ref nw, .ref dr, .ref pa, .int (nI 6), .ref im, .ref ke, .ref fl, .ref fq, .int yfa, .ref te, .int yty, .int yat, .int yst, .int yso, .int yva, .ref ni, .ref re, .int yab, .int ybl, .int yis, .int yra, .ref ma, .ref be]), (nw, aI g 41 gn), (pa, aI g 246 pf')]) := by
  refine kV_of (cc := cX7_notes) (maxL := 2) (by decide) rfl (Nat.le_of_ble_eq_true rfl) ?_
  intro pp ee ss mm bel mth cd A ls C S hr hl
  obtain ⟨hx, hb, hml, hown, hts⟩ := id C.1
  have hl : lv_has ls 2 [(0, .ref M)] := hl
  obtain ⟨H, hH⟩ : ∃ H, H = ss.heap := ⟨_, rfl⟩
  obtain ⟨locs, hL0⟩ : ∃ L : List Loc, L = [] := ⟨_, rfl⟩
  rw [← hH, ← hL0] at S ⊢
  refine lv_aload_n hx hb dX7_notes_0 rfl (lv_at hl 0 rfl) ?_
  refine top_get C S inX7_notesf_X7 rfl 0 rfl 3 (by decide) (by decide +kernel) rfl rfl dX7_notes_1 ?_
  refine lv_bipush (v := 6) hx hb dX7_notes_4 (by decide) ?_
  refine bn_ine (tgt := 49) (a := 6) (b := 6) hx hb rfl rfl (by omega) (by omega) dX7_notes_6 (by decide) (fun c_1 => ?_) (fun c_1 => ?_)
  · -- 6 T
    exact absurd c_1 (by decide)
  · -- 6 F
    refine lv_iconst (v := 0) hx hb dX7_notes_9 (by decide) ?_
    refine lv_istore_n (lv' := [(1, .int 0), (0, .ref M)]) hx hb dX7_notes_10 rfl hl (by decide) rfl (fun ls hl => ?_)
    have loop11 : ∀ (N0 : Nat) (i : Nat) (p1 : Nat → Int32), 205 - i < N0 → (i ≤ 205) → (∀ t, t < i → p1 t = pf (t + 41)) → (∀ t, i ≤ t → p1 t = pf t) → ∀ (H : Heap) (locs : List Loc) (ls : Array Slot), ST g A ss H locs [(M, ob 7 [.ref nw, .ref dr, .ref pa, .int (nI 6), .ref im, .ref ke, .ref fl, .ref fq, .int yfa, .ref te, .int yty, .int yat, .int yst, .int yso, .int yva, .ref ni, .ref re, .int yab, .int ybl, .int yis, .int yra, .ref ma, .ref be]), (nw, aI g 41 gn), (pa, aI g 246 p1)] → lv_has ls 2 [(1, .int (nI i)), (0, .ref M)] → W pp l ee { frames := 0, cells := 0, slots := 0, locals := 0 } ss mm ([.ref M] : List Value).toArray bel mth cd H locs 0 0 (QV bel ([.ref M] : List Value).toArray ss g A (fun (w' : va_W) => ∃ (pf' : Nat → Int32), (∀ t, t < 205 → pf' t = pf (t + 41)) ∧ (∀ t, t < 41 → pf' (205 + t) = gn t) ∧ w' = [(M, ob 7 [.ref nw, .ref dr, .ref pa, .int (nI 6), .ref im, .ref ke, .ref fl, .ref fq, .int yfa, .ref te, .int yty, .int yat, .int yst, .int yso, .int yva, .ref ni, .ref re, .int yab, .int ybl, .int yis, .int yra, .ref ma, .ref be]), (nw, aI g 41 gn), (pa, aI g 246 pf')])) (F0 mm 11 ls []) := by
      intro N0
      induction N0 with
      | zero => intro i p1 hN; exact absurd hN (Nat.not_lt_zero _)
      | succ N0 ih11 =>
        intro i p1 hN hi hA hC H locs ls S hl
        refine lv_iload_n hx hb dX7_notes_11 rfl (lv_at hl 0 rfl) ?_
        refine lv_sipush (v := 205) hx hb dX7_notes_12 (by decide) ?_
        refine bn_ige (tgt := 39) (a := i) (b := 205) hx hb rfl rfl (by omega) (by omega) dX7_notes_15 (by decide) (fun c_2 => ?_) (fun c_2 => ?_)
        · -- 15 T
          refine lv_aload_n hx hb dX7_notes_39 rfl (lv_at hl 1 rfl) ?_
          refine lv_dup hx hb dX7_notes_40 rfl ?_
          refine top_get C S inX7_notesf_X7 rfl 0 rfl 3 (by decide) (by decide +kernel) rfl rfl dX7_notes_41 ?_
          refine lv_iconst (v := 1) hx hb dX7_notes_44 (by decide) ?_
          refine lv_isub hx hb dX7_notes_45 ?_
          refine top_eq (y := nI (6 - 1)) (pk_sub (a := 6) (b := 1) (by decide)) ?_
          refine top_put (ty := .int) C S inX7_notesf_X7 tyX7 tyX7_ok nmX7 rfl 0 rfl 3 (by decide) (by decide +kernel) rfl rfl (tyX7_ok 3 (by decide)) rfl rfl (Nat.le_of_ble_eq_true rfl) dX7_notes_46 (fun H locs S => ?_)
          have S : ST g A ss H locs [(M, ob 7 [.ref nw, .ref dr, .ref pa, .int (nI (6 - 1)), .ref im, .ref ke, .ref fl, .ref fq, .int yfa, .ref te, .int yty, .int yat, .int yst, .int yso, .int yva, .ref ni, .ref re, .int yab, .int ybl, .int yis, .int yra, .ref ma, .ref be]), (nw, aI g 41 gn), (pa, aI g 246 p1)] := S
          refine lv_iconst (v := 0) hx hb dX7_notes_49 (by decide) ?_
          refine lv_istore_n (lv' := [(1, .int 0), (0, .ref M)]) hx hb dX7_notes_50 rfl hl (by decide) rfl (fun ls hl => ?_)
          have loop51 : ∀ (N0 : Nat) (i : Nat) (p2 : Nat → Int32), 41 - i < N0 → (i ≤ 41) → (∀ t, t < 205 → p2 t = pf (t + 41)) → (∀ t, t < i → p2 (205 + t) = gn t) → ∀ (H : Heap) (locs : List Loc) (ls : Array Slot), ST g A ss H locs [(M, ob 7 [.ref nw, .ref dr, .ref pa, .int (nI (6 - 1)), .ref im, .ref ke, .ref fl, .ref fq, .int yfa, .ref te, .int yty, .int yat, .int yst, .int yso, .int yva, .ref ni, .ref re, .int yab, .int ybl, .int yis, .int yra, .ref ma, .ref be]), (nw, aI g 41 gn), (pa, aI g 246 p2)] → lv_has ls 2 [(1, .int (nI i)), (0, .ref M)] → W pp l ee { frames := 0, cells := 0, slots := 0, locals := 0 } ss mm ([.ref M] : List Value).toArray bel mth cd H locs 0 0 (QV bel ([.ref M] : List Value).toArray ss g A (fun (w' : va_W) => ∃ (pf' : Nat → Int32), (∀ t, t < 205 → pf' t = pf (t + 41)) ∧ (∀ t, t < 41 → pf' (205 + t) = gn t) ∧ w' = [(M, ob 7 [.ref nw, .ref dr, .ref pa, .int (nI 6), .ref im, .ref ke, .ref fl, .ref fq, .int yfa, .ref te, .int yty, .int yat, .int yst, .int yso, .int yva, .ref ni, .ref re, .int yab, .int ybl, .int yis, .int yra, .ref ma, .ref be]), (nw, aI g 41 gn), (pa, aI g 246 pf')])) (F0 mm 51 ls []) := by
            intro N0
            induction N0 with
            | zero => intro i p2 hN; exact absurd hN (Nat.not_lt_zero _)
            | succ N0 ih51 =>
              intro i p2 hN hi hA2 hBt H locs ls S hl
              refine lv_iload_n hx hb dX7_notes_51 rfl (lv_at hl 0 rfl) ?_
              refine lv_bipush (v := 41) hx hb dX7_notes_52 (by decide) ?_
              refine bn_ige (tgt := 83) (a := i) (b := 41) hx hb rfl rfl (by omega) (by omega) dX7_notes_54 (by decide) (fun c_3 => ?_) (fun c_3 => ?_)
              · -- 54 T
                refine lv_aload_n hx hb dX7_notes_83 rfl (lv_at hl 1 rfl) ?_
                refine lv_dup hx hb dX7_notes_84 rfl ?_
                refine top_get C S inX7_notesf_X7 rfl 0 rfl 3 (by decide) (by decide +kernel) rfl rfl dX7_notes_85 ?_
                refine lv_iconst (v := 1) hx hb dX7_notes_88 (by decide) ?_
                refine lv_iadd hx hb dX7_notes_89 ?_
                refine top_eq (y := nI ((6 - 1) + 1)) (nI_add _ _) ?_
                refine top_put (ty := .int) C S inX7_notesf_X7 tyX7 tyX7_ok nmX7 rfl 0 rfl 3 (by decide) (by decide +kernel) rfl rfl (tyX7_ok 3 (by decide)) rfl rfl (Nat.le_of_ble_eq_true rfl) dX7_notes_90 (fun H locs S => ?_)
                have S : ST g A ss H locs [(M, ob 7 [.ref nw, .ref dr, .ref pa, .int (nI ((6 - 1) + 1)), .ref im, .ref ke, .ref fl, .ref fq, .int yfa, .ref te, .int yty, .int yat, .int yst, .int yso, .int yva, .ref ni, .ref re, .int yab, .int ybl, .int yis, .int yra, .ref ma, .ref be]), (nw, aI g 41 gn), (pa, aI g 246 p2)] := S
                exact ret_V C S hr dX7_notes_93 ⟨p2, (hA2), (fun t9 h9 => hBt t9 (by omega)), (rfl)⟩
              · -- 54 F
                refine lv_aload_n hx hb dX7_notes_57 rfl (lv_at hl 1 rfl) ?_
                refine top_get C S inX7_notesf_X7 rfl 0 rfl 2 (by decide) (by decide +kernel) rfl rfl dX7_notes_58 ?_
                refine lv_bipush (v := 41) hx hb dX7_notes_61 (by decide) ?_
                refine lv_aload_n hx hb dX7_notes_63 rfl (lv_at hl 1 rfl) ?_
                refine top_get C S inX7_notesf_X7 rfl 0 rfl 3 (by decide) (by decide +kernel) rfl rfl dX7_notes_64 ?_
                refine lv_imul hx hb dX7_notes_67 ?_
                refine top_eq (y := nI (41 * (6 - 1))) (pk_mul _ _) ?_
                refine lv_iload_n hx hb dX7_notes_68 rfl (lv_at hl 0 rfl) ?_
                refine lv_iadd hx hb dX7_notes_69 ?_
                refine top_eq (y := nI ((41 * (6 - 1)) + i)) (nI_add _ _) ?_
                refine lv_aload_n hx hb dX7_notes_70 rfl (lv_at hl 1 rfl) ?_
                refine top_get C S inX7_notesf_X7 rfl 0 rfl 0 (by decide) (by decide +kernel) rfl rfl dX7_notes_71 ?_
                refine lv_iload_n hx hb dX7_notes_74 rfl (lv_at hl 0 rfl) ?_
                refine top_ild C S 1 rfl (j := i) rfl (by omega) (by decide) dX7_notes_75 ?_
                refine top_ist C S 2 rfl (j := ((41 * (6 - 1)) + i)) rfl (by omega) (by decide) dX7_notes_76 (fun H locs S => ?_)
                have S : ST g A ss H locs [(M, ob 7 [.ref nw, .ref dr, .ref pa, .int (nI (6 - 1)), .ref im, .ref ke, .ref fl, .ref fq, .int yfa, .ref te, .int yty, .int yat, .int yst, .int yso, .int yva, .ref ni, .ref re, .int yab, .int ybl, .int yis, .int yra, .ref ma, .ref be]), (nw, aI g 41 gn), (pa, aI g 246 (upd p2 ((41 * (6 - 1)) + i) (gn i)))] := S
                refine lv_iinc (v := nI (i + 1)) (lv' := [(1, .int (nI (i + 1))), (0, .ref M)]) hx hb dX7_notes_77 hl (k := 0) rfl (nI_add _ _) (by decide) rfl (fun ls hl => ?_)
                refine lv_goto (tgt := 51) hx hb dX7_notes_80 (by decide) ?_
                exact ih51 (i + 1) (upd p2 ((41 * (6 - 1)) + i) (gn i)) (by omega) (by first | assumption | omega) (upd_keep (P := fun t => t < 205) hA2 (by omega)) (by rw [show 41 * (6 - 1) = 205 from rfl]; exact upd_at (b := 205) hBt rfl) H locs ls (ST.eq S (rfl)) (lv_sub hl [0, 1] (rfl))
          exact loop51 _ 0 p1 (Nat.lt_succ_self _) (by first | assumption | omega) (fun t9 h9 => hA t9 (by omega)) (fun t9 h9 => absurd h9 (Nat.not_lt_zero _)) H locs ls (ST.eq S (rfl)) (lv_sub hl [0, 1] (rfl))
        · -- 15 F
          refine lv_aload_n hx hb dX7_notes_18 rfl (lv_at hl 1 rfl) ?_
          refine top_get C S inX7_notesf_X7 rfl 0 rfl 2 (by decide) (by decide +kernel) rfl rfl dX7_notes_19 ?_
          refine lv_iload_n hx hb dX7_notes_22 rfl (lv_at hl 0 rfl) ?_
          refine lv_aload_n hx hb dX7_notes_23 rfl (lv_at hl 1 rfl) ?_
          refine top_get C S inX7_notesf_X7 rfl 0 rfl 2 (by decide) (by decide +kernel) rfl rfl dX7_notes_24 ?_
          refine lv_iload_n hx hb dX7_notes_27 rfl (lv_at hl 0 rfl) ?_
          refine lv_bipush (v := 41) hx hb dX7_notes_28 (by decide) ?_
          refine lv_iadd hx hb dX7_notes_30 ?_
          refine top_eq (y := nI (i + 41)) (nI_add _ _) ?_
          refine top_ild C S 2 rfl (j := (i + 41)) rfl (by omega) (by decide) dX7_notes_31 ?_
          refine top_ist C S 2 rfl (j := i) rfl (by omega) (by decide) dX7_notes_32 (fun H locs S => ?_)
          have S : ST g A ss H locs [(M, ob 7 [.ref nw, .ref dr, .ref pa, .int (nI 6), .ref im, .ref ke, .ref fl, .ref fq, .int yfa, .ref te, .int yty, .int yat, .int yst, .int yso, .int yva, .ref ni, .ref re, .int yab, .int ybl, .int yis, .int yra, .ref ma, .ref be]), (nw, aI g 41 gn), (pa, aI g 246 (upd p1 i (p1 (i + 41))))] := S
          refine lv_iinc (v := nI (i + 1)) (lv' := [(1, .int (nI (i + 1))), (0, .ref M)]) hx hb dX7_notes_33 hl (k := 0) rfl (nI_add _ _) (by decide) rfl (fun ls hl => ?_)
          refine lv_goto (tgt := 11) hx hb dX7_notes_36 (by decide) ?_
          exact ih11 (i + 1) (upd p1 i (p1 (i + 41))) (by omega) (by first | assumption | omega) (fun t9 h9 => by by_cases e9 : t9 = i; (subst e9; rw [pk_us]; exact hC _ (by omega)); (rw [pk_un e9]; exact hA t9 (by omega))) (fun t9 h9 => by rw [pk_un (by omega)]; exact hC t9 (by omega)) H locs ls (ST.eq S (rfl)) (lv_sub hl [0, 1] (rfl))
    exact loop11 _ 0 pf (Nat.lt_succ_self _) (by first | assumption | omega) (fun t9 h9 => absurd h9 (Nat.not_lt_zero _)) (fun t9 _ => rfl) H locs ls (ST.eq S (rfl)) (lv_sub hl [0, 1] (rfl))

theorem kX7_notes (l : Launch) (g : GG) (M : Nat) (nw : Nat) (dr : Nat) (pa : Nat) (im : Nat) (ke : Nat) (fl : Nat) (fq : Nat) (te : Nat) (ni : Nat) (re : Nat) (ma : Nat) (be : Nat) (yfa : Int32) (yty : Int32) (yat : Int32) (yst : Int32) (yso : Int32) (yva : Int32) (yab : Int32) (ybl : Int32) (yis : Int32) (yra : Int32) (z : Nat) (gn : Nat → Int32) (pf : Nat → Int32) (hz6 : z ≤ 6) : KV l g yX7_notes wsX7_notes 0 0 [.ref M] [(M, ob 7 [.ref nw, .ref dr, .ref pa, .int (nI z), .ref im, .ref ke, .ref fl, .ref fq, .int yfa, .ref te, .int yty, .int yat, .int yst, .int yso, .int yva, .ref ni, .ref re, .int yab, .int ybl, .int yis, .int yra, .ref ma, .ref be]), (nw, aI g 41 gn), (pa, aI g 246 pf)] (fun (w' : va_W) => ∃ (pf' : Nat → Int32), (notesP z gn pf pf') ∧ w' = [(M, ob 7 [.ref nw, .ref dr, .ref pa, .int (nI (min (z + 1) 6)), .ref im, .ref ke, .ref fl, .ref fq, .int yfa, .ref te, .int yty, .int yat, .int yst, .int yso, .int yva, .ref ni, .ref re, .int yab, .int ybl, .int yis, .int yra, .ref ma, .ref be]), (nw, aI g 41 gn), (pa, aI g 246 pf')]) := by
  intro sz
  rcases (show z < 6 ∨ z = 6 by omega) with h | rfl
  · refine met_mono ?_ (kX7_notesl l g M nw dr pa im ke fl fq te ni re ma be yfa yty yat yst yso yva yab ybl yis yra z gn pf h sz)
    rintro a s o t ⟨⟨u, e1, ⟨p9, a9, b9, rfl⟩, e3⟩, e4⟩
    exact ⟨⟨_, e1, ⟨p9, ⟨fun _ => ⟨a9, b9⟩, fun q => absurd q (by omega)⟩, by rw [show min (z + 1) 6 = z + 1 by omega]⟩, e3⟩, e4⟩
  · refine met_mono ?_ (kX7_notesf l g M nw dr pa im ke fl fq te ni re ma be yfa yty yat yst yso yva yab ybl yis yra gn pf sz)
    rintro a s o t ⟨⟨u, e1, ⟨p9, a9, b9, rfl⟩, e3⟩, e4⟩
    exact ⟨⟨_, e1, ⟨p9, ⟨fun q => absurd q (by decide), fun _ => ⟨a9, b9⟩⟩, rfl⟩, e3⟩, e4⟩
