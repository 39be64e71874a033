theorem inX7_reads_X7 : ∀ w ∈ wsX70, w ∈ wsX7_reads := by decide +kernel
set_option maxRecDepth 100000 in
set_option maxHeartbeats 4000000 in
theorem kX7_reads (l : Launch) (g : GG) (M : Nat) (nw : Nat) (dr : Nat) (pa : Nat) (im : Nat) (ke : Nat) (fl : Nat) (fq : Nat) (te : Nat) (ni : Nat) (re : Nat) (ma : Nat) (be : Nat) (ypa : Int32) (yfa : Int32) (yat : Int32) (yst : Int32) (yso : Int32) (yab : Int32) (ybl : Int32) (yis : Int32) (yra : Int32) (tx : Nat → Int32) (z : Nat) (ch : Nat → Nat) (v0 : Nat) (df : Nat → Int32) (hz : z ≤ 100) (htx : ∀ i, i < z → tx i = nI (ch i)) (hch : ∀ i, i < z → ch i ≤ 255) (hv0 : v0 ≤ 2000) : KI l g yX7_reads wsX7_reads 5 109 [.ref M] [(M, ob 7 [.ref nw, .ref dr, .ref pa, .int ypa, .ref im, .ref ke, .ref fl, .ref fq, .int yfa, .ref te, .int (nI z), .int yat, .int yst, .int yso, .int (nI v0), .ref ni, .ref re, .int yab, .int ybl, .int yis, .int yra, .ref ma, .ref be]), (te, aI g 100 tx), (dr, aI g 41 df)] (fun (r : Int32) (w' : va_W) => r = (bI ((RD ch z).1.isNone)) ∧ ∃ (at' : Nat), ∃ (st' : Nat), ∃ (so' : Nat), ∃ (va' : Nat), ∃ (df' : Nat → Int32), (∀ q9, (RD ch z).1 = some q9 → st' = q9) ∧ (va' ≤ 2000) ∧ ((RD ch z).1 = none → df' 0 = nI (RD ch z).2.1 ∧ (∀ a i, a < 4 → i < (RD ch z).2.1 → df' (5 * i + (a + 1)) = nI ((RD ch z).2.2 a i)) ∧ ∀ i, i < (RD ch z).2.1 → df' (5 * i + 5) = 1) ∧ w' = [(M, ob 7 [.ref nw, .ref dr, .ref pa, .int ypa, .ref im, .ref ke, .ref fl, .ref fq, .int yfa, .ref te, .int (nI z), .int (nI at'), .int (nI st'), .int (nI so'), .int (nI va'), .ref ni, .ref re, .int yab, .int ybl, .int yis, .int yra, .ref ma, .ref be]), (te, aI g 100 tx), (dr, aI g 41 df')]) := by
  refine kI_of (cc := cX7_reads) (maxL := 2) (by decide) rfl (Nat.le_of_ble_eq_true rfl) ?_
  intro pp ee ss mm bel mth cd A ls C S hr hl
  obtain ⟨hx, hb, hml, hown, hts⟩ := id C.1
  have hl : lv_has ls 2 [(0, .ref M)] := hl
  obtain ⟨H, hH⟩ : ∃ H, H = ss.heap := ⟨_, rfl⟩
  obtain ⟨locs, hL0⟩ : ∃ L : List Loc, L = [] := ⟨_, rfl⟩
  rw [← hH, ← hL0] at S ⊢
  have hs09 := soQ_le (ch := ch) (z := z) (p := bk ch z 0)
  refine lv_iconst (v := 0) hx hb dX7_reads_0 (by decide) ?_
  refine lv_istore_n (lv' := [(1, .int 0), (0, .ref M)]) hx hb dX7_reads_1 rfl hl (by decide) rfl (fun ls hl => ?_)
  have loop2 : ∀ (N0 : Nat) (i : Nat) (d1 : Nat → Int32), 41 - i < N0 → (i ≤ 41) → (∀ t, t < i → d1 t = 0) → ∀ (H : Heap) (locs : List Loc) (ls : Array Slot), ST g A ss H locs [(M, ob 7 [.ref nw, .ref dr, .ref pa, .int ypa, .ref im, .ref ke, .ref fl, .ref fq, .int yfa, .ref te, .int (nI z), .int yat, .int yst, .int yso, .int (nI v0), .ref ni, .ref re, .int yab, .int ybl, .int yis, .int yra, .ref ma, .ref be]), (te, aI g 100 tx), (dr, aI g 41 d1)] → lv_has ls 2 [(1, .int (nI i)), (0, .ref M)] → W pp l ee { frames := 5, cells := 0, slots := 0, locals := 109 } ss mm ([.ref M] : List Value).toArray bel mth cd H locs 0 0 (QI bel ([.ref M] : List Value).toArray ss g A (fun (r : Int32) (w' : va_W) => r = (bI ((RD ch z).1.isNone)) ∧ ∃ (at' : Nat), ∃ (st' : Nat), ∃ (so' : Nat), ∃ (va' : Nat), ∃ (df' : Nat → Int32), (∀ q9, (RD ch z).1 = some q9 → st' = q9) ∧ (va' ≤ 2000) ∧ ((RD ch z).1 = none → df' 0 = nI (RD ch z).2.1 ∧ (∀ a i, a < 4 → i < (RD ch z).2.1 → df' (5 * i + (a + 1)) = nI ((RD ch z).2.2 a i)) ∧ ∀ i, i < (RD ch z).2.1 → df' (5 * i + 5) = 1) ∧ w' = [(M, ob 7 [.ref nw, .ref dr, .ref pa, .int ypa, .ref im, .ref ke, .ref fl, .ref fq, .int yfa, .ref te, .int (nI z), .int (nI at'), .int (nI st'), .int (nI so'), .int (nI va'), .ref ni, .ref re, .int yab, .int ybl, .int yis, .int yra, .ref ma, .ref be]), (te, aI g 100 tx), (dr, aI g 41 df')])) (F0 mm 2 ls []) := by
    intro N0
    induction N0 with
    | zero => intro i d1 hN; exact absurd hN (Nat.not_lt_zero _)
    | succ N0 ih2 =>
      intro i d1 hN hi hz0 H locs ls S hl
      refine lv_iload_n hx hb dX7_reads_2 rfl (lv_at hl 0 rfl) ?_
      refine lv_bipush (v := 41) hx hb dX7_reads_3 (by decide) ?_
      refine bn_ige (tgt := 21) (a := i) (b := 41) hx hb rfl rfl (by omega) (by omega) dX7_reads_5 (by decide) (fun c_1 => ?_) (fun c_1 => ?_)
      · -- 5 T
        refine lv_aload_n hx hb dX7_reads_21 rfl (lv_at hl 1 rfl) ?_
        refine lv_iconst (v := 0) hx hb dX7_reads_22 (by decide) ?_
        refine top_put (ty := .int) C S inX7_reads_X7 tyX7 tyX7_ok nmX7 rfl 0 rfl 11 (by decide) (by decide +kernel) rfl rfl (tyX7_ok 11 (by decide)) rfl rfl (Nat.le_of_ble_eq_true rfl) dX7_reads_23 (fun H locs S => ?_)
        have S : ST g A ss H locs [(M, ob 7 [.ref nw, .ref dr, .ref pa, .int ypa, .ref im, .ref ke, .ref fl, .ref fq, .int yfa, .ref te, .int (nI z), .int 0, .int yst, .int yso, .int (nI v0), .ref ni, .ref re, .int yab, .int ybl, .int yis, .int yra, .ref ma, .ref be]), (te, aI g 100 tx), (dr, aI g 41 d1)] := S
        refine lv_aload_n hx hb dX7_reads_26 rfl (lv_at hl 1 rfl) ?_
        refine after_V (wc := [(M, ob 7 [.ref nw, .ref dr, .ref pa, .int ypa, .ref im, .ref ke, .ref fl, .ref fq, .int yfa, .ref te, .int (nI z), .int (nI 0), .int yst, .int yso, .int (nI v0), .ref ni, .ref re, .int yab, .int ybl, .int yis, .int yra, .ref ma, .ref be]), (te, aI g 100 tx)]) (y := yX7_token) C S (va_runV (As := []) (rest := []) C.1 (kX7_token l g M nw dr pa im ke fl fq te ni re ma be ypa yfa yst yso yab ybl yis yra tx z ch 0 v0 (by first | assumption | omega) (by first | assumption | omega) (by first | assumption | omega) (Nat.zero_le _) H.size) (cwV 0 hts gX7_reads_X7_token rfl rfl rfl (by decide +kernel) ⟨Nat.le_of_ble_eq_true rfl, Nat.le_of_ble_eq_true rfl⟩) (preV_at C S 0 rfl rfl [0, 1] rfl (by decide)) rfl rfl hl.1 rfl (lv_room (Nat.le_of_ble_eq_true rfl)) dX7_reads_27 ⟨Nat.le_of_ble_eq_true rfl, Nat.le_of_ble_eq_true rfl⟩) [0, 1] [2] rfl (wr := [(dr, aI g 41 d1)]) rfl (by decide) (by decide) (fun w0 H locs hq S => ?_)
        subst hq
        have S : ST g A ss H locs [(M, ob 7 [.ref nw, .ref dr, .ref pa, .int ypa, .ref im, .ref ke, .ref fl, .ref fq, .int yfa, .ref te, .int (nI z), .int (nI (enQ ch z (bk ch z 0))), .int (nI (bk ch z 0)), .int (nI (soQ ch z (bk ch z 0))), .int (nI (vaQ ch z (bk ch z 0) v0)), .ref ni, .ref re, .int yab, .int ybl, .int yis, .int yra, .ref ma, .ref be]), (te, aI g 100 tx), (dr, aI g 41 d1)] := ST.sub S [1, 2, 0] (by decide) rfl
        have loop30 : ∀ (N0 : Nat) (p : Nat) (n : Nat) (nu : Nat → Nat → Nat) (v : Nat) (K : Nat) (d2 : Nat → Int32), z - p < N0 → (p ≤ z) → (HT nu n 0) → (v ≤ 2000) → (d2 0 = nI n) → (∀ a i, a < 4 → i < n → d2 (5 * i + (a + 1)) = nI (nu a i)) → (∀ i, i < n → d2 (5 * i + 5) = 1) → (z ≤ p + K) → (rd ch z K 0 p n nu = RD ch z) → (p < z ∨ n = 0) → ∀ (H : Heap) (locs : List Loc) (ls : Array Slot), ST g A ss H locs [(M, ob 7 [.ref nw, .ref dr, .ref pa, .int ypa, .ref im, .ref ke, .ref fl, .ref fq, .int yfa, .ref te, .int (nI z), .int (nI (enQ ch z p)), .int (nI p), .int (nI (soQ ch z p)), .int (nI v), .ref ni, .ref re, .int yab, .int ybl, .int yis, .int yra, .ref ma, .ref be]), (te, aI g 100 tx), (dr, aI g 41 d2)] → lv_has ls 2 [(1, .int (nI i)), (0, .ref M)] → W pp l ee { frames := 5, cells := 0, slots := 0, locals := 109 } ss mm ([.ref M] : List Value).toArray bel mth cd H locs 0 0 (QI bel ([.ref M] : List Value).toArray ss g A (fun (r : Int32) (w' : va_W) => r = (bI ((RD ch z).1.isNone)) ∧ ∃ (at' : Nat), ∃ (st' : Nat), ∃ (so' : Nat), ∃ (va' : Nat), ∃ (df' : Nat → Int32), (∀ q9, (RD ch z).1 = some q9 → st' = q9) ∧ (va' ≤ 2000) ∧ ((RD ch z).1 = none → df' 0 = nI (RD ch z).2.1 ∧ (∀ a i, a < 4 → i < (RD ch z).2.1 → df' (5 * i + (a + 1)) = nI ((RD ch z).2.2 a i)) ∧ ∀ i, i < (RD ch z).2.1 → df' (5 * i + 5) = 1) ∧ w' = [(M, ob 7 [.ref nw, .ref dr, .ref pa, .int ypa, .ref im, .ref ke, .ref fl, .ref fq, .int yfa, .ref te, .int (nI z), .int (nI at'), .int (nI st'), .int (nI so'), .int (nI va'), .ref ni, .ref re, .int yab, .int ybl, .int yis, .int yra, .ref ma, .ref be]), (te, aI g 100 tx), (dr, aI g 41 df')])) (F0 mm 30 ls []) := by
          intro N0
          induction N0 with
          | zero => intro p n nu v K d2 hN; exact absurd hN (Nat.not_lt_zero _)
          | succ N0 ih30 =>
            intro p n nu v K d2 hN hp hHT hv hd0 hdn hdw hK hrd hpn H locs ls S hl
            refine lv_aload_n hx hb dX7_reads_30 rfl (lv_at hl 1 rfl) ?_
            refine after_I (wc := [(M, ob 7 [.ref nw, .ref dr, .ref pa, .int ypa, .ref im, .ref ke, .ref fl, .ref fq, .int yfa, .ref te, .int (nI z), .int (nI (enQ ch z p)), .int (nI p), .int (nI (soQ ch z p)), .int (nI v), .ref ni, .ref re, .int yab, .int ybl, .int yis, .int yra, .ref ma, .ref be]), (te, aI g 100 tx), (dr, aI g 41 d2)]) (y := yX7_readsLeaf) C S (va_runV (As := []) (rest := []) C.1 (kX7_readsLeaf l g M nw dr pa im ke fl fq te ni re ma be ypa yfa yab ybl yis yra tx z ch p v d2 n nu (by first | assumption | omega) (by first | assumption | omega) (by first | assumption | omega) (by first | assumption | omega) (by first | assumption | omega) hHT.1 (by first | assumption | omega) (fun q9 => by rw [show 5 * n - 5 + 1 = 5 * (n - 1) + (0 + 1) by omega]; exact hdn 0 (n - 1) (by decide) (by omega)) (fAb_le hHT.2.2.2.1) H.size) (cwV 0 hts gX7_reads_X7_readsLeaf rfl rfl rfl (by decide +kernel) ⟨Nat.le_of_ble_eq_true rfl, Nat.le_of_ble_eq_true rfl⟩) (preV_at C S 0 rfl rfl [0, 1, 2] rfl (by decide)) rfl rfl hl.1 rfl (lv_room (Nat.le_of_ble_eq_true rfl)) dX7_reads_31 ⟨Nat.le_of_ble_eq_true rfl, Nat.le_of_ble_eq_true rfl⟩) [0, 1, 2] [] rfl (wr := []) rfl (by decide) (by decide) (fun r0 w0 H locs hq S => ?_)
            obtain ⟨rfl, at1, st1, so1, va1, df1, hfp1, hv1, hsz1, hT1, rfl⟩ := hq
            have S : ST g A ss H locs [(M, ob 7 [.ref nw, .ref dr, .ref pa, .int ypa, .ref im, .ref ke, .ref fl, .ref fq, .int yfa, .ref te, .int (nI z), .int (nI at1), .int (nI st1), .int (nI so1), .int (nI va1), .ref ni, .ref re, .int yab, .int ybl, .int yis, .int yra, .ref ma, .ref be]), (te, aI g 100 tx), (dr, aI g 41 df1)] := S
            refine br_neB (tgt := 39) hx hb dX7_reads_34 (by decide) (fun c_2 => ?_) (fun c_2 => ?_)
            · -- 34 T
              obtain ⟨hT1, hT2⟩ := hT1 c_2
              subst hfp1
              subst hT1
              subst hT2
              obtain ⟨nu2, K2, g1, g2, g3, g4, g5, g6, g7, g8⟩ := leaf_ok hK hHT c_2
              have hs6 := soQ_le (ch := ch) (z := z) (p := bk ch z (enQ ch z (fpN ch z p n v (fAb nu n))))
              have ea : enQ ch z (fpN ch z p n v (fAb nu n)) ≤ z := (enQ_in hsz1).2
              refine lv_aload_n hx hb dX7_reads_39 rfl (lv_at hl 1 rfl) ?_
              refine after_V (wc := [(M, ob 7 [.ref nw, .ref dr, .ref pa, .int ypa, .ref im, .ref ke, .ref fl, .ref fq, .int yfa, .ref te, .int (nI z), .int (nI (enQ ch z (fpN ch z p n v (fAb nu n)))), .int (nI (fpN ch z p n v (fAb nu n))), .int (nI so1), .int (nI va1), .ref ni, .ref re, .int yab, .int ybl, .int yis, .int yra, .ref ma, .ref be]), (te, aI g 100 tx)]) (y := yX7_token) C S (va_runV (As := []) (rest := []) C.1 (kX7_token l g M nw dr pa im ke fl fq te ni re ma be ypa yfa (nI (fpN ch z p n v (fAb nu n))) (nI so1) yab ybl yis yra tx z ch (enQ ch z (fpN ch z p n v (fAb nu n))) va1 (by first | assumption | omega) (by first | assumption | omega) (by first | assumption | omega) ea H.size) (cwV 0 hts gX7_reads_X7_token rfl rfl rfl (by decide +kernel) ⟨Nat.le_of_ble_eq_true rfl, Nat.le_of_ble_eq_true rfl⟩) (preV_at C S 0 rfl rfl [0, 1] rfl (by decide)) rfl rfl hl.1 rfl (lv_room (Nat.le_of_ble_eq_true rfl)) dX7_reads_40 ⟨Nat.le_of_ble_eq_true rfl, Nat.le_of_ble_eq_true rfl⟩) [0, 1] [2] rfl (wr := [(dr, aI g 41 (drN d2 n (V1 ch z p v) (V1 ch z (Pq ch z p) (V1 ch z p v)) (V1 ch z (Pq ch z (Pq ch z p)) (V1 ch z (Pq ch z p) (V1 ch z p v))) (V1 ch z (Pq ch z (Pq ch z (Pq ch z p))) (V1 ch z (Pq ch z (Pq ch z p)) (V1 ch z (Pq ch z p) (V1 ch z p v))))))]) rfl (by decide) (by decide) (fun w0 H locs hq S => ?_)
              subst hq
              have S : ST g A ss H locs [(M, ob 7 [.ref nw, .ref dr, .ref pa, .int ypa, .ref im, .ref ke, .ref fl, .ref fq, .int yfa, .ref te, .int (nI z), .int (nI (enQ ch z (bk ch z (enQ ch z (fpN ch z p n v (fAb nu n)))))), .int (nI (bk ch z (enQ ch z (fpN ch z p n v (fAb nu n))))), .int (nI (soQ ch z (bk ch z (enQ ch z (fpN ch z p n v (fAb nu n)))))), .int (nI (vaQ ch z (bk ch z (enQ ch z (fpN ch z p n v (fAb nu n)))) va1)), .ref ni, .ref re, .int yab, .int ybl, .int yis, .int yra, .ref ma, .ref be]), (te, aI g 100 tx), (dr, aI g 41 (drN d2 n (V1 ch z p v) (V1 ch z (Pq ch z p) (V1 ch z p v)) (V1 ch z (Pq ch z (Pq ch z p)) (V1 ch z (Pq ch z p) (V1 ch z p v))) (V1 ch z (Pq ch z (Pq ch z (Pq ch z p))) (V1 ch z (Pq ch z (Pq ch z p)) (V1 ch z (Pq ch z p) (V1 ch z p v))))))] := ST.sub S [1, 2, 0] (by decide) rfl
              refine lv_aload_n hx hb dX7_reads_43 rfl (lv_at hl 1 rfl) ?_
              refine top_get C S inX7_reads_X7 rfl 0 rfl 13 (by decide) (by decide +kernel) rfl rfl dX7_reads_44 ?_
              refine bn_zne (tgt := 30) (a := soQ ch z (bk ch z (enQ ch z (fpN ch z p n v (fAb nu n))))) hx hb rfl (by omega) dX7_reads_47 (by decide) (fun c_3 => ?_) (fun c_3 => ?_)
              · -- 47 T
                exact ih30 (bk ch z (enQ ch z (fpN ch z p n v (fAb nu n)))) (n + 1) nu2 (vaQ ch z (bk ch z (enQ ch z (fpN ch z p n v (fAb nu n)))) va1) K2 (drN d2 n (V1 ch z p v) (V1 ch z (Pq ch z p) (V1 ch z p v)) (V1 ch z (Pq ch z (Pq ch z p)) (V1 ch z (Pq ch z p) (V1 ch z p v))) (V1 ch z (Pq ch z (Pq ch z (Pq ch z p))) (V1 ch z (Pq ch z (Pq ch z p)) (V1 ch z (Pq ch z p) (V1 ch z p v))))) (by omega) (g5) (g2) (va_le hch hv1) (dr_0) (fun a i ha hi => by rw [g8 a i ha hi]; exact dr_n hdn a i ha hi) (dr_w hdw) (g3) (by rw [← g1]; exact hrd) (Or.inl (by rcases Nat.lt_or_ge (bk ch z (enQ ch z (fpN ch z p n v (fAb nu n)))) z with q9 | q9; exact q9; exact absurd (soQ_0.mpr (by omega)) c_3)) H locs ls (ST.eq S (rfl)) (lv_sub hl [0, 1] (rfl))
              · -- 47 F
                have hend := soQ_0.mp c_3
                have hRD : RD ch z = (none, n + 1, nu2) := by rw [← hrd, g1, rd_end hend, if_pos ⟨rfl, by omega⟩]
                refine lv_iconst (v := 1) hx hb dX7_reads_50 (by decide) ?_
                exact ret_Z ((RD ch z).1.isNone) C S hr dX7_reads_51 (by rw [hRD] <;> rfl) ⟨(by rw [hRD] <;> rfl), (enQ ch z (bk ch z (enQ ch z (fpN ch z p n v (fAb nu n))))), (bk ch z (enQ ch z (fpN ch z p n v (fAb nu n)))), (soQ ch z (bk ch z (enQ ch z (fpN ch z p n v (fAb nu n))))), (vaQ ch z (bk ch z (enQ ch z (fpN ch z p n v (fAb nu n)))) va1), (drN d2 n (V1 ch z p v) (V1 ch z (Pq ch z p) (V1 ch z p v)) (V1 ch z (Pq ch z (Pq ch z p)) (V1 ch z (Pq ch z p) (V1 ch z p v))) (V1 ch z (Pq ch z (Pq ch z (Pq ch z p))) (V1 ch z (Pq ch z (Pq ch z p)) (V1 ch z (Pq ch z p) (V1 ch z p v))))), (fun q9 h9 => by rw [hRD] at h9; cases h9), (va_le hch hv1), (fun _ => by rw [hRD]; exact ⟨dr_0, fun a i ha hi => by show _ = nI (nu2 a i); rw [g8 a i ha hi]; exact dr_n hdn a i ha hi, dr_w hdw⟩), (rfl)⟩
            · -- 34 F
              have hbad := leaf_bad hp hK hHT hpn c_2
              rw [hrd, ← hfp1] at hbad
              refine lv_iconst (v := 0) hx hb dX7_reads_37 (by decide) ?_
              exact ret_Z ((RD ch z).1.isNone) C S hr dX7_reads_38 (by rw [show (RD ch z).1.isNone = false by rw [hbad] <;> rfl] <;> rfl) ⟨(by rw [show (RD ch z).1.isNone = false by rw [hbad] <;> rfl] <;> rfl), at1, st1, so1, va1, df1, (fun q9 h9 => by rw [hbad] at h9; exact Option.some.inj h9), (hv1), (fun h9 => by rw [hbad] at h9; cases h9), (rfl)⟩
        exact loop30 _ (bk ch z 0) 0 nu00 (vaQ ch z (bk ch z 0) v0) 100 d1 (Nat.lt_succ_self _) ((bk_in (Nat.zero_le _)).2) (⟨by decide, by decide, fun q => absurd q (by decide), fun i hi => absurd hi (Nat.not_lt_zero _), fun a ha => by omega⟩) (va_le hch hv0) (hz0 0 (by omega)) (fun a i ha hi => absurd hi (Nat.not_lt_zero _)) (fun i hi => absurd hi (Nat.not_lt_zero _)) (by omega) (rfl) (Or.inr rfl) H locs ls (ST.eq S (rfl)) (lv_sub hl [0, 1] (rfl))
      · -- 5 F
        refine lv_aload_n hx hb dX7_reads_8 rfl (lv_at hl 1 rfl) ?_
        refine top_get C S inX7_reads_X7 rfl 0 rfl 1 (by decide) (by decide +kernel) rfl rfl dX7_reads_9 ?_
        refine lv_iload_n hx hb dX7_reads_12 rfl (lv_at hl 0 rfl) ?_
        refine lv_iconst (v := 0) hx hb dX7_reads_13 (by decide) ?_
        refine top_ist C S 2 rfl (j := i) rfl (by omega) (by decide) dX7_reads_14 (fun H locs S => ?_)
        have S : ST g A ss H locs [(M, ob 7 [.ref nw, .ref dr, .ref pa, .int ypa, .ref im, .ref ke, .ref fl, .ref fq, .int yfa, .ref te, .int (nI z), .int yat, .int yst, .int yso, .int (nI v0), .ref ni, .ref re, .int yab, .int ybl, .int yis, .int yra, .ref ma, .ref be]), (te, aI g 100 tx), (dr, aI g 41 (upd d1 i 0))] := S
        refine lv_iinc (v := nI (i + 1)) (lv' := [(1, .int (nI (i + 1))), (0, .ref M)]) hx hb dX7_reads_15 hl (k := 0) rfl (nI_add _ _) (by decide) rfl (fun ls hl => ?_)
        refine lv_goto (tgt := 2) hx hb dX7_reads_18 (by decide) ?_
        exact ih2 (i + 1) (upd d1 i 0) (by omega) (by first | assumption | omega) (fun t9 h9 => by by_cases e9 : t9 = i; (subst e9; rw [pk_us]); (rw [pk_un e9]; exact hz0 t9 (by omega))) H locs ls (ST.eq S (rfl)) (lv_sub hl [0, 1] (rfl))
  exact loop2 _ 0 df (Nat.lt_succ_self _) (by first | assumption | omega) (fun t9 h9 => absurd h9 (Nat.not_lt_zero _)) H locs ls (ST.eq S (rfl)) (lv_sub hl [0, 1] (rfl))

theorem inX7_tellsf_X7 : ∀ w ∈ wsX70, w ∈ wsX7_tells := by decide +kernel
set_option maxRecDepth 100000 in
set_option maxHeartbeats 4000000 in
theorem kX7_tellsf (l : Launch) (g : GG) (M : Nat) (nw : Nat) (dr : Nat) (pa : Nat) (im : Nat) (ke : Nat) (fl : Nat) (fq : Nat) (te : Nat) (ni : Nat) (re : Nat) (ma : Nat) (be : Nat) (ypa : Int32) (yfa : Int32) (yat : Int32) (yst : Int32) (yso : Int32) (yab : Int32) (ybl : Int32) (yis : Int32) (yra : Int32) (tx : Nat → Int32) (z : Nat) (ch : Nat → Nat) (v0 : Nat) (df : Nat → Int32) (qf : Nat) (hz : z ≤ 100) (htx : ∀ i, i < z → tx i = nI (ch i)) (hch : ∀ i, i < z → ch i ≤ 255) (hv0 : v0 ≤ 2000) (hfault : (RD ch z).1 = some qf) : KI l g yX7_tells wsX7_tells 6 130 [.ref M] [(M, ob 7 [.ref nw, .ref dr, .ref pa, .int ypa, .ref im, .ref ke, .ref fl, .ref fq, .int yfa, .ref te, .int (nI z), .int yat, .int yst, .int yso, .int (nI v0), .ref ni, .ref re, .int yab, .int ybl, .int yis, .int yra, .ref ma, .ref be]), (te, aI g 100 tx), (dr, aI g 41 df)] (fun (r : Int32) (w' : va_W) => r = ((-10) - nI qf) ∧ ∃ (at' : Nat), ∃ (st' : Nat), ∃ (so' : Nat), ∃ (va' : Nat), ∃ (df' : Nat → Int32), (va' ≤ 2000) ∧ w' = [(M, ob 7 [.ref nw, .ref dr, .ref pa, .int ypa, .ref im, .ref ke, .ref fl, .ref fq, .int yfa, .ref te, .int (nI z), .int (nI at'), .int (nI st'), .int (nI so'), .int (nI va'), .ref ni, .ref re, .int yab, .int ybl, .int yis, .int yra, .ref ma, .ref be]), (te, aI g 100 tx), (dr, aI g 41 df')]) := by
  refine kI_of (cc := cX7_tells) (maxL := 2) (by decide) rfl (Nat.le_of_ble_eq_true rfl) ?_
  intro pp ee ss mm bel mth cd A ls C S hr hl
  obtain ⟨hx, hb, hml, hown, hts⟩ := id C.1
  have hl : lv_has ls 2 [(0, .ref M)] := hl
  obtain ⟨H, hH⟩ : ∃ H, H = ss.heap := ⟨_, rfl⟩
  obtain ⟨locs, hL0⟩ : ∃ L : List Loc, L = [] := ⟨_, rfl⟩
  rw [← hH, ← hL0] at S ⊢
  refine lv_aload_n hx hb dX7_tells_0 rfl (lv_at hl 0 rfl) ?_
  refine after_I (wc := [(M, ob 7 [.ref nw, .ref dr, .ref pa, .int ypa, .ref im, .ref ke, .ref fl, .ref fq, .int yfa, .ref te, .int (nI z), .int yat, .int yst, .int yso, .int (nI v0), .ref ni, .ref re, .int yab, .int ybl, .int yis, .int yra, .ref ma, .ref be]), (te, aI g 100 tx), (dr, aI g 41 df)]) (y := yX7_reads) C S (va_runV (As := []) (rest := []) C.1 (kX7_reads l g M nw dr pa im ke fl fq te ni re ma be ypa yfa yat yst yso yab ybl yis yra tx z ch v0 df (by first | assumption | omega) (by first | assumption | omega) (by first | assumption | omega) (by first | assumption | omega) H.size) (cwV 0 hts gX7_tells_X7_reads rfl rfl rfl (by decide +kernel) ⟨Nat.le_of_ble_eq_true rfl, Nat.le_of_ble_eq_true rfl⟩) (preV_at C S 0 rfl rfl [0, 1, 2] rfl (by decide)) rfl rfl hl.1 rfl (lv_room (Nat.le_of_ble_eq_true rfl)) dX7_tells_1 ⟨Nat.le_of_ble_eq_true rfl, Nat.le_of_ble_eq_true rfl⟩) [0, 1, 2] [] rfl (wr := []) rfl (by decide) (by decide) (fun r0 w0 H locs hq S => ?_)
  obtain ⟨rfl, at1, st1, so1, va1, df1, hs1, hv1, hr1, rfl⟩ := hq
  have S : ST g A ss H locs [(M, ob 7 [.ref nw, .ref dr, .ref pa, .int ypa, .ref im, .ref ke, .ref fl, .ref fq, .int yfa, .ref te, .int (nI z), .int (nI at1), .int (nI st1), .int (nI so1), .int (nI va1), .ref ni, .ref re, .int yab, .int ybl, .int yis, .int yra, .ref ma, .ref be]), (te, aI g 100 tx), (dr, aI g 41 df1)] := S
  refine br_neB (tgt := 15) hx hb dX7_tells_4 (by decide) (fun c_1 => ?_) (fun c_1 => ?_)
  · -- 4 T
    rw [hfault] at c_1; cases c_1
  · -- 4 F
    refine lv_bipush (v := (-10)) hx hb dX7_tells_7 (by decide) ?_
    refine lv_aload_n hx hb dX7_tells_9 rfl (lv_at hl 0 rfl) ?_
    refine top_get C S inX7_tellsf_X7 rfl 0 rfl 12 (by decide) (by decide +kernel) rfl rfl dX7_tells_10 ?_
    refine lv_isub hx hb dX7_tells_13 ?_
    exact ret_I C S hr dX7_tells_14 ⟨(by rw [hs1 qf hfault]), at1, st1, so1, va1, df1, (hv1), (rfl)⟩

theorem inX7_tellsg_X7 : ∀ w ∈ wsX70, w ∈ wsX7_tells := by decide +kernel
set_option maxRecDepth 100000 in
set_option maxHeartbeats 4000000 in
theorem kX7_tellsg (l : Launch) (g : GG) (M : Nat) (nw : Nat) (dr : Nat) (pa : Nat) (im : Nat) (ke : Nat) (fl : Nat) (fq : Nat) (te : Nat) (ni : Nat) (re : Nat) (ma : Nat) (be : Nat) (yat : Int32) (yst : Int32) (yso : Int32) (yab : Int32) (ybl : Int32) (yis : Int32) (yra : Int32) (tx : Nat → Int32) (tz : Nat) (ch : Nat → Nat) (v0 : Nat) (df : Nat → Int32) (gn : Nat → Int32) (pf : Nat → Int32) (kz : Nat → Int32) (z : Nat) (sz : Nat) (hz : tz ≤ 100) (htx : ∀ i, i < tz → tx i = nI (ch i)) (hch : ∀ i, i < tz → ch i ≤ 255) (hv0 : v0 ≤ 2000) (hz6 : z ≤ 6) (hok : (RD ch tz).1 = none) : KI l g yX7_tells wsX7_tells 6 130 [.ref M] [(M, ob 7 [.ref nw, .ref dr, .ref pa, .int (nI z), .ref im, .ref ke, .ref fl, .ref fq, .int (nI sz), .ref te, .int (nI tz), .int yat, .int yst, .int yso, .int (nI v0), .ref ni, .ref re, .int yab, .int ybl, .int yis, .int yra, .ref ma, .ref be]), (te, aI g 100 tx), (dr, aI g 41 df), (nw, aI g 41 gn), (pa, aI g 246 pf), (ke, aZ g 2 kz)] (fun (r : Int32) (w' : va_W) => r = (nI ((RD ch tz).2.1)) ∧ ∃ (at' : Nat), ∃ (st' : Nat), ∃ (so' : Nat), ∃ (va' : Nat), ∃ (df' : Nat → Int32), ∃ (gn' : Nat → Int32), ∃ (pf' : Nat → Int32), (va' ≤ 2000) ∧ (gn' 0 = nI (RD ch tz).2.1) ∧ (∀ a i, a < 4 → i < (RD ch tz).2.1 → gn' (5 * i + (a + 1)) = nI ((RD ch tz).2.2 a i)) ∧ (∀ i, i < (RD ch tz).2.1 → gn' (5 * i + 5) = nI ((2 ^ (RD ch tz).2.1 - 1).testBit i).toNat) ∧ (notesP z gn pf pf') ∧ w' = [(M, ob 7 [.ref nw, .ref dr, .ref pa, .int (nI (min (z + 1) 6)), .ref im, .ref ke, .ref fl, .ref fq, .int (nI 0), .ref te, .int (nI 0), .int (nI at'), .int (nI st'), .int (nI so'), .int (nI va'), .ref ni, .ref re, .int yab, .int ybl, .int yis, .int yra, .ref ma, .ref be]), (te, aI g 100 tx), (dr, aI g 41 df'), (nw, aI g 41 gn'), (pa, aI g 246 pf'), (ke, aZ g 2 (upd (upd kz 0 0) 1 0))]) := by
  refine kI_of (cc := cX7_tells) (maxL := 2) (by decide) rfl (Nat.le_of_ble_eq_true rfl) ?_
  intro pp ee ss mm bel mth cd A ls C S hr hl
  obtain ⟨hx, hb, hml, hown, hts⟩ := id C.1
  have hl : lv_has ls 2 [(0, .ref M)] := hl
  obtain ⟨H, hH⟩ : ∃ H, H = ss.heap := ⟨_, rfl⟩
  obtain ⟨locs, hL0⟩ : ∃ L : List Loc, L = [] := ⟨_, rfl⟩
  rw [← hH, ← hL0] at S ⊢
  refine lv_aload_n hx hb dX7_tells_0 rfl (lv_at hl 0 rfl) ?_
  refine after_I (wc := [(M, ob 7 [.ref nw, .ref dr, .ref pa, .int (nI z), .ref im, .ref ke, .ref fl, .ref fq, .int (nI sz), .ref te, .int (nI tz), .int yat, .int yst, .int yso, .int (nI v0), .ref ni, .ref re, .int yab, .int ybl, .int yis, .int yra, .ref ma, .ref be]), (te, aI g 100 tx), (dr, aI g 41 df)]) (y := yX7_reads) C S (va_runV (As := []) (rest := []) C.1 (kX7_reads l g M nw dr pa im ke fl fq te ni re ma be (nI z) (nI sz) yat yst yso yab ybl yis yra tx tz ch v0 df (by first | assumption | omega) (by first | assumption | omega) (by first | assumption | omega) (by first | assumption | omega) H.size) (cwV 0 hts gX7_tells_X7_reads rfl rfl rfl (by decide +kernel) ⟨Nat.le_of_ble_eq_true rfl, Nat.le_of_ble_eq_true rfl⟩) (preV_at C S 0 rfl rfl [0, 1, 2] rfl (by decide)) rfl rfl hl.1 rfl (lv_room (Nat.le_of_ble_eq_true rfl)) dX7_tells_1 ⟨Nat.le_of_ble_eq_true rfl, Nat.le_of_ble_eq_true rfl⟩) [0, 1, 2] [3, 4, 5] rfl (wr := [(nw, aI g 41 gn), (pa, aI g 246 pf), (ke, aZ g 2 kz)]) rfl (by decide) (by decide) (fun r0 w0 H locs hq S => ?_)
  obtain ⟨rfl, at1, st1, so1, va1, df1, hs1, hv1, hr1, rfl⟩ := hq
  have S : ST g A ss H locs [(M, ob 7 [.ref nw, .ref dr, .ref pa, .int (nI z), .ref im, .ref ke, .ref fl, .ref fq, .int (nI sz), .ref te, .int (nI tz), .int (nI at1), .int (nI st1), .int (nI so1), .int (nI va1), .ref ni, .ref re, .int yab, .int ybl, .int yis, .int yra, .ref ma, .ref be]), (te, aI g 100 tx), (dr, aI g 41 df1), (nw, aI g 41 gn), (pa, aI g 246 pf), (ke, aZ g 2 kz)] := ST.sub S [3, 4, 5, 0, 1, 2] (by decide) rfl
  refine br_neB (tgt := 15) hx hb dX7_tells_4 (by decide) (fun c_1 => ?_) (fun c_1 => ?_)
  · -- 4 T
    obtain ⟨ha1, ha2, ha3⟩ := hr1 hok
    have hRH := RD_HB hok
    refine lv_aload_n hx hb dX7_tells_15 rfl (lv_at hl 0 rfl) ?_
    refine after_V (wc := [(M, ob 7 [.ref nw, .ref dr, .ref pa, .int (nI z), .ref im, .ref ke, .ref fl, .ref fq, .int (nI sz), .ref te, .int (nI tz), .int (nI at1), .int (nI st1), .int (nI so1), .int (nI va1), .ref ni, .ref re, .int yab, .int ybl, .int yis, .int yra, .ref ma, .ref be]), (nw, aI g 41 gn), (pa, aI g 246 pf)]) (y := yX7_notes) C S (va_runV (As := []) (rest := []) C.1 (kX7_notes l g M nw dr pa im ke fl fq te ni re ma be (nI sz) (nI tz) (nI at1) (nI st1) (nI so1) (nI va1) yab ybl yis yra z gn pf (by first | assumption | omega) H.size) (cwV 0 hts gX7_tells_X7_notes rfl rfl rfl (by decide +kernel) ⟨Nat.le_of_ble_eq_true rfl, Nat.le_of_ble_eq_true rfl⟩) (preV_at C S 0 rfl rfl [0, 3, 4] rfl (by decide)) rfl rfl hl.1 rfl (lv_room (Nat.le_of_ble_eq_true rfl)) dX7_tells_16 ⟨Nat.le_of_ble_eq_true rfl, Nat.le_of_ble_eq_true rfl⟩) [0, 3, 4] [1, 2, 5] rfl (wr := [(te, aI g 100 tx), (dr, aI g 41 df1), (ke, aZ g 2 kz)]) rfl (by decide) (by decide) (fun w0 H locs hq S => ?_)
    obtain ⟨pf1, hNT1, rfl⟩ := hq
    have S : ST g A ss H locs [(M, ob 7 [.ref nw, .ref dr, .ref pa, .int (nI (min (z + 1) 6)), .ref im, .ref ke, .ref fl, .ref fq, .int (nI sz), .ref te, .int (nI tz), .int (nI at1), .int (nI st1), .int (nI so1), .int (nI va1), .ref ni, .ref re, .int yab, .int ybl, .int yis, .int yra, .ref ma, .ref be]), (te, aI g 100 tx), (dr, aI g 41 df1), (nw, aI g 41 gn), (pa, aI g 246 pf1), (ke, aZ g 2 kz)] := ST.sub S [3, 0, 1, 4, 5, 2] (by decide) rfl
    refine lv_iconst (v := 0) hx hb dX7_tells_19 (by decide) ?_
    refine lv_istore_n (lv' := [(1, .int 0), (0, .ref M)]) hx hb dX7_tells_20 rfl hl (by decide) rfl (fun ls hl => ?_)
    have loop21 : ∀ (N0 : Nat) (i : Nat) (g1 : Nat → Int32), 41 - i < N0 → (i ≤ 41) → (∀ t, t < i → g1 t = df1 t) → ∀ (H : Heap) (locs : List Loc) (ls : Array Slot), ST g A ss H locs [(M, ob 7 [.ref nw, .ref dr, .ref pa, .int (nI (min (z + 1) 6)), .ref im, .ref ke, .ref fl, .ref fq, .int (nI sz), .ref te, .int (nI tz), .int (nI at1), .int (nI st1), .int (nI so1), .int (nI va1), .ref ni, .ref re, .int yab, .int ybl, .int yis, .int yra, .ref ma, .ref be]), (te, aI g 100 tx), (dr, aI g 41 df1), (nw, aI g 41 g1), (pa, aI g 246 pf1), (ke, aZ g 2 kz)] → lv_has ls 2 [(1, .int (nI i)), (0, .ref M)] → W pp l ee { frames := 6, cells := 0, slots := 0, locals := 130 } ss mm ([.ref M] : List Value).toArray bel mth cd H locs 0 0 (QI bel ([.ref M] : List Value).toArray ss g A (fun (r : Int32) (w' : va_W) => r = (nI ((RD ch tz).2.1)) ∧ ∃ (at' : Nat), ∃ (st' : Nat), ∃ (so' : Nat), ∃ (va' : Nat), ∃ (df' : Nat → Int32), ∃ (gn' : Nat → Int32), ∃ (pf' : Nat → Int32), (va' ≤ 2000) ∧ (gn' 0 = nI (RD ch tz).2.1) ∧ (∀ a i, a < 4 → i < (RD ch tz).2.1 → gn' (5 * i + (a + 1)) = nI ((RD ch tz).2.2 a i)) ∧ (∀ i, i < (RD ch tz).2.1 → gn' (5 * i + 5) = nI ((2 ^ (RD ch tz).2.1 - 1).testBit i).toNat) ∧ (notesP z gn pf pf') ∧ w' = [(M, ob 7 [.ref nw, .ref dr, .ref pa, .int (nI (min (z + 1) 6)), .ref im, .ref ke, .ref fl, .ref fq, .int (nI 0), .ref te, .int (nI 0), .int (nI at'), .int (nI st'), .int (nI so'), .int (nI va'), .ref ni, .ref re, .int yab, .int ybl, .int yis, .int yra, .ref ma, .ref be]), (te, aI g 100 tx), (dr, aI g 41 df'), (nw, aI g 41 gn'), (pa, aI g 246 pf'), (ke, aZ g 2 (upd (upd kz 0 0) 1 0))])) (F0 mm 21 ls []) := by
      intro N0
      induction N0 with
      | zero => intro i g1 hN; exact absurd hN (Nat.not_lt_zero _)
      | succ N0 ih21 =>
        intro i g1 hN hi hBt H locs ls S hl
        refine lv_iload_n hx hb dX7_tells_21 rfl (lv_at hl 0 rfl) ?_
        refine lv_bipush (v := 41) hx hb dX7_tells_22 (by decide) ?_
        refine bn_ige (tgt := 45) (a := i) (b := 41) hx hb rfl rfl (by omega) (by omega) dX7_tells_24 (by decide) (fun c_2 => ?_) (fun c_2 => ?_)
        · -- 24 T
          refine lv_aload_n hx hb dX7_tells_45 rfl (lv_at hl 1 rfl) ?_
          refine lv_iconst (v := 0) hx hb dX7_tells_46 (by decide) ?_
          refine top_put (ty := .int) C S inX7_tellsg_X7 tyX7 tyX7_ok nmX7 rfl 0 rfl 10 (by decide) (by decide +kernel) rfl rfl (tyX7_ok 10 (by decide)) rfl rfl (Nat.le_of_ble_eq_true rfl) dX7_tells_47 (fun H locs S => ?_)
          have S : ST g A ss H locs [(M, ob 7 [.ref nw, .ref dr, .ref pa, .int (nI (min (z + 1) 6)), .ref im, .ref ke, .ref fl, .ref fq, .int (nI sz), .ref te, .int 0, .int (nI at1), .int (nI st1), .int (nI so1), .int (nI va1), .ref ni, .ref re, .int yab, .int ybl, .int yis, .int yra, .ref ma, .ref be]), (te, aI g 100 tx), (dr, aI g 41 df1), (nw, aI g 41 g1), (pa, aI g 246 pf1), (ke, aZ g 2 kz)] := S
          refine lv_aload_n hx hb dX7_tells_50 rfl (lv_at hl 1 rfl) ?_
          refine lv_iconst (v := 0) hx hb dX7_tells_51 (by decide) ?_
          refine top_put (ty := .int) C S inX7_tellsg_X7 tyX7 tyX7_ok nmX7 rfl 0 rfl 8 (by decide) (by decide +kernel) rfl rfl (tyX7_ok 8 (by decide)) rfl rfl (Nat.le_of_ble_eq_true rfl) dX7_tells_52 (fun H locs S => ?_)
          have S : ST g A ss H locs [(M, ob 7 [.ref nw, .ref dr, .ref pa, .int (nI (min (z + 1) 6)), .ref im, .ref ke, .ref fl, .ref fq, .int 0, .ref te, .int 0, .int (nI at1), .int (nI st1), .int (nI so1), .int (nI va1), .ref ni, .ref re, .int yab, .int ybl, .int yis, .int yra, .ref ma, .ref be]), (te, aI g 100 tx), (dr, aI g 41 df1), (nw, aI g 41 g1), (pa, aI g 246 pf1), (ke, aZ g 2 kz)] := S
          refine lv_aload_n hx hb dX7_tells_55 rfl (lv_at hl 1 rfl) ?_
          refine top_get C S inX7_tellsg_X7 rfl 0 rfl 5 (by decide) (by decide +kernel) rfl rfl dX7_tells_56 ?_
          refine lv_iconst (v := 0) hx hb dX7_tells_59 (by decide) ?_
          refine lv_iconst (v := 0) hx hb dX7_tells_60 (by decide) ?_
          refine top_zst C S 5 rfl (j := 0) rfl (by omega) (by decide) rfl dX7_tells_61 (fun H locs S => ?_)
          have S : ST g A ss H locs [(M, ob 7 [.ref nw, .ref dr, .ref pa, .int (nI (min (z + 1) 6)), .ref im, .ref ke, .ref fl, .ref fq, .int 0, .ref te, .int 0, .int (nI at1), .int (nI st1), .int (nI so1), .int (nI va1), .ref ni, .ref re, .int yab, .int ybl, .int yis, .int yra, .ref ma, .ref be]), (te, aI g 100 tx), (dr, aI g 41 df1), (nw, aI g 41 g1), (pa, aI g 246 pf1), (ke, aZ g 2 (upd kz 0 0))] := S
          refine lv_aload_n hx hb dX7_tells_62 rfl (lv_at hl 1 rfl) ?_
          refine top_get C S inX7_tellsg_X7 rfl 0 rfl 5 (by decide) (by decide +kernel) rfl rfl dX7_tells_63 ?_
          refine lv_iconst (v := 1) hx hb dX7_tells_66 (by decide) ?_
          refine lv_iconst (v := 0) hx hb dX7_tells_67 (by decide) ?_
          refine top_zst C S 5 rfl (j := 1) rfl (by omega) (by decide) rfl dX7_tells_68 (fun H locs S => ?_)
          have S : ST g A ss H locs [(M, ob 7 [.ref nw, .ref dr, .ref pa, .int (nI (min (z + 1) 6)), .ref im, .ref ke, .ref fl, .ref fq, .int 0, .ref te, .int 0, .int (nI at1), .int (nI st1), .int (nI so1), .int (nI va1), .ref ni, .ref re, .int yab, .int ybl, .int yis, .int yra, .ref ma, .ref be]), (te, aI g 100 tx), (dr, aI g 41 df1), (nw, aI g 41 g1), (pa, aI g 246 pf1), (ke, aZ g 2 (upd (upd kz 0 0) 1 0))] := S
          refine lv_aload_n hx hb dX7_tells_69 rfl (lv_at hl 1 rfl) ?_
          refine top_get C S inX7_tellsg_X7 rfl 0 rfl 0 (by decide) (by decide +kernel) rfl rfl dX7_tells_70 ?_
          refine lv_iconst (v := 0) hx hb dX7_tells_73 (by decide) ?_
          refine top_ild C S 3 rfl (j := 0) rfl (by omega) (by decide) dX7_tells_74 ?_
          refine top_eq (y := nI ((RD ch tz).2.1)) (by rw [hBt 0 (by omega)]; exact ha1) ?_
          exact ret_I C S hr dX7_tells_75 ⟨(rfl), at1, st1, so1, va1, df1, g1, pf1, (hv1), (by rw [hBt 0 (by omega)]; exact ha1), (fun a9 i9 h9 k9 => by rw [hBt _ (by omega)]; exact ha2 a9 i9 h9 k9), (fun i9 h9 => by rw [hBt _ (by omega), ha3 i9 h9, all_tb h9] <;> rfl), (hNT1), (rfl)⟩
        · -- 24 F
          refine lv_aload_n hx hb dX7_tells_27 rfl (lv_at hl 1 rfl) ?_
          refine top_get C S inX7_tellsg_X7 rfl 0 rfl 0 (by decide) (by decide +kernel) rfl rfl dX7_tells_28 ?_
          refine lv_iload_n hx hb dX7_tells_31 rfl (lv_at hl 0 rfl) ?_
          refine lv_aload_n hx hb dX7_tells_32 rfl (lv_at hl 1 rfl) ?_
          refine top_get C S inX7_tellsg_X7 rfl 0 rfl 1 (by decide) (by decide +kernel) rfl rfl dX7_tells_33 ?_
          refine lv_iload_n hx hb dX7_tells_36 rfl (lv_at hl 0 rfl) ?_
          refine top_ild C S 2 rfl (j := i) rfl (by omega) (by decide) dX7_tells_37 ?_
          refine top_ist C S 3 rfl (j := i) rfl (by omega) (by decide) dX7_tells_38 (fun H locs S => ?_)
          have S : ST g A ss H locs [(M, ob 7 [.ref nw, .ref dr, .ref pa, .int (nI (min (z + 1) 6)), .ref im, .ref ke, .ref fl, .ref fq, .int (nI sz), .ref te, .int (nI tz), .int (nI at1), .int (nI st1), .int (nI so1), .int (nI va1), .ref ni, .ref re, .int yab, .int ybl, .int yis, .int yra, .ref ma, .ref be]), (te, aI g 100 tx), (dr, aI g 41 df1), (nw, aI g 41 (upd g1 i (df1 i))), (pa, aI g 246 pf1), (ke, aZ g 2 kz)] := S
          refine lv_iinc (v := nI (i + 1)) (lv' := [(1, .int (nI (i + 1))), (0, .ref M)]) hx hb dX7_tells_39 hl (k := 0) rfl (nI_add _ _) (by decide) rfl (fun ls hl => ?_)
          refine lv_goto (tgt := 21) hx hb dX7_tells_42 (by decide) ?_
          exact ih21 (i + 1) (upd g1 i (df1 i)) (by omega) (by first | assumption | omega) (fun t9 h9 => by by_cases e9 : t9 = i; (subst e9; rw [pk_us]); (rw [pk_un e9]; exact hBt t9 (by omega))) H locs ls (ST.eq S (rfl)) (lv_sub hl [0, 1] (rfl))
    exact loop21 _ 0 gn (Nat.lt_succ_self _) (by first | assumption | omega) (fun t9 h9 => absurd h9 (Nat.not_lt_zero _)) H locs ls (ST.eq S (rfl)) (lv_sub hl [0, 1] (rfl))
  · -- 4 F
    rw [hok] at c_1; cases c_1
