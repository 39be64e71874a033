/-! what the reference reads is what the class reads -/
theorem soQ_1 {ch : Nat → Nat} {z p : Nat} : soQ ch z p = 1 ↔ p < z ∧ ch p = 108 := by
  unfold soQ
  by_cases h : p < z
  · rw [if_pos h]
    by_cases h1 : ch p = 108
    · rw [if_pos h1]; exact ⟨fun _ => ⟨h, h1⟩, fun _ => rfl⟩
    · rw [if_neg h1]
      refine ⟨fun q => ?_, fun q => absurd q.2 h1⟩
      split at q
      · omega
      · split at q <;> omega
  · rw [if_neg h]; exact ⟨fun q => by omega, fun q => absurd q.1 h⟩
theorem soQ_3 {ch : Nat → Nat} {z p : Nat} : soQ ch z p = 3 ↔ p < z ∧ ch p = 59 := by
  unfold soQ
  by_cases h : p < z
  · rw [if_pos h]
    by_cases h1 : ch p = 108
    · rw [if_pos h1]; exact ⟨fun q => by omega, fun q => by omega⟩
    · rw [if_neg h1]
      by_cases h2 : figN (ch p) = true
      · rw [if_pos h2]; exact ⟨fun q => by omega, fun q => by have := fig_in h2; omega⟩
      · rw [if_neg h2]
        by_cases h3 : ch p = 59
        · rw [if_pos h3]; exact ⟨fun _ => ⟨h, h3⟩, fun _ => rfl⟩
        · rw [if_neg h3]; exact ⟨fun q => by omega, fun q => absurd q.2 h3⟩
  · rw [if_neg h]; exact ⟨fun q => by omega, fun q => absurd q.1 h⟩
theorem soQ_0 {ch : Nat → Nat} {z p : Nat} : soQ ch z p = 0 ↔ ¬ p < z := by
  unfold soQ
  by_cases h : p < z
  · rw [if_pos h]
    refine ⟨fun q => ?_, fun q => absurd h q⟩
    split at q
    · omega
    · split at q
      · omega
      · split at q <;> omega
  · rw [if_neg h]; exact ⟨fun _ => h, fun _ => rfl⟩
theorem num_t {ch : Nat → Nat} {z a v0 n t hi : Nat} {nu : Nat → Nat → Nat} (ht : 1 ≤ t) (ht4 : t ≤ 4) (hm : MON nu n (t - 1) = hi) (hh : hi ≤ 99) (h : numB ch z a v0 (LEN (t - 1)) hi = true) : bk ch z a < z ∧ numO ch (bk ch z a) (teN ch z (bk ch z a)) = some (vaQ ch z (bk ch z a) v0) ∧ okT ch z t (bk ch z a) n nu = true := by
  unfold numB at h
  by_cases s2 : soQ ch z (bk ch z a) = 2
  · rw [if_pos s2] at h
    have hr := of_decide_eq_true h
    obtain ⟨hp, hf⟩ := soQ_2.mp s2
    have e : vaQ ch z (bk ch z a) v0 = vlN ch (bk ch z a) (teN ch z (bk ch z a) - bk ch z a - 1) := by unfold vaQ; rw [if_pos s2]
    have hn : numO ch (bk ch z a) (teN ch z (bk ch z a)) = some (vaQ ch z (bk ch z a) v0) := (vl_num (te_in hp).1 (te_fig hf) _ (by omega)).mp e.symm
    refine ⟨hp, hn, ?_⟩
    unfold okT
    rw [if_neg (by omega), if_neg (by omega), hn]
    exact decide_eq_true ⟨hr.1, by rw [hm]; exact hr.2⟩
  · rw [if_neg s2] at h; cases h
theorem num_f {ch : Nat → Nat} {z a v0 n t hi : Nat} {nu : Nat → Nat → Nat} (ht : 1 ≤ t) (ht4 : t ≤ 4) (hm : MON nu n (t - 1) = hi) (hh : hi ≤ 99) (h : numB ch z a v0 (LEN (t - 1)) hi = false) (hp : bk ch z a < z) : okT ch z t (bk ch z a) n nu = false := by
  unfold okT
  rw [if_neg (by omega), if_neg (by omega)]
  by_cases hf : figN (ch (bk ch z a)) = true
  · have s2 := soQ_2.mpr ⟨hp, hf⟩
    unfold numB at h
    rw [if_pos s2] at h
    have hr := of_decide_eq_false h
    have e : vaQ ch z (bk ch z a) v0 = vlN ch (bk ch z a) (teN ch z (bk ch z a) - bk ch z a - 1) := by unfold vaQ; rw [if_pos s2]
    cases hn : numO ch (bk ch z a) (teN ch z (bk ch z a)) with
    | none => rfl
    | some w =>
      refine decide_eq_false (fun q => hr ?_)
      rw [hm] at q
      have := (vl_num (te_in hp).1 (te_fig hf) w (by omega)).mpr hn
      rw [e, this]
      exact q
  · have : numO ch (bk ch z a) (teN ch z (bk ch z a)) = none := by unfold numO; rw [if_neg hf]
    rw [this]; rfl
theorem adv {ch : Nat → Nat} {z K t P n : Nat} {nu : Nat → Nat → Nat} (hP : P < z) (hK : z ≤ P + K) (h : okT ch z t P n nu = true) : rd ch z K t P n nu = rd ch z (K - 1) (nxT t) (bk ch z (enQ ch z P)) (nxN t n) (nxU ch z t P n nu) ∧ z ≤ bk ch z (enQ ch z P) + (K - 1) ∧ P < bk ch z (enQ ch z P) ∧ bk ch z (enQ ch z P) ≤ z := by
  have e : enQ ch z P = teN ch z P := by unfold enQ; rw [if_pos hP]
  have a := te_in (ch := ch) hP
  have b := bk_in (ch := ch) a.2
  rw [e]
  refine ⟨?_, by omega, by omega, b.2⟩
  obtain ⟨k, rfl⟩ : ∃ k, K = k + 1 := ⟨K - 1, by omega⟩
  exact rd_ok hP h
theorem flt {ch : Nat → Nat} {z K t P n : Nat} {nu : Nat → Nat → Nat} (hP : P ≤ z) (hK : z ≤ P + K) (hb : P < z → okT ch z t P n nu = false) (h0 : P < z ∨ ¬ (t = 0 ∧ 0 < n)) : (rd ch z K t P n nu).1 = some P := by
  by_cases h : P < z
  · obtain ⟨k, rfl⟩ : ∃ k, K = k + 1 := ⟨K - 1, by omega⟩
    rw [rd_bad h (hb h)]
  · rw [rd_end h, if_neg (by rcases h0 with q | q; exact absurd q h; exact q)]
    show some z = some P
    rw [show P = z by omega]
theorem MON_mid {nu : Nat → Nat → Nat} {n t : Nat} (h : 2 ≤ t) : MON nu n (t - 1) = MO0 (t - 1) := by unfold MON; rw [if_neg (by omega)]
theorem MON_fst {nu : Nat → Nat → Nat} {n : Nat} : MON nu n (1 - 1) = fAb nu n := by
  unfold MON fAb
  rw [if_pos rfl]
  by_cases h : n = 0
  · rw [if_pos (by omega), if_pos h]; rfl
  · rw [if_neg (by omega), if_neg h]
theorem fAb_le {nu : Nat → Nat → Nat} {n : Nat} (h : HB nu n) : fAb nu n ≤ 9 := by
  unfold fAb
  by_cases e : n = 0
  · rw [if_pos e]; exact Nat.le_refl _
  · rw [if_neg e]; exact (h (n - 1) (by omega)).1.2
theorem ok0_t {ch : Nat → Nat} {z p n : Nat} {nu : Nat → Nat → Nat} (h : ch p = 108) (hn : n < 8) : okT ch z 0 p n nu = true := by unfold okT; rw [if_pos rfl]; exact decide_eq_true ⟨h, hn⟩
/-- a leaf that isn't read: the fault is where the last token begins -/
theorem leaf_bad {ch : Nat → Nat} {z K p n v0 : Nat} {nu : Nat → Nat → Nat} (hp : p ≤ z) (hK : z ≤ p + K) (hH : HT nu n 0) (hpn : p < z ∨ n = 0) (h : leafB ch z p n v0 (fAb nu n) = false) : (rd ch z K 0 p n nu).1 = some (fpN ch z p n v0 (fAb nu n)) := by
  have hab := fAb_le hH.2.2.2.1
  by_cases c0 : soQ ch z p = 1
  · obtain ⟨hpz, hch⟩ := soQ_1.mp c0
    by_cases c8 : n = 8
    · rw [show fpN ch z p n v0 (fAb nu n) = p by simp only [fpN, if_pos c0, if_pos c8]]
      exact flt hp hK (fun _ => by unfold okT; rw [if_pos rfl]; exact decide_eq_false (by omega)) (Or.inl hpz)
    · have ok0 : okT ch z 0 p n nu = true := ok0_t hch (by have := hH.1; omega)
      obtain ⟨r1, k1, l1, m1⟩ := adv hpz hK ok0
      have H1 := HT_step hH ok0
      have E1 : rd ch z K 0 p n nu = rd ch z (K - 1) 1 (bk ch z (enQ ch z p)) n nu := r1
      have H1 : HT nu n 1 := H1
      rw [E1]
      by_cases c1 : numB ch z (enQ ch z p) v0 1 (fAb nu n) = true
      · obtain ⟨p1, q1, o1⟩ := num_t (t := 1) (nu := nu) (n := n) (by decide) (by decide) MON_fst (by omega) c1
        obtain ⟨r2, k2, l2, m2⟩ := adv p1 k1 o1
        have H2 := HT_step H1 o1
        rw [r2]
        generalize nxU ch z 1 (bk ch z (enQ ch z p)) n nu = nu2 at H2 ⊢
        have H2 : HT nu2 n 2 := H2
        show (rd ch z (K - 1 - 1) 2 _ n nu2).1 = _
        by_cases c2 : numB ch z (enQ ch z (Pq ch z p)) (V1 ch z p v0) 1 9 = true
        · obtain ⟨p2, q2, o2⟩ := num_t (t := 2) (nu := nu2) (n := n) (by decide) (by decide) (MON_mid (by decide)) (by decide) c2
          obtain ⟨r3, k3, l3, m3⟩ := adv p2 k2 o2
          have H3 := HT_step H2 o2
          rw [r3]
          generalize nxU ch z 2 _ n nu2 = nu3 at H3 ⊢
          have H3 : HT nu3 n 3 := H3
          show (rd ch z (K - 1 - 1 - 1) 3 _ n nu3).1 = _
          by_cases c3 : numB ch z (enQ ch z (Pq ch z (Pq ch z p))) (V1 ch z (Pq ch z p) (V1 ch z p v0)) 0 30 = true
          · obtain ⟨p3, q3, o3⟩ := num_t (t := 3) (nu := nu3) (n := n) (by decide) (by decide) (MON_mid (by decide)) (by decide) c3
            obtain ⟨r4, k4, l4, m4⟩ := adv p3 k3 o3
            have H4 := HT_step H3 o3
            rw [r4]
            generalize nxU ch z 3 _ n nu3 = nu4 at H4 ⊢
            have H4 : HT nu4 n 4 := H4
            show (rd ch z (K - 1 - 1 - 1 - 1) 4 _ n nu4).1 = _
            by_cases c4 : numB ch z (enQ ch z (Pq ch z (Pq ch z (Pq ch z p)))) (V1 ch z (Pq ch z (Pq ch z p)) (V1 ch z (Pq ch z p) (V1 ch z p v0))) 1 99 = true
            · obtain ⟨p4, q4, o4⟩ := num_t (t := 4) (nu := nu4) (n := n) (by decide) (by decide) (MON_mid (by decide)) (by decide) c4
              obtain ⟨r5, k5, l5, m5⟩ := adv p4 k4 o4
              have H5 := HT_step H4 o4
              rw [r5]
              generalize nxU ch z 4 _ n nu4 = nu5 at H5 ⊢
              show (rd ch z (K - 1 - 1 - 1 - 1 - 1) 5 _ n nu5).1 = _
              rw [show fpN ch z p n v0 (fAb nu n) = Pq ch z (Pq ch z (Pq ch z (Pq ch z (Pq ch z p)))) by simp only [fpN, if_pos c0, if_neg c8, if_pos c1, if_pos c2, if_pos c3, if_pos c4]]
              have c5 : ¬ soQ ch z (Pq ch z (Pq ch z (Pq ch z (Pq ch z (Pq ch z p))))) = 3 := by
                simp only [leafB, if_pos c0, if_neg c8, if_pos c1, if_pos c2, if_pos c3, if_pos c4] at h
                exact of_decide_eq_false h
              refine flt m5 k5 (fun hz => ?_) (Or.inr (by omega))
              unfold okT
              rw [if_neg (by decide), if_pos rfl]
              exact decide_eq_false (fun q => c5 (soQ_3.mpr ⟨hz, q⟩))
            · rw [show fpN ch z p n v0 (fAb nu n) = Pq ch z (Pq ch z (Pq ch z (Pq ch z p))) by simp only [fpN, if_pos c0, if_neg c8, if_pos c1, if_pos c2, if_pos c3, if_neg c4]]
              exact flt m4 k4 (fun hz => num_f (t := 4) (nu := nu4) (n := n) (by decide) (by decide) (MON_mid (by decide)) (by decide) (Bool.eq_false_iff.mpr c4) hz) (Or.inr (by omega))
          · rw [show fpN ch z p n v0 (fAb nu n) = Pq ch z (Pq ch z (Pq ch z p)) by simp only [fpN, if_pos c0, if_neg c8, if_pos c1, if_pos c2, if_neg c3]]
            exact flt m3 k3 (fun hz => num_f (t := 3) (nu := nu3) (n := n) (by decide) (by decide) (MON_mid (by decide)) (by decide) (Bool.eq_false_iff.mpr c3) hz) (Or.inr (by omega))
        · rw [show fpN ch z p n v0 (fAb nu n) = Pq ch z (Pq ch z p) by simp only [fpN, if_pos c0, if_neg c8, if_pos c1, if_neg c2]]
          exact flt m2 k2 (fun hz => num_f (t := 2) (nu := nu2) (n := n) (by decide) (by decide) (MON_mid (by decide)) (by decide) (Bool.eq_false_iff.mpr c2) hz) (Or.inr (by omega))
      · rw [show fpN ch z p n v0 (fAb nu n) = Pq ch z p by simp only [fpN, if_pos c0, if_neg c8, if_neg c1]]
        exact flt m1 k1 (fun hz => num_f (t := 1) (nu := nu) (n := n) (by decide) (by decide) MON_fst (by omega) (Bool.eq_false_iff.mpr c1) hz) (Or.inr (by omega))
  · rw [show fpN ch z p n v0 (fAb nu n) = p by simp only [fpN, if_neg c0]]
    refine flt hp hK (fun hz => ?_) (by rcases hpn with q | q; exact Or.inl q; exact Or.inr (by omega))
    unfold okT
    rw [if_pos rfl]
    exact decide_eq_false (fun q => c0 (soQ_1.mpr ⟨hz, q.1⟩))
theorem nxU_eq {ch : Nat → Nat} {z t P n v : Nat} {nu : Nat → Nat → Nat} (ht : 1 ≤ t) (ht4 : t ≤ 4) (h : numO ch P (teN ch z P) = some v) (a i : Nat) : nxU ch z t P n nu a i = if a = t - 1 ∧ i = n then v else nu a i := by
  unfold nxU; rw [if_neg (by omega), if_neg (by omega), h]; rfl
def lvN (v1 v2 v3 v4 a : Nat) : Nat := if a = 0 then v1 else if a = 1 then v2 else if a = 2 then v3 else v4
/-- a leaf that is read -/
theorem leaf_ok {ch : Nat → Nat} {z K p n v0 : Nat} {nu : Nat → Nat → Nat} (hK : z ≤ p + K) (hH : HT nu n 0) (h : leafB ch z p n v0 (fAb nu n) = true) : ∃ (nu2 : Nat → Nat → Nat) (K2 : Nat), rd ch z K 0 p n nu = rd ch z K2 0 (bk ch z (enQ ch z (fpN ch z p n v0 (fAb nu n)))) (n + 1) nu2 ∧ HT nu2 (n + 1) 0 ∧ z ≤ bk ch z (enQ ch z (fpN ch z p n v0 (fAb nu n))) + K2 ∧ p < bk ch z (enQ ch z (fpN ch z p n v0 (fAb nu n))) ∧ bk ch z (enQ ch z (fpN ch z p n v0 (fAb nu n))) ≤ z ∧ n < 8 ∧ p < z ∧ (∀ a i, a < 4 → i < n + 1 → nu2 a i = if i = n then lvN (V1 ch z p v0) (V1 ch z (Pq ch z p) (V1 ch z p v0)) (V1 ch z (Pq ch z (Pq ch z p)) (V1 ch z (Pq ch z p) (V1 ch z p v0))) (V1 ch z (Pq ch z (Pq ch z (Pq ch z p))) (V1 ch z (Pq ch z (Pq ch z p)) (V1 ch z (Pq ch z p) (V1 ch z p v0)))) a else nu a i) := by
  have hab := fAb_le hH.2.2.2.1
  by_cases c0 : soQ ch z p = 1
  · obtain ⟨hpz, hch⟩ := soQ_1.mp c0
    by_cases c8 : n = 8
    · simp only [leafB, if_pos c0, if_pos c8] at h; cases h
    · have hn8 : n < 8 := by have := hH.1; omega
      have ok0 : okT ch z 0 p n nu = true := ok0_t hch hn8
      obtain ⟨r1, k1, l1, m1⟩ := adv hpz hK ok0
      have H1 : HT nu n 1 := HT_step hH ok0
      by_cases c1 : numB ch z (enQ ch z p) v0 1 (fAb nu n) = true
      · obtain ⟨p1, q1, o1⟩ := num_t (t := 1) (nu := nu) (n := n) (by decide) (by decide) MON_fst (by omega) c1
        obtain ⟨r2, k2, l2, m2⟩ := adv p1 k1 o1
        have H2 := HT_step H1 o1
        have u2 := nxU_eq (t := 1) (n := n) (nu := nu) (by decide) (by decide) q1
        by_cases c2 : numB ch z (enQ ch z (Pq ch z p)) (V1 ch z p v0) 1 9 = true
        · generalize nxU ch z 1 (bk ch z (enQ ch z p)) n nu = nu2 at H2 r2 u2
          have H2 : HT nu2 n 2 := H2
          obtain ⟨p2, q2, o2⟩ := num_t (t := 2) (nu := nu2) (n := n) (by decide) (by decide) (MON_mid (by decide)) (by decide) c2
          obtain ⟨r3, k3, l3, m3⟩ := adv p2 k2 o2
          have H3 := HT_step H2 o2
          have u3 := nxU_eq (t := 2) (n := n) (nu := nu2) (by decide) (by decide) q2
          by_cases c3 : numB ch z (enQ ch z (Pq ch z (Pq ch z p))) (V1 ch z (Pq ch z p) (V1 ch z p v0)) 0 30 = true
          · generalize nxU ch z 2 (Pq ch z (Pq ch z p)) n nu2 = nu3 at H3 r3 u3
            have H3 : HT nu3 n 3 := H3
            obtain ⟨p3, q3, o3⟩ := num_t (t := 3) (nu := nu3) (n := n) (by decide) (by decide) (MON_mid (by decide)) (by decide) c3
            obtain ⟨r4, k4, l4, m4⟩ := adv p3 k3 o3
            have H4 := HT_step H3 o3
            have u4 := nxU_eq (t := 3) (n := n) (nu := nu3) (by decide) (by decide) q3
            by_cases c4 : numB ch z (enQ ch z (Pq ch z (Pq ch z (Pq ch z p)))) (V1 ch z (Pq ch z (Pq ch z p)) (V1 ch z (Pq ch z p) (V1 ch z p v0))) 1 99 = true
            · generalize nxU ch z 3 (Pq ch z (Pq ch z (Pq ch z p))) n nu3 = nu4 at H4 r4 u4
              have H4 : HT nu4 n 4 := H4
              obtain ⟨p4, q4, o4⟩ := num_t (t := 4) (nu := nu4) (n := n) (by decide) (by decide) (MON_mid (by decide)) (by decide) c4
              obtain ⟨r5, k5, l5, m5⟩ := adv p4 k4 o4
              have H5 := HT_step H4 o4
              have u5 := nxU_eq (t := 4) (n := n) (nu := nu4) (by decide) (by decide) q4
              generalize nxU ch z 4 (Pq ch z (Pq ch z (Pq ch z (Pq ch z p)))) n nu4 = nu5 at H5 r5 u5
              have H5 : HT nu5 n 5 := H5
              have c5 : soQ ch z (Pq ch z (Pq ch z (Pq ch z (Pq ch z (Pq ch z p))))) = 3 := by
                simp only [leafB, if_pos c0, if_neg c8, if_pos c1, if_pos c2, if_pos c3, if_pos c4] at h
                exact of_decide_eq_true h
              obtain ⟨p5, q5⟩ := soQ_3.mp c5
              have o5 : okT ch z 5 (Pq ch z (Pq ch z (Pq ch z (Pq ch z (Pq ch z p))))) n nu5 = true := by
                unfold okT; rw [if_neg (by decide), if_pos rfl]; exact decide_eq_true q5
              obtain ⟨r6, k6, l6, m6⟩ := adv p5 k5 o5
              have H6 : HT nu5 (n + 1) 0 := HT_step H5 o5
              rw [show fpN ch z p n v0 (fAb nu n) = Pq ch z (Pq ch z (Pq ch z (Pq ch z (Pq ch z p)))) by simp only [fpN, if_pos c0, if_neg c8, if_pos c1, if_pos c2, if_pos c3, if_pos c4]]
              refine ⟨nu5, K - 1 - 1 - 1 - 1 - 1 - 1, ?_, H6, k6, Nat.lt_trans l1 (Nat.lt_trans l2 (Nat.lt_trans l3 (Nat.lt_trans l4 (Nat.lt_trans l5 l6)))), m6, hn8, hpz, ?_⟩
              · have f1 : rd ch z K 0 p n nu = rd ch z (K - 1) 1 (Pq ch z p) n nu := r1
                have f2 : rd ch z (K - 1) 1 (Pq ch z p) n nu = rd ch z (K - 1 - 1) 2 (Pq ch z (Pq ch z p)) n nu2 := r2
                have f3 : rd ch z (K - 1 - 1) 2 (Pq ch z (Pq ch z p)) n nu2 = rd ch z (K - 1 - 1 - 1) 3 (Pq ch z (Pq ch z (Pq ch z p))) n nu3 := r3
                have f4 : rd ch z (K - 1 - 1 - 1) 3 (Pq ch z (Pq ch z (Pq ch z p))) n nu3 = rd ch z (K - 1 - 1 - 1 - 1) 4 (Pq ch z (Pq ch z (Pq ch z (Pq ch z p)))) n nu4 := r4
                have f5 : rd ch z (K - 1 - 1 - 1 - 1) 4 (Pq ch z (Pq ch z (Pq ch z (Pq ch z p)))) n nu4 = rd ch z (K - 1 - 1 - 1 - 1 - 1) 5 (Pq ch z (Pq ch z (Pq ch z (Pq ch z (Pq ch z p))))) n nu5 := r5
                rw [f1, f2, f3, f4, f5]
                exact r6
              · intro a i ha hi
                rw [u5, u4, u3, u2]
                unfold lvN
                by_cases e : i = n
                · rw [if_pos e]
                  rcases (show a = 0 ∨ a = 1 ∨ a = 2 ∨ a = 3 by omega) with rfl | rfl | rfl | rfl <;> simp [e]
                · rw [if_neg e, if_neg (by omega), if_neg (by omega), if_neg (by omega), if_neg (by omega)]
            · simp only [leafB, if_pos c0, if_neg c8, if_pos c1, if_pos c2, if_pos c3, if_neg c4] at h; cases h
          · simp only [leafB, if_pos c0, if_neg c8, if_pos c1, if_pos c2, if_neg c3] at h; cases h
        · simp only [leafB, if_pos c0, if_neg c8, if_pos c1, if_neg c2] at h; cases h
      · simp only [leafB, if_pos c0, if_neg c8, if_neg c1] at h; cases h
  · simp only [leafB, if_neg c0] at h; cases h
theorem dr_0 {df : Nat → Int32} {n v1 v2 v3 v4 : Nat} : drN df n v1 v2 v3 v4 0 = nI (n + 1) := by unfold drN; rw [pk_us]
theorem dr_w {df : Nat → Int32} {n v1 v2 v3 v4 : Nat} (h : ∀ i, i < n → df (5 * i + 5) = 1) (i : Nat) (hi : i < n + 1) : drN df n v1 v2 v3 v4 (5 * i + 5) = 1 := by
  unfold drN
  rw [pk_un (by omega)]
  by_cases e : i = n
  · rw [e, pk_us]
  · rw [pk_un (by omega), pk_un (by omega), pk_un (by omega), pk_un (by omega), pk_un (by omega)]
    exact h i (by omega)
theorem dr_n {df : Nat → Int32} {nu : Nat → Nat → Nat} {n v1 v2 v3 v4 : Nat} (h : ∀ a i, a < 4 → i < n → df (5 * i + (a + 1)) = nI (nu a i)) (a i : Nat) (ha : a < 4) (hi : i < n + 1) : drN df n v1 v2 v3 v4 (5 * i + (a + 1)) = nI (if i = n then lvN v1 v2 v3 v4 a else nu a i) := by
  unfold drN
  rw [pk_un (by omega), pk_un (by omega)]
  by_cases e : i = n
  · subst e
    rw [if_pos rfl]
    rcases (show a = 0 ∨ a = 1 ∨ a = 2 ∨ a = 3 by omega) with rfl | rfl | rfl | rfl
    · rw [pk_un (by omega), pk_un (by omega), pk_un (by omega)]; exact pk_us
    · rw [pk_un (by omega), pk_un (by omega)]; exact pk_us
    · rw [pk_un (by omega)]; exact pk_us
    · exact pk_us
  · rw [if_neg e, pk_un (by omega), pk_un (by omega), pk_un (by omega), pk_un (by omega)]
    exact h a i ha (by omega)
