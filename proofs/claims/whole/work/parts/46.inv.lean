/-! the relation of the two worlds -/
def ENB (nu : Nat → Nat → Nat) (f : Nat → Int32) (n w : Nat) (gn : Nat → Int32) : Prop :=
  1 ≤ n ∧ n ≤ 8 ∧ w < 2 ^ n ∧ (∀ a i, a < 4 → i < n → f (a * 8 + i) = nI (nu a i)) ∧ HB nu n ∧ gn 0 = nI n ∧ (∀ a i, a < 4 → i < n → gn (5 * i + (a + 1)) = nI (nu a i)) ∧ (∀ i, i < n → gn (5 * i + 5) = nI (w.testBit i).toNat)
def ENT (f : Nat → Int32) (n w : Nat) (gn : Nat → Int32) : Prop := ∃ nu : Nat → Nat → Nat, ENB nu f n w gn
theorem ENB.to {nu : Nat → Nat → Nat} {f f' : Nat → Int32} {n w : Nat} {gn gn' : Nat → Int32} (h : ENB nu f n w gn) (hf : ∀ j, j < 32 → f' j = f j) (hg : ∀ t, t < 41 → gn' t = gn t) : ENB nu f' n w gn' := by
  obtain ⟨h1, h2, h3, h4, h5, h6, h7, h8⟩ := h
  exact ⟨h1, h2, h3, fun a i ha hi => (hf _ (by omega)).trans (h4 a i ha hi), h5, (hg 0 (by omega)).trans h6, fun a i ha hi => (hg _ (by omega)).trans (h7 a i ha hi), fun i hi => (hg _ (by omega)).trans (h8 i hi)⟩
theorem ENT.to {f f' : Nat → Int32} {n w : Nat} {gn gn' : Nat → Int32} (h : ENT f n w gn) (hf : ∀ j, j < 32 → f' j = f j) (hg : ∀ t, t < 41 → gn' t = gn t) : ENT f' n w gn' := by
  obtain ⟨nu, h⟩ := h
  exact ⟨nu, h.to hf hg⟩
def rix (k z j : Nat) : Nat := (k + 6 - z + j) % 6
def HE (fs : Nat → Nat → Int32) (ns wbs : Nat → Nat) (k z : Nat) (pf : Nat → Int32) : Prop := ∀ j, j < z → ENT (fs (rix k z j)) (ns (rix k z j)) (wbs (rix k z j)) (fun t => pf (41 * j + t))
def IE (gs : Nat → Nat → Int32) (ms vbs : Nat → Nat) (kb : Nat) (kz mf : Nat → Int32) : Prop := ∀ j, j < 2 → kz j = nI (kb.testBit j).toNat ∧ (kb.testBit j = true → ENT (gs j) (ms j) (vbs j) (fun t => mf (41 * j + t)))
theorem updA_at {α : Type} (f : Nat → α) (k : Nat) (v : α) : updA f k v k = v := by simp [updA]
theorem updA_un {α : Type} (f : Nat → α) {k j : Nat} (v : α) (h : j ≠ k) : updA f k v j = f j := by simp [updA, h]
theorem HE.push {fs : Nat → Nat → Int32} {ns wbs : Nat → Nat} {k z n ww : Nat} {pf pf' gn f f' : Nat → Int32} (h : HE fs ns wbs k z pf) (hk : k < 6) (hz : z ≤ 6) (hE : ENT f n ww gn) (hf : ∀ j, j < 32 → f' j = f j) (hN : notesP z gn pf pf') :
    HE (updA fs k f') (updA ns k n) (updA wbs k ww) (nxt k) (min (z + 1) 6) pf' := by
  intro j hj
  by_cases hz6 : z = 6
  · subst hz6
    obtain ⟨h1, h2⟩ := hN.2 rfl
    by_cases hj5 : j = 5
    · subst hj5
      have e : rix (nxt k) (min (6 + 1) 6) 5 = k := by unfold rix nxt; split <;> omega
      rw [e, updA_at, updA_at, updA_at]
      exact hE.to hf (fun t ht => by rw [← h2 t ht])
    · have e : rix (nxt k) (min (6 + 1) 6) j = rix k 6 (j + 1) := by unfold rix nxt; split <;> omega
      have hne : rix k 6 (j + 1) ≠ k := by unfold rix; omega
      rw [e, updA_un _ _ hne, updA_un _ _ hne, updA_un _ _ hne]
      refine (h (j + 1) (by omega)).to (fun _ _ => rfl) (fun t ht => ?_)
      show pf' (41 * j + t) = pf (41 * (j + 1) + t)
      rw [h1 _ (by omega)]
      congr 1
      omega
  · obtain ⟨h1, h2⟩ := hN.1 (by omega)
    have em : min (z + 1) 6 = z + 1 := by omega
    rw [em] at hj ⊢
    by_cases hjz : j = z
    · subst hjz
      have e : rix (nxt k) (j + 1) j = k := by unfold rix nxt; split <;> omega
      rw [e, updA_at, updA_at, updA_at]
      exact hE.to hf (fun t ht => by rw [← h2 t ht])
    · have e : rix (nxt k) (z + 1) j = rix k z j := by unfold rix nxt; split <;> omega
      have hne : rix k z j ≠ k := by unfold rix; omega
      rw [e, updA_un _ _ hne, updA_un _ _ hne, updA_un _ _ hne]
      refine (h j (by omega)).to (fun _ _ => rfl) (fun t ht => ?_)
      exact h1 _ (by omega)
theorem HE.pop {fs : Nat → Nat → Int32} {ns wbs : Nat → Nat} {k z : Nat} {pf : Nat → Int32} (h : HE fs ns wbs k z pf) (hk : k < 6) (hz : z ≤ 6) (hz0 : 0 < z) : HE fs ns wbs (prv k) (z - 1) pf := by
  intro j hj
  have e : rix (prv k) (z - 1) j = rix k z j := by unfold rix prv; split <;> omega
  rw [e]
  exact h j (by omega)
theorem HE.last {fs : Nat → Nat → Int32} {ns wbs : Nat → Nat} {k z : Nat} {pf f' gn' : Nat → Int32} (h : HE fs ns wbs k z pf) (hk : k < 6) (hz : z ≤ 6) (hz0 : 0 < z) (hf : ∀ j, j < 32 → f' j = fs (prv k) j) (hg : ∀ t, t < 41 → gn' t = pf (41 * (z - 1) + t)) : ENT f' (ns (prv k)) (wbs (prv k)) gn' := by
  have e : rix k z (z - 1) = prv k := by unfold rix prv; split <;> omega
  have := h (z - 1) (by omega)
  rw [e] at this
  exact this.to hf hg
theorem HE.zero (fs : Nat → Nat → Int32) (ns wbs : Nat → Nat) (k : Nat) (pf : Nat → Int32) : HE fs ns wbs k 0 pf := fun j hj => absurd hj (Nat.not_lt_zero _)
theorem IE.keep {gs : Nat → Nat → Int32} {ms vbs : Nat → Nat} {kb n ww j : Nat} {kz mf mf' gn f f' : Nat → Int32} (h : IE gs ms vbs kb kz mf) (hj : j < 2) (hE : ENT f n ww gn) (hf : ∀ j, j < 32 → f' j = f j) (hA : ∀ t, (t < 41 * j ∨ 41 * j + 41 ≤ t) → mf' t = mf t) (hB : ∀ t, t < 41 → mf' (41 * j + t) = gn t) :
    IE (updA gs j f') (updA ms j n) (updA vbs j ww) (kb ||| 2 ^ j) (upd kz j 1) mf' := by
  intro i hi
  by_cases hij : i = j
  · subst hij
    have hb : (kb ||| 2 ^ i).testBit i = true := by rw [Nat.testBit_or, Nat.testBit_two_pow_self, Bool.or_true]
    rw [hb, pk_us, updA_at, updA_at, updA_at]
    exact ⟨rfl, fun _ => hE.to hf (fun t ht => hB t ht)⟩
  · have hb : (kb ||| 2 ^ j).testBit i = kb.testBit i := by rw [Nat.testBit_or, Nat.testBit_two_pow_of_ne (Ne.symm hij), Bool.or_false]
    rw [hb, pk_un hij, updA_un _ _ hij, updA_un _ _ hij, updA_un _ _ hij]
    refine ⟨(h i hi).1, fun hh => ((h i hi).2 hh).to (fun _ _ => rfl) (fun t ht => ?_)⟩
    refine hA _ ?_
    rcases (show (i = 0 ∧ j = 1) ∨ (i = 1 ∧ j = 0) by omega) with ⟨rfl, rfl⟩ | ⟨rfl, rfl⟩
    · left; omega
    · right; omega
theorem kb_or {kb j : Nat} (h : kb < 4) (hj : j < 2) : kb ||| 2 ^ j < 4 := by
  have : ∀ kb, kb < 4 → ∀ j, j < 2 → kb ||| 2 ^ j < 4 := by decide
  exact this kb h j hj
theorem IE.none (gs : Nat → Nat → Int32) (ms vbs : Nat → Nat) (kz mf : Nat → Int32) (h0 : kz 0 = 0) (h1 : kz 1 = 0) : IE gs ms vbs 0 kz mf := by
  intro j hj
  rw [Nat.zero_testBit]
  refine ⟨?_, fun h => by cases h⟩
  rcases (show j = 0 ∨ j = 1 by omega) with rfl | rfl
  · exact h0
  · exact h1
theorem ENB.clr {nu : Nat → Nat → Nat} {f : Nat → Int32} {n w j : Nat} {gn : Nat → Int32} (h : ENB nu f n w gn) (hj : j < n) : ENB nu f n (clr w j) (upd gn (5 * j + 5) 0) := by
  obtain ⟨h1, h2, h3, h4, h5, h6, h7, h8⟩ := h
  exact ⟨h1, h2, Nat.lt_of_le_of_lt (clr_le w j) h3, h4, h5, by rw [pk_un (by omega)]; exact h6, fun a i ha hi => by rw [pk_un (by omega)]; exact h7 a i ha hi, gw_clr h2 h3 hj h8⟩
theorem ENB.set {nu : Nat → Nat → Nat} {f : Nat → Int32} {n w j : Nat} {gn : Nat → Int32} (h : ENB nu f n w gn) (hj : j < n) : ENB nu f n (w ||| 2 ^ j) (upd gn (5 * j + 5) 1) := by
  obtain ⟨h1, h2, h3, h4, h5, h6, h7, h8⟩ := h
  exact ⟨h1, h2, Nat.or_lt_two_pow h3 (Nat.pow_lt_pow_right (by decide) hj), h4, h5, by rw [pk_un (by omega)]; exact h6, fun a i ha hi => by rw [pk_un (by omega)]; exact h7 a i ha hi, gw_set h2 h3 hj h8⟩
def nuC (nu : Nat → Nat → Nat) (j d : Nat) : Nat → Nat → Nat := fun a i => if a = 2 ∧ i = j then d else nu a i
theorem nuC_at (nu : Nat → Nat → Nat) (j d : Nat) : nuC nu j d 2 j = d := if_pos ⟨rfl, rfl⟩
theorem nuC_un (nu : Nat → Nat → Nat) (j d : Nat) {a i : Nat} (h : ¬ (a = 2 ∧ i = j)) : nuC nu j d a i = nu a i := if_neg h
theorem ENB.cam {nu : Nat → Nat → Nat} {f : Nat → Int32} {n w j d : Nat} {gn : Nat → Int32} (h : ENB nu f n w gn) (hj : j < n) (hd : d < 31) : ENB (nuC nu j d) (upd f (2 * 8 + j) (nI d)) n w (upd gn (5 * j + 3) (nI d)) := by
  obtain ⟨h1, h2, h3, h4, h5, h6, h7, h8⟩ := h
  refine ⟨h1, h2, h3, fun a i ha hi => ?_, fun i hi => ?_, ?_, fun a i ha hi => ?_, fun i hi => ?_⟩
  · by_cases e : a = 2 ∧ i = j
    · obtain ⟨rfl, rfl⟩ := e
      rw [pk_us, nuC_at]
    · rw [pk_un (by omega), nuC_un _ _ _ e]; exact h4 a i ha hi
  · have q := h5 i hi
    rw [nuC_un _ _ _ (by omega), nuC_un _ _ _ (by omega), nuC_un (a := 3) _ _ _ (by omega)]
    refine ⟨q.1, q.2.1, ?_, q.2.2.2⟩
    by_cases e : i = j
    · subst e; rw [nuC_at]; omega
    · rw [nuC_un _ _ _ (by omega)]; exact q.2.2.1
  · rw [pk_un (by omega)]; exact h6
  · by_cases e : a = 2 ∧ i = j
    · obtain ⟨rfl, rfl⟩ := e
      rw [nuC_at]; exact pk_us
    · rw [pk_un (by omega), nuC_un _ _ _ e]; exact h7 a i ha hi
  · rw [pk_un (by omega)]; exact h8 i hi
theorem nxt_lt {k : Nat} (h : k < 6) : nxt k < 6 := by unfold nxt; split <;> omega
theorem prv_lt {k : Nat} (h : k < 6) : prv k < 6 := by unfold prv; split <;> omega
theorem bit_kz {kb j : Nat} {kz : Nat → Int32} {b : Bool} (h : kz j = nI (kb.testBit j).toNat) (hb : kb.testBit j = b) : kz j = nI b.toNat := by rw [h, hb]
theorem upd_tx {tx : Nat → Int32} {ch : Nat → Nat} {z c : Nat} (h : ∀ i, i < z → tx i = nI (ch i)) : ∀ i, i < z + 1 → upd tx z (nI c) i = nI (updA ch z c i) := by
  intro i hi
  by_cases e : i = z
  · subst e; rw [pk_us, updA_at]
  · rw [pk_un e, updA_un _ _ e]; exact h i (by omega)
theorem upd_le {ch : Nat → Nat} {z c K : Nat} (h : ∀ i, i < z → ch i ≤ K) (hc : c ≤ K) : ∀ i, i < z + 1 → updA ch z c i ≤ K := by
  intro i hi
  by_cases e : i = z
  · subst e; rw [updA_at]; exact hc
  · rw [updA_un _ _ e]; exact h i (by omega)
section LBASE
variable {p : Program} {l : Launch} {e : Env} {R : Room} {s : State} {m : MethodId} {args : Array Value} {below : List Frame} {meth : Method} {c : Code} {H : Heap} {locs : List Loc} {cells slots : Nat} {Q : State → Prop}
variable {cc : ByteArray} {nL pc : Nat} {ls : Array Slot} {rest : List Value} {Ts : List Cond} {own : String} {g : GG} {A : Nat → Prop} {ws : va_W}
theorem top_sld {b L j : Nat} {xs : Nat → Int32} {x : Int32} (C : CX p s m args meth c cc nL Ts own g A) (S : ST g A s H locs ws) (hX : va_X b L xs s s.heap) (hbl : b < s.heap.size) (hbA : ¬ A b) (hx : x = nI j) (hj : j < L) (hL : L ≤ 2048) (hdg : decode cc pc = .ok (.iaload, 1))
    (kk : W p l e R s m args below meth c H locs cells slots Q (F0 m (pc + 1) ls (.int (xs j) :: rest))) : W p l e R s m args below meth c H locs cells slots Q (F0 m pc ls (.int x :: .ref b :: rest)) := by
  subst hx
  refine va_sld C.1.1 C.1.2.1 hX hbl hbA S.2.2 (vp_in_nI hj (by omega)) hdg ?_
  rw [nI_clamp (by omega)]
  exact kk
end LBASE
