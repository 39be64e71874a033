/-! contracts of constructors: they make cells -/
def PRC (g : GG) (ws : va_W) (sz : Nat) (U : State) : Prop := PRE g ws sz U ∧ va_AO RX2 U
theorem prc_blind (g : GG) (av : List Value) (ws : va_W) (sz : Nat) : FrameBlind (va_Pc av (PRC g ws sz)) := fun a U f mk q => by
  obtain ⟨q0, q1, q2⟩ := q
  obtain ⟨r0, r1⟩ := pre_blind g av ws sz a U f mk ⟨q0, q1⟩
  exact ⟨r0, r1, va_AO.moved (u := U) (U := U.calling f mk a) (Vm.Alike.refl U.vm) q2⟩
def KC (l : Launch) (g : GG) (y : MethodName) (wy : List Cond) (fr lo mc ms : Nat) (av : List Value) (ws : va_W) (X : va_W → Prop) : Prop :=
  ∀ sz : Nat, Met l y wy { frames := fr, cells := mc, slots := ms, locals := lo } (va_Pc av (PRC g ws sz)) (va_Qv X (fun ws' t => POST g (va_A ws sz) ws' t) (va_A ws sz)) mc ms (va_A ws sz)
def QC (below : List Frame) (args : Array Value) (s : State) (g : GG) (A : Nat → Prop) (mc ms : Nat) (X : va_W → Prop) : State → Prop := MQ below (va_Qv X (fun ws' t => POST g A ws' t) A) args s mc ms A
theorem kC_of {l : Launch} {g : GG} {y : MethodName} {wy wy' : List Cond} {fr lo mc ms : Nat} {av : List Value} {ws : va_W} {X : va_W → Prop} {cc : ByteArray} {maxL : Nat}
    (hy : plainName y.cls = true) (hyn : y.name = "<init>") (hw : wy = Cond.code y cc maxL none :: wy') (hlen : (lg_sl av).length ≤ maxL)
    (body : ∀ (p : Program) (e : Env) (s : State) (m : MethodId) (below : List Frame) (meth : Method) (c : Code) (A : Nat → Prop) (ls : Array Slot), CX p s m av.toArray meth c cc maxL wy y.cls g A → ST g A s s.heap [] ws → meth.sig.returnType = none → lv_has ls maxL (lv_args 0 av) → va_AO RX2 s → meth.name = "<init>" →
      W p l e { frames := fr, cells := mc, slots := ms, locals := lo } s m av.toArray below meth c s.heap [] 0 0 (QC below av.toArray s g A mc ms X) (F0 m 0 ls [])) : KC l g y wy fr lo mc ms av ws X := by
  intro sz
  refine Met.ofW (cc := cc) (maxL := maxL) (ret := none) hy hw ?_
  intro p e s m args below meth c s₁ B hml hv
  obtain ⟨rfl, ⟨hsz, hP, hK, hD0, hE⟩, hAO⟩ := hv
  subst hsz
  have hl := lv_entry av (n := maxL) hlen
  rw [lg_entry_eq]
  exact body p e s m below meth c (va_A ws s.heap.size) _ ⟨⟨B.exec, B.bytes, hml, findClass_of_methodNamed B.named, atoms_spec (ws := wy) B.pre⟩, hK, hE, fun q h => Or.inr h, B.notSynchronized⟩ ⟨hP, hD0.self, va_S.rf⟩ B.returns hl hAO ((name_of_methodNamed B.named B.method).1.trans hyn)
section CBASE
variable {p : Program} {l : Launch} {e : Env} {R : Room} {s : State} {m : MethodId} {args : Array Value} {below : List Frame} {meth : Method} {c : Code} {H : Heap} {locs : List Loc} {cells slots : Nat} {Q : State → Prop}
variable {cc : ByteArray} {nL pc : Nat} {ls : Array Slot} {rest : List Value} {Ts : List Cond} {own : String} {g : GG} {A : Nat → Prop} {ws wc wr wc' : va_W}
theorem prcS_at (C : CX p s m args meth c cc nL Ts own g A) (S : ST g A s H locs ws) (hAO : va_AO RX2 s) {As : List Value} (isC : List Nat) (hC : isC.map (fun i => ws[i]?) = wc.map some) (hn : va_nd isC = true) : PreS s H (va_Pc As (PRC g wc H.size)) As :=
  ⟨prc_blind g As wc H.size, fun U hU hW => ⟨rfl, pre_at C S isC hC hn U hU hW, hAO.moved hW.alike⟩⟩
theorem after_C {y : MethodName} {st0 : List Value} {a : Array Value} {mc ms cn sn : Nat} {X : va_W → Prop} (C : CX p s m args meth c cc nL Ts own g A) (S : ST g A s H locs ws)
    (hr : va_Run p l e R s m args below meth c H locs cells slots mc ms (F0 m pc ls st0) rest (va_Qv X (fun ws' t => POST g (va_A wc H.size) ws' t) (va_A wc H.size) a) (va_A wc H.size)) (hcn : cells + mc = cn) (hsn : slots + ms = sn)
    (isC isR : List Nat) (hC : isC.map (fun i => ws[i]?) = wc.map some) (hR : isR.map (fun i => ws[i]?) = wr.map some) (hn : va_nd isR = true) (hdis : ∀ i ∈ isR, i ∉ isC)
    (kk : ∀ (wc' : va_W) (H1 : Heap) (locs1 : List Loc), X wc' → ST g A s H1 locs1 (wr ++ wc') → W p l e R s m args below meth c H1 locs1 cn sn Q (F0 m (pc + 3) ls rest)) : W p l e R s m args below meth c H locs cells slots Q (F0 m pc ls st0) := by
  subst hcn; subst hsn
  have hF := va_free S.2.1 S.2.2 C.2.2.2.1 isC hC
  refine va_callv hr S.2.2 (fun q _ h => hF q h) hF (fun u t H1 locs1 ht hvm hw hB hz1 hk1 hS => ?_)
  obtain ⟨hP1, hK1, hD1⟩ := hB
  rw [ht] at hP1
  obtain ⟨hP, hD⟩ := va_join S.1 S.2.1 isC isR hC hR hn hdis hk1 hF hP1 hD1
  exact kk u H1 locs1 hw ⟨hP, hD, hS⟩
theorem ret_C {mc ms : Nat} {X : va_W → Prop} (C : CX p s m args meth c cc nL Ts own g A) (S : ST g A s H locs ws) (hr : meth.sig.returnType = none) (hdg : decode cc pc = .ok (.return_, 1)) (hv : X ws) : W p l e R s m args below meth c H locs mc ms (QC below args s g A mc ms X) (F0 m pc ls []) :=
  W.vret C.1.1 C.1.2.1 hr (fun t ht hW => ⟨⟨ws, rfl, hv, by rw [ht]; exact S.1, va_K.moved hW.alike C.2.1, S.2.1⟩, S.2.2.F ht⟩) S.2.2.2.2 hdg C.2.2.2.2
theorem top_obj {a idx : Nat} (C : CX p s m args meth c cc nL Ts own g A) (hl : ls.size = nL) (hlink : (Cond.methodLink own idx objectInit).before args s = true) (hinst : (Cond.instanceMethod objectInit).before args s = true) (hcode : (Cond.code objectInit ⟨#[0xb1]⟩ 1 none).before args s = true) (hdg : decode cc pc = .ok (.invokespecial idx, 3)) (hf : 1 ≤ R.frames) (hlo : 12 ≤ R.locals)
    (kk : W p l e R s m args below meth c H locs cells slots Q (F0 m (pc + 3) ls [])) : W p l e R s m args below meth c H locs cells slots Q (F0 m pc ls [.ref a]) := by
  refine W.objInit C.1.1 C.1.2.1 C.1.2.2.2.1 hlink hinst hcode rfl (by rw [C.1.2.2.1]; exact hl) rfl hdg hf (by simpa using hlo) ?_
  exact kk
theorem top_newI {N' cn sn : Nat} {x : Int32} (C : CX p s m args meth c cc nL Ts own g A) (S : ST g A s H locs ws) (harr : (Cond.arrayClass .int).before args s = true) (hx : x = nI N') (hN : N' < 1000) (hcn : cells + 1 = cn) (hsn : slots + N' = sn) (hc : cn ≤ R.cells) (hs : sn ≤ R.slots) (hdg : decode cc pc = .ok (.newarray .int, 2))
    (kk : ∀ (q : Nat) (H1 : Heap), ST g A s H1 locs (ws ++ [(q, aI g N' (fun _ => 0))]) → W p l e R s m args below meth c H1 locs cn sn Q (F0 m (pc + 2) ls (.ref q :: rest))) : W p l e R s m args below meth c H locs cells slots Q (F0 m pc ls (.int x :: rest)) := by
  subst hx; subst hcn; subst hsn
  have hNb : N' < 2 ^ 31 := by omega
  refine va_newa (atype := .int) (ty := .int) (a0 := (N', .inl fun _ => 0)) (N' := N') C.1.1 C.1.2.1 harr rfl C.2.1 S.1 S.2.1 S.2.2 C.2.2.2.1 (fun cA => rfl) (fun h => absurd ((nI_ltI hNb (by decide)).mp h) (Nat.not_lt_zero _)) (nI_clamp hNb) (by show N' * 4 ≤ 536870912; omega) hc hs hdg (fun q cA H1 hK hP hD hS => ?_)
  have e1 : s.vm.findClass ("[" ++ FieldType.toString .int) = some cA := (hK.2 4 _ rfl).2
  have e2 : s.vm.findClass ("[" ++ FieldType.toString .int) = some g.2.2.1 := (C.2.1.2 1 _ rfl).2
  have e3 : cA = g.2.2.1 := Option.some.inj (e1.symm.trans e2)
  subst e3
  exact kk q H1 ⟨hP, hD, hS⟩
theorem top_newZ {N' cn sn : Nat} {x : Int32} (C : CX p s m args meth c cc nL Ts own g A) (S : ST g A s H locs ws) (harr : (Cond.arrayClass .boolean).before args s = true) (hx : x = nI N') (hN : N' < 1000) (hcn : cells + 1 = cn) (hsn : slots + N' = sn) (hc : cn ≤ R.cells) (hs : sn ≤ R.slots) (hdg : decode cc pc = .ok (.newarray .boolean, 2))
    (kk : ∀ (q : Nat) (H1 : Heap), ST g A s H1 locs (ws ++ [(q, aZ g N' (fun _ => 0))]) → W p l e R s m args below meth c H1 locs cn sn Q (F0 m (pc + 2) ls (.ref q :: rest))) : W p l e R s m args below meth c H locs cells slots Q (F0 m pc ls (.int x :: rest)) := by
  subst hx; subst hcn; subst hsn
  have hNb : N' < 2 ^ 31 := by omega
  refine va_newa (atype := .boolean) (ty := .boolean) (a0 := (N', .inl fun _ => 0)) (N' := N') C.1.1 C.1.2.1 harr rfl C.2.1 S.1 S.2.1 S.2.2 C.2.2.2.1 (fun cA => rfl) (fun h => absurd ((nI_ltI hNb (by decide)).mp h) (Nat.not_lt_zero _)) (nI_clamp hNb) (by show N' * 1 ≤ 536870912; omega) hc hs hdg (fun q cA H1 hK hP hD hS => ?_)
  have e1 : s.vm.findClass ("[" ++ FieldType.toString .boolean) = some cA := (hK.2 4 _ rfl).2
  have e2 : s.vm.findClass ("[" ++ FieldType.toString .boolean) = some g.2.2.2.1 := (C.2.1.2 2 _ rfl).2
  have e3 : cA = g.2.2.2.1 := Option.some.inj (e1.symm.trans e2)
  subst e3
  exact kk q H1 ⟨hP, hD, hS⟩
theorem top_newC {N' cn sn : Nat} {x : Int32} (C : CX p s m args meth c cc nL Ts own g A) (S : ST g A s H locs ws) (harr : (Cond.arrayClass .char).before args s = true) (hx : x = nI N') (hN : N' < 1000) (hcn : cells + 1 = cn) (hsn : slots + N' = sn) (hc : cn ≤ R.cells) (hs : sn ≤ R.slots) (hdg : decode cc pc = .ok (.newarray .char, 2))
    (kk : ∀ (q : Nat) (H1 : Heap), ST g A s H1 locs (ws ++ [(q, aC g N' (fun _ => 0))]) → W p l e R s m args below meth c H1 locs cn sn Q (F0 m (pc + 2) ls (.ref q :: rest))) : W p l e R s m args below meth c H locs cells slots Q (F0 m pc ls (.int x :: rest)) := by
  subst hx; subst hcn; subst hsn
  have hNb : N' < 2 ^ 31 := by omega
  refine va_newa (atype := .char) (ty := .char) (a0 := (N', .inl fun _ => 0)) (N' := N') C.1.1 C.1.2.1 harr rfl C.2.1 S.1 S.2.1 S.2.2 C.2.2.2.1 (fun cA => rfl) (fun h => absurd ((nI_ltI hNb (by decide)).mp h) (Nat.not_lt_zero _)) (nI_clamp hNb) (by show N' * 2 ≤ 536870912; omega) hc hs hdg (fun q cA H1 hK hP hD hS => ?_)
  have e1 : s.vm.findClass ("[" ++ FieldType.toString .char) = some cA := (hK.2 4 _ rfl).2
  have e2 : s.vm.findClass ("[" ++ FieldType.toString .char) = some g.2.1 := (C.2.1.2 0 _ rfl).2
  have e3 : cA = g.2.1 := Option.some.inj (e1.symm.trans e2)
  subst e3
  exact kk q H1 ⟨hP, hD, hS⟩
theorem top_newO {N' cn sn index : Nat} {x : Int32} (C : CX p s m args meth c cc nL Ts own g A) (S : ST g A s H locs ws) (hAO : va_AO RX2 s) (hlink : (Cond.classLink own index RX2).before args s = true) (hx : x = nI N') (hN : N' < 1000) (hcn : cells + 1 = cn) (hsn : slots + N' = sn) (hc : cn ≤ R.cells) (hs : sn ≤ R.slots) (hdg : decode cc pc = .ok (.anewarray index, 3))
    (kk : ∀ (q : Nat) (H1 : Heap), ST g A s H1 locs (ws ++ [(q, aO g N' (fun _ => none))]) → W p l e R s m args below meth c H1 locs cn sn Q (F0 m (pc + 3) ls (.ref q :: rest))) : W p l e R s m args below meth c H locs cells slots Q (F0 m pc ls (.int x :: rest)) := by
  subst hx; subst hcn; subst hsn
  have hNb : N' < 2 ^ 31 := by omega
  refine va_newq (C := RX2) (N' := N') C.1.1 C.1.2.1 C.1.2.2.2.1 hlink hAO C.2.1 S.1 S.2.1 S.2.2 C.2.2.2.1 (fun h => absurd ((nI_ltI hNb (by decide)).mp h) (Nat.not_lt_zero _)) (nI_clamp hNb) (by omega) hc hs hdg (fun q cA H1 hK hP hD hS => ?_)
  obtain ⟨-, -, -, -, -, e1⟩ := (hK.2 4 _ rfl).2
  obtain ⟨-, -, -, -, -, e2⟩ := (C.2.1.2 3 _ rfl).2
  have e3 : cA = g.2.2.2.2 := Option.some.inj (e1.symm.trans e2)
  subst e3
  exact kk q H1 ⟨hP, hD, hS⟩
theorem top_new {K : String} {T : u_T} {N ci index cn sn : Nat} {fs : List Value} (C : CX p s m args meth c cc nL Ts own g A) (S : ST g A s H locs ws) (hin : ∀ w ∈ u_ws K T N, w ∈ Ts) (ty : Nat → FieldType) (hty : ∀ k, k < N → parseFieldDescriptor (T k).2.2.1 = some (ty k)) (hc : vwCl[ci]? = some (K, T, N)) (hl1 : Cond.classLink own index K ∈ Ts) (hl2 : Cond.instantiable K N ∈ Ts) (hl3 : Cond.initialized K ∈ Ts) (hfs : ∀ j, j < N → defaultValue (ty j) = vp_V fs j)
    (hcn : cells + 1 = cn) (hsn : slots + N = sn) (hcR : cn ≤ R.cells) (hsR : sn ≤ R.slots) (hdg : decode cc pc = .ok (.new index, 3))
    (kk : ∀ (q : Nat) (H1 : Heap), ST g A s H1 locs (ws ++ [(q, ob ci fs)]) → W p l e R s m args below meth c H1 locs cn sn Q (F0 m (pc + 3) ls (.ref q :: rest))) : W p l e R s m args below meth c H locs cells slots Q (F0 m pc ls rest) := by
  subst hcn; subst hsn
  have hts := C.1.2.2.2.2
  exact va_new C.1.1 C.1.2.1 hts hin ty hty C.1.2.2.2.1 (hts _ hl1) (hts _ hl2) (hts _ hl3) C.2.1 S.1 S.2.1 S.2.2 C.2.2.2.1 hc hfs hcR hsR hdg (fun q H1 hP hD hS => kk q H1 ⟨hP, hD, hS⟩)
theorem top_putF {K : String} {T : u_T} {N ci index : Nat} (C : CX p s m args meth c cc nL Ts own g A) (S : ST g A s H locs ws) (hin : ∀ w ∈ u_ws K T N, w ∈ Ts) (ty0 : Nat → FieldType) (hty : ∀ k, k < N → parseFieldDescriptor (T k).2.2.1 = some (ty0 k)) (hnm : ∀ a, a < N → ∀ b, b < N → a ≠ b → (T a).2.1 ≠ (T b).2.1) (hc : vwCl[ci]? = some (K, T, N)) (q0 : Nat) {a : Nat} {fs : List Value} (he : ws[q0]? = some (a, ob ci fs)) (k : Nat) (hk : k < N)
    (hlink : Cond.fieldLink own index (T k).1 (T k).2.1 (T k).2.2.1 ∈ Ts) (hfin : (T k).2.2.2 = true) (hin2 : meth.name = "<init>") (hdecl : (T k).1 = own) {ty : FieldType} {v : Value} (hd : parseFieldDescriptor (T k).2.2.1 = some ty) (hn : narrow ty v = v) (hfit : fits ty v = true) (hl : k < fs.length) (hdg : decode cc pc = .ok (.putfield index, 3))
    (kk : ∀ (H1 : Heap) (locs1 : List Loc), ST g A s H1 locs1 (ws.set q0 (a, ob ci (fs.set k v))) → W p l e R s m args below meth c H1 locs1 cells slots Q (F0 m (pc + 3) ls rest)) : W p l e R s m args below meth c H locs cells slots Q (F0 m pc ls (v :: .ref a :: rest)) := by
  have hts := C.1.2.2.2.2
  exact va_putF (ref := (T k).1) C.1.1 C.1.2.1 hts hin ty0 hty hnm C.1.2.2.2.1 C.2.1 S.1 S.2.1 S.2.2 q0 he hc k hk (hts _ hlink) (fun _ h9 => h9) hfin hin2 hdecl hd hn hfit hl hdg (fun H1 locs1 hP hD hS => kk H1 locs1 ⟨hP, hD, hS⟩)
theorem top_ost {n j a v : Nat} {vs : List Value} {f : Nat → Option Nat} {x : Int32} (C : CX p s m args meth c cc nL Ts own g A) (S : ST g A s H locs ws) (q0 : Nat) (he : ws[q0]? = some (a, aO g n f)) (qk : Nat) (hv : ws[qk]? = some (v, ob 2 vs)) (hx : x = nI j) (hj : j < n) (hn : n < 2 ^ 31) (hdg : decode cc pc = .ok (.aastore, 1))
    (kk : ∀ (H1 : Heap) (locs1 : List Loc), ST g A s H1 locs1 (ws.set q0 (a, aO g n (va_up f j (some v)))) → W p l e R s m args below meth c H1 locs1 cells slots Q (F0 m (pc + 1) ls rest)) : W p l e R s m args below meth c H locs cells slots Q (F0 m pc ls (.ref v :: .int x :: .ref a :: rest)) := by
  subst hx
  refine va_astq C.1.1 C.1.2.1 C.2.1 S.1 S.2.1 S.2.2 q0 3 qk 2 he rfl hv rfl (vp_in_nI hj hn) hdg (fun H1 locs1 a1 a2 a3 => ?_)
  rw [nI_clamp (Nat.lt_trans hj hn)] at a1 a2
  exact kk H1 locs1 ⟨a1, a2, a3⟩
end CBASE
