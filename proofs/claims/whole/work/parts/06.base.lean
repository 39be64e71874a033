/-! the worlds' kinds, the facts that every method carries, contracts of methods that make nothing -/
abbrev GG : Type := va_G × ClassId × ClassId × ClassId × ClassId
abbrev gTy (g : GG) : List (ClassId × FieldType) := [(g.2.1, .char), (g.2.2.1, .int), (g.2.2.2.1, .boolean), (g.2.2.2.2, .object "StackedLeaves$Leaves")]
abbrev aC (g : GG) (n : Nat) (f : Nat → Int32) : va_E := .inl (g.2.1, n, .inl f)
abbrev aI (g : GG) (n : Nat) (f : Nat → Int32) : va_E := .inl (g.2.2.1, n, .inl f)
abbrev aZ (g : GG) (n : Nat) (f : Nat → Int32) : va_E := .inl (g.2.2.2.1, n, .inl f)
abbrev aO (g : GG) (n : Nat) (f : Nat → Option Nat) : va_E := .inl (g.2.2.2.2, n, .inr (.inr (.inr (.inr f))))
abbrev ob (ci : Nat) (fs : List Value) : va_E := .inr (ci, fs)
def bI (b : Bool) : Int32 := if b then 1 else 0
def nwF : List (String × Nat × String × String × String) := [
  ("StackedLeaves$Pack", 21, "StackedLeaves$Leaves", "size", "I"), ("StackedLeaves", 84, "StackedLeaves$Leaves", "size", "I"), ("StackedLeaves", 88, "StackedLeaves$Leaves", "whole", "I"),
  ("StackedLeaves", 62, "StackedLeaves$Text", "size", "I"), ("StackedLeaves", 128, "StackedLeaves$History", "size", "I"), ("StackedLeaves", 175, "StackedLeaves$Sightings", "size", "I"),
  ("StackedLeaves", 132, "StackedLeaves$Pack", "reach", "[I"), ("StackedLeaves", 141, "StackedLeaves$Pack", "upper", "I"), ("StackedLeaves", 144, "StackedLeaves$Pack", "lower", "I"),
  ("StackedLeaves", 157, "StackedLeaves$Pack", "pressedStiff", "I"), ("StackedLeaves$Text", 47, "StackedLeaves", "LEAST_NUMBER", "[I"), ("StackedLeaves$Leaves", 36, "StackedLeaves", "MOST_NUMBER", "[I"),
  ("StackedLeaves$Text", 35, "StackedLeaves$Leaves", "size", "I")]
def nwM : List (String × Nat × MethodName) := [("StackedLeaves", 21, yX5_init), ("StackedLeaves", 42, yX4_init), ("StackedLeaves", 49, yX3_init),
  ("StackedLeaves$Pack", 31, yX6_holds), ("StackedLeaves$Leaves", 28, yX6_holds), ("StackedLeaves$Images", 26, yX6_holds)]
def EVN (U : State) : Prop := (∀ q ∈ nwF, va_Nw (.fieldLinkNest q.1 q.2.1 q.2.2.1 q.2.2.2.1 q.2.2.2.2 "StackedLeaves") U) ∧ (∀ q ∈ nwM, va_Nw (.methodLinkNest q.1 q.2.1 q.2.2 "StackedLeaves") U)
def fLe (j : Nat) : Int32 := if j = 2 then 0 else 1
def fMo (j : Nat) : Int32 := if j = 0 then 9 else if j = 1 then 9 else if j = 2 then 30 else 99
def EV (A : Nat → Prop) (U : State) (H : Heap) : Prop := EVN U ∧ (∃ t : Nat, va_Z "StackedLeaves" "LEAST_NUMBER" "[I" (.ref t) A U H ∧ va_T .int t 4 (fun j => .int (fLe j)) A U H) ∧ (∃ t : Nat, va_Z "StackedLeaves" "MOST_NUMBER" "[I" (.ref t) A U H ∧ va_T .int t 4 (fun j => .int (fMo j)) A U H)
theorem EV.moved {A : Nat → Prop} {s U : State} {H : Heap} (hW : s.WarmedH U.vm) (h : EV A s H) : EV A U H := by
  obtain ⟨⟨h1, h2⟩, ⟨t1, a1, b1⟩, ⟨t2, a2, b2⟩⟩ := h
  exact ⟨⟨fun q hq => va_Nw.warmF hW (h1 q hq), fun q hq => va_Nw.warmM hW (h2 q hq)⟩, ⟨t1, a1.moved hW.alike, b1.moved hW.alike⟩, ⟨t2, a2.moved hW.alike, b2.moved hW.alike⟩⟩
theorem EV.same {A : Nat → Prop} {s U : State} {H : Heap} (hv : s.vm = U.vm) (h : EV A s H) : EV A U H := by
  obtain ⟨⟨h1, h2⟩, ⟨t1, a1, b1⟩, ⟨t2, a2, b2⟩⟩ := h
  have ha : s.vm.Alike U.vm := by rw [hv]; exact Vm.Alike.refl U.vm
  exact ⟨⟨fun q hq => va_Nw.same rfl hv (h1 q hq), fun q hq => va_Nw.same rfl hv (h2 q hq)⟩, ⟨t1, a1.moved ha, b1.moved ha⟩, ⟨t2, a2.moved ha, b2.moved ha⟩⟩
theorem EV.kept {A : Nat → Prop} {U : State} {H H1 : Heap} (hq : ∀ a : Nat, a < H.size → ¬ A a → H1[a]? = H[a]?) (h : EV A U H) : EV A U H1 := by
  obtain ⟨h1, ⟨t1, a1, b1⟩, ⟨t2, a2, b2⟩⟩ := h
  exact ⟨h1, ⟨t1, a1.kept hq, b1.kept hq⟩, ⟨t2, a2.kept hq, b2.kept hq⟩⟩
theorem EV.narrow {A B : Nat → Prop} {U : State} {H : Heap} (hAB : ∀ q, B q → A q) (h : EV A U H) : EV B U H := by
  obtain ⟨h1, ⟨t1, a1, b1⟩, ⟨t2, a2, b2⟩⟩ := h
  exact ⟨h1, ⟨t1, a1.narrow hAB, b1.narrow hAB⟩, ⟨t2, a2.narrow hAB, b2.narrow hAB⟩⟩
def PRE (g : GG) (ws : va_W) (sz : Nat) (U : State) : Prop := U.heap.size = sz ∧ va_P g.1 vwCl ws U.heap ∧ va_K g.1 vwCl (gTy g) U ∧ va_D (fun _ => True) ws ∧ EV (va_A ws sz) U U.heap
def POST (g : GG) (A : Nat → Prop) (ws' : va_W) (t : State) : Prop := va_P g.1 vwCl ws' t.heap ∧ va_K g.1 vwCl (gTy g) t ∧ va_D A ws'
theorem pre_blind (g : GG) (av : List Value) (ws : va_W) (sz : Nat) : FrameBlind (va_Pc av (PRE g ws sz)) := fun a U f mk q => by
  obtain ⟨q0, q1, qP, qK, qD, qE⟩ := q
  exact ⟨q0, q1, qP, va_K.moved (u := U) (U := U.calling f mk a) (Vm.Alike.refl U.vm) qK, qD, EV.same (s := U) (U := U.calling f mk a) rfl qE⟩
def KI (l : Launch) (g : GG) (y : MethodName) (wy : List Cond) (fr lo : Nat) (av : List Value) (ws : va_W) (X : Int32 → va_W → Prop) : Prop :=
  ∀ sz : Nat, Met l y wy { frames := fr, cells := 0, slots := 0, locals := lo } (va_Pc av (PRE g ws sz)) (va_Qi X (fun ws' t => POST g (va_A ws sz) ws' t) (va_A ws sz)) 0 0 (va_A ws sz)
def KV (l : Launch) (g : GG) (y : MethodName) (wy : List Cond) (fr lo : Nat) (av : List Value) (ws : va_W) (X : va_W → Prop) : Prop :=
  ∀ sz : Nat, Met l y wy { frames := fr, cells := 0, slots := 0, locals := lo } (va_Pc av (PRE g ws sz)) (va_Qv X (fun ws' t => POST g (va_A ws sz) ws' t) (va_A ws sz)) 0 0 (va_A ws sz)
def QI (below : List Frame) (args : Array Value) (s : State) (g : GG) (A : Nat → Prop) (X : Int32 → va_W → Prop) : State → Prop := MQ below (va_Qi X (fun ws' t => POST g A ws' t) A) args s 0 0 A
def QV (below : List Frame) (args : Array Value) (s : State) (g : GG) (A : Nat → Prop) (X : va_W → Prop) : State → Prop := MQ below (va_Qv X (fun ws' t => POST g A ws' t) A) args s 0 0 A
/-- what holds throughout a method's body -/
def CX (p : Program) (s : State) (m : MethodId) (args : Array Value) (meth : Method) (c : Code) (cc : ByteArray) (nL : Nat) (Ts : List Cond) (own : String) (g : GG) (A : Nat → Prop) : Prop :=
  CallFix p m c cc nL s args Ts own ∧ va_K g.1 vwCl (gTy g) s ∧ EV A s s.heap ∧ (∀ q : Nat, s.heap.size ≤ q → A q) ∧ meth.locks = false
/-- the world now -/
def ST (g : GG) (A : Nat → Prop) (s : State) (H : Heap) (locs : List Loc) (ws : va_W) : Prop := va_P g.1 vwCl ws H ∧ va_D A ws ∧ va_S A s.heap H locs
theorem ST.sub {g : GG} {A : Nat → Prop} {s : State} {H : Heap} {locs : List Loc} {ws ws' : va_W} (h : ST g A s H locs ws) (is : List Nat) (hn : va_nd is = true) (hs : is.map (fun i => ws[i]?) = ws'.map some) : ST g A s H locs ws' := by
  refine ⟨fun k q hk => ?_, h.2.1.sub is hn hs, h.2.2⟩
  have h1 : (is.map (fun i => ws[i]?))[k]? = some (some q) := by rw [hs, List.getElem?_map, hk]; rfl
  rw [List.getElem?_map] at h1
  cases hi : is[k]? with
  | none => rw [hi] at h1; cases h1
  | some i => rw [hi] at h1; exact h.1 i q (Option.some.inj h1)
theorem ST.eq {g : GG} {A : Nat → Prop} {s : State} {H : Heap} {locs : List Loc} {ws ws' : va_W} (h : ST g A s H locs ws) (e : ws = ws') : ST g A s H locs ws' := e ▸ h
theorem kI_of {l : Launch} {g : GG} {y : MethodName} {wy wy' : List Cond} {fr lo : Nat} {av : List Value} {ws : va_W} {X : Int32 → va_W → Prop} {cc : ByteArray} {maxL : Nat} {ty : FieldType}
    (hy : plainName y.cls = true) (hw : wy = Cond.code y cc maxL (some ty) :: wy') (hlen : (lg_sl av).length ≤ maxL)
    (body : ∀ (p : Program) (e : Env) (s : State) (m : MethodId) (below : List Frame) (meth : Method) (c : Code) (A : Nat → Prop) (ls : Array Slot), CX p s m av.toArray meth c cc maxL wy y.cls g A → ST g A s s.heap [] ws → meth.sig.returnType = some ty → lv_has ls maxL (lv_args 0 av) →
      W p l e { frames := fr, cells := 0, slots := 0, locals := lo } s m av.toArray below meth c s.heap [] 0 0 (QI below av.toArray s g A X) (F0 m 0 ls [])) : KI l g y wy fr lo av ws X := by
  intro sz
  refine Met.ofW (cc := cc) (maxL := maxL) (ret := some ty) hy hw ?_
  intro p e s m args below meth c s₁ B hml hv
  obtain ⟨rfl, hsz, hP, hK, hD0, hE⟩ := hv
  subst hsz
  have hl := lv_entry av (n := maxL) hlen
  rw [lg_entry_eq]
  exact body p e s m below meth c (va_A ws s.heap.size) _ ⟨⟨B.exec, B.bytes, hml, findClass_of_methodNamed B.named, atoms_spec (ws := wy) B.pre⟩, hK, hE, fun q h => Or.inr h, B.notSynchronized⟩ ⟨hP, hD0.self, va_S.rf⟩ B.returns hl
theorem kV_of {l : Launch} {g : GG} {y : MethodName} {wy wy' : List Cond} {fr lo : Nat} {av : List Value} {ws : va_W} {X : va_W → Prop} {cc : ByteArray} {maxL : Nat}
    (hy : plainName y.cls = true) (hw : wy = Cond.code y cc maxL none :: wy') (hlen : (lg_sl av).length ≤ maxL)
    (body : ∀ (p : Program) (e : Env) (s : State) (m : MethodId) (below : List Frame) (meth : Method) (c : Code) (A : Nat → Prop) (ls : Array Slot), CX p s m av.toArray meth c cc maxL wy y.cls g A → ST g A s s.heap [] ws → meth.sig.returnType = none → lv_has ls maxL (lv_args 0 av) →
      W p l e { frames := fr, cells := 0, slots := 0, locals := lo } s m av.toArray below meth c s.heap [] 0 0 (QV below av.toArray s g A X) (F0 m 0 ls [])) : KV l g y wy fr lo av ws X := by
  intro sz
  refine Met.ofW (cc := cc) (maxL := maxL) (ret := none) hy hw ?_
  intro p e s m args below meth c s₁ B hml hv
  obtain ⟨rfl, hsz, hP, hK, hD0, hE⟩ := hv
  subst hsz
  have hl := lv_entry av (n := maxL) hlen
  rw [lg_entry_eq]
  exact body p e s m below meth c (va_A ws s.heap.size) _ ⟨⟨B.exec, B.bytes, hml, findClass_of_methodNamed B.named, atoms_spec (ws := wy) B.pre⟩, hK, hE, fun q h => Or.inr h, B.notSynchronized⟩ ⟨hP, hD0.self, va_S.rf⟩ B.returns hl
section BASE
variable {p : Program} {l : Launch} {e : Env} {R : Room} {s : State} {m : MethodId} {args : Array Value} {below : List Frame} {meth : Method} {c : Code} {H : Heap} {locs : List Loc} {cells slots : Nat} {Q : State → Prop}
variable {cc : ByteArray} {nL pc : Nat} {ls : Array Slot} {rest : List Value} {Ts : List Cond} {own : String} {g : GG} {A : Nat → Prop} {ws wc wr wc' : va_W}
theorem ev_at (C : CX p s m args meth c cc nL Ts own g A) (S : ST g A s H locs ws) : EV A s H := EV.kept (fun a h1 h2 => S.2.2.2.1 a h1 h2) C.2.2.1
theorem pre_at (C : CX p s m args meth c cc nL Ts own g A) (S : ST g A s H locs ws) (isC : List Nat) (hC : isC.map (fun i => ws[i]?) = wc.map some) (hn : va_nd isC = true) : ∀ U : State, U.heap = H → s.WarmedH U.vm → PRE g wc H.size U := by
  intro U hU hW
  have S2 := S.sub isC hn hC
  refine ⟨by rw [hU], by rw [hU]; exact S2.1, va_K.moved hW.alike C.2.1, S2.2.1.weaken (fun _ _ _ _ => trivial), ?_⟩
  rw [hU]
  exact EV.moved hW (EV.narrow (va_free S.2.1 S.2.2 C.2.2.2.1 isC hC) (ev_at C S))
theorem preS_at (C : CX p s m args meth c cc nL Ts own g A) (S : ST g A s H locs ws) {As : List Value} (isC : List Nat) (hC : isC.map (fun i => ws[i]?) = wc.map some) (hn : va_nd isC = true) : PreS s H (va_Pc As (PRE g wc H.size)) As :=
  ⟨pre_blind g As wc H.size, fun U hU hW => ⟨rfl, pre_at C S isC hC hn U hU hW⟩⟩
theorem preV_at (C : CX p s m args meth c cc nL Ts own g A) (S : ST g A s H locs ws) {As : List Value} {b : Nat} (q0 : Nat) {ci : Nat} {fs : List Value} (he : ws[q0]? = some (b, .inr (ci, fs))) {q : vw_C} (hc : vwCl[ci]? = some q) (isC : List Nat) (hC : isC.map (fun i => ws[i]?) = wc.map some) (hn : va_nd isC = true) : PreV s H q.1 b (va_Pc (.ref b :: As) (PRE g wc H.size)) As :=
  ⟨pre_blind g (.ref b :: As) wc H.size, va_recv C.2.1 S.1 hc he, fun U hU hW => ⟨rfl, pre_at C S isC hC hn U hU hW⟩⟩
theorem after_I {y : MethodName} {st0 : List Value} {a : Array Value} {X : Int32 → va_W → Prop} (C : CX p s m args meth c cc nL Ts own g A) (S : ST g A s H locs ws)
    (hr : va_Run p l e R s m args below meth c H locs cells slots 0 0 (F0 m pc ls st0) rest (va_Qi X (fun ws' t => POST g (va_A wc H.size) ws' t) (va_A wc H.size) a) (va_A wc H.size))
    (isC isR : List Nat) (hC : isC.map (fun i => ws[i]?) = wc.map some) (hR : isR.map (fun i => ws[i]?) = wr.map some) (hn : va_nd isR = true) (hdis : ∀ i ∈ isR, i ∉ isC)
    (kk : ∀ (r : Int32) (wc' : va_W) (H1 : Heap) (locs1 : List Loc), X r wc' → ST g A s H1 locs1 (wr ++ wc') → W p l e R s m args below meth c H1 locs1 cells slots Q (F0 m (pc + 3) ls (.int r :: rest))) : W p l e R s m args below meth c H locs cells slots Q (F0 m pc ls st0) := by
  have hF := va_free S.2.1 S.2.2 C.2.2.2.1 isC hC
  refine va_calli hr S.2.2 (fun q _ h => hF q h) hF (fun r1 u t H1 locs1 ht hvm hw hB hz1 hk1 hS => ?_)
  obtain ⟨hP1, hK1, hD1⟩ := hB
  rw [ht] at hP1
  obtain ⟨hP, hD⟩ := va_join S.1 S.2.1 isC isR hC hR hn hdis hk1 hF hP1 hD1
  exact kk r1 u H1 locs1 hw ⟨hP, hD, hS⟩
theorem after_V {y : MethodName} {st0 : List Value} {a : Array Value} {X : va_W → Prop} (C : CX p s m args meth c cc nL Ts own g A) (S : ST g A s H locs ws)
    (hr : va_Run p l e R s m args below meth c H locs cells slots 0 0 (F0 m pc ls st0) rest (va_Qv X (fun ws' t => POST g (va_A wc H.size) ws' t) (va_A wc H.size) a) (va_A wc H.size))
    (isC isR : List Nat) (hC : isC.map (fun i => ws[i]?) = wc.map some) (hR : isR.map (fun i => ws[i]?) = wr.map some) (hn : va_nd isR = true) (hdis : ∀ i ∈ isR, i ∉ isC)
    (kk : ∀ (wc' : va_W) (H1 : Heap) (locs1 : List Loc), X wc' → ST g A s H1 locs1 (wr ++ wc') → W p l e R s m args below meth c H1 locs1 cells slots Q (F0 m (pc + 3) ls rest)) : W p l e R s m args below meth c H locs cells slots Q (F0 m pc ls st0) := by
  have hF := va_free S.2.1 S.2.2 C.2.2.2.1 isC hC
  refine va_callv hr S.2.2 (fun q _ h => hF q h) hF (fun u t H1 locs1 ht hvm hw hB hz1 hk1 hS => ?_)
  obtain ⟨hP1, hK1, hD1⟩ := hB
  rw [ht] at hP1
  obtain ⟨hP, hD⟩ := va_join S.1 S.2.1 isC isR hC hR hn hdis hk1 hF hP1 hD1
  exact kk u H1 locs1 hw ⟨hP, hD, hS⟩
theorem ret_I {v : Int32} {X : Int32 → va_W → Prop} (C : CX p s m args meth c cc nL Ts own g A) (S : ST g A s H locs ws) (hr : meth.sig.returnType = some .int) (hdg : decode cc pc = .ok (.ireturn, 1)) (hv : X v ws) : W p l e R s m args below meth c H locs 0 0 (QI below args s g A X) (F0 m pc ls [.int v]) :=
  W.iret C.1.1 C.1.2.1 hr (fun t ht hW => ⟨⟨v, ws, rfl, hv, by rw [ht]; exact S.1, va_K.moved hW.alike C.2.1, S.2.1⟩, S.2.2.F ht⟩) S.2.2.2.2 hdg C.2.2.2.2
theorem bI_nar (b : Bool) : narrow .boolean (.int (bI b)) = .int (bI b) := by cases b <;> rfl
theorem ret_Z {v : Int32} (b : Bool) {X : Int32 → va_W → Prop} (C : CX p s m args meth c cc nL Ts own g A) (S : ST g A s H locs ws) (hr : meth.sig.returnType = some .boolean) (hdg : decode cc pc = .ok (.ireturn, 1)) (hb : v = bI b) (hv : X v ws) : W p l e R s m args below meth c H locs 0 0 (QI below args s g A X) (F0 m pc ls [.int v]) := by
  subst hb
  exact W.zret C.1.1 C.1.2.1 hr (bI_nar b) (fun t ht hW => ⟨⟨_, ws, rfl, hv, by rw [ht]; exact S.1, va_K.moved hW.alike C.2.1, S.2.1⟩, S.2.2.F ht⟩) S.2.2.2.2 hdg C.2.2.2.2
theorem ret_V {X : va_W → Prop} (C : CX p s m args meth c cc nL Ts own g A) (S : ST g A s H locs ws) (hr : meth.sig.returnType = none) (hdg : decode cc pc = .ok (.return_, 1)) (hv : X ws) : W p l e R s m args below meth c H locs 0 0 (QV below args s g A X) (F0 m pc ls []) :=
  W.vret C.1.1 C.1.2.1 hr (fun t ht hW => ⟨⟨ws, rfl, hv, by rw [ht]; exact S.1, va_K.moved hW.alike C.2.1, S.2.1⟩, S.2.2.F ht⟩) S.2.2.2.2 hdg C.2.2.2.2
/-- a number on top, by another of its names -/
theorem top_eq {x y : Int32} (h : x = y) (k : W p l e R s m args below meth c H locs cells slots Q (F0 m pc ls (.int y :: rest))) : W p l e R s m args below meth c H locs cells slots Q (F0 m pc ls (.int x :: rest)) := by rw [h]; exact k
theorem top_get {C0 : String} {T : u_T} {N ci index : Nat} {fs : List Value} {a : Nat} {v : Value} {ref : String} (C : CX p s m args meth c cc nL Ts own g A) (S : ST g A s H locs ws) (hin : ∀ w ∈ u_ws C0 T N, w ∈ Ts) (hc : vwCl[ci]? = some (C0, T, N)) (q0 : Nat) (he : ws[q0]? = some (a, .inr (ci, fs))) (k : Nat) (hk : k < N) (hlink : Cond.fieldLink own index ref (T k).2.1 (T k).2.2.1 ∈ Ts) (hsame : (T k).1 = ref) (hv : fs[k]? = some v) (hdg : decode cc pc = .ok (.getfield index, 3))
    (kk : W p l e R s m args below meth c H locs cells slots Q (F0 m (pc + 3) ls (v :: rest))) : W p l e R s m args below meth c H locs cells slots Q (F0 m pc ls (.ref a :: rest)) :=
  va_get C.1.1 C.1.2.1 C.1.2.2.2.2 hin C.1.2.2.2.1 C.2.1 S.1 q0 he hc k hk (C.1.2.2.2.2 _ hlink) (fun x h => by rw [← hsame]; exact h) hv hdg kk
theorem top_getN {C0 : String} {T : u_T} {N ci index : Nat} {fs : List Value} {a : Nat} {v : Value} (C : CX p s m args meth c cc nL Ts own g A) (S : ST g A s H locs ws) (hin : ∀ w ∈ u_ws C0 T N, w ∈ Ts) (hc : vwCl[ci]? = some (C0, T, N)) (q0 : Nat) (he : ws[q0]? = some (a, .inr (ci, fs))) (k : Nat) (hk : k < N) (hlink : (own, index, (T k).1, (T k).2.1, (T k).2.2.1) ∈ nwF) (hv : fs[k]? = some v) (hdg : decode cc pc = .ok (.getfield index, 3))
    (kk : W p l e R s m args below meth c H locs cells slots Q (F0 m (pc + 3) ls (v :: rest))) : W p l e R s m args below meth c H locs cells slots Q (F0 m pc ls (.ref a :: rest)) :=
  va_getN C.1.1 C.1.2.1 C.1.2.2.2.2 hin C.1.2.2.2.1 C.2.1 S.1 q0 he hc k hk (va_Nw.use rfl (C.2.2.1.1.1 _ hlink)) (fun x h => h) hv hdg kk
theorem top_put {C0 : String} {T : u_T} {N ci index : Nat} {fs : List Value} {a : Nat} {v : Value} {ty : FieldType} {ref : String} (C : CX p s m args meth c cc nL Ts own g A) (S : ST g A s H locs ws) (hin : ∀ w ∈ u_ws C0 T N, w ∈ Ts) (ty0 : Nat → FieldType) (hty : ∀ k, k < N → parseFieldDescriptor (T k).2.2.1 = some (ty0 k)) (hnm : ∀ a, a < N → ∀ b, b < N → a ≠ b → (T a).2.1 ≠ (T b).2.1) (hc : vwCl[ci]? = some (C0, T, N)) (q0 : Nat) (he : ws[q0]? = some (a, .inr (ci, fs))) (k : Nat) (hk : k < N) (hlink : Cond.fieldLink own index ref (T k).2.1 (T k).2.2.1 ∈ Ts) (hsame : (T k).1 = ref) (hfin : (T k).2.2.2 = false) (hd : parseFieldDescriptor (T k).2.2.1 = some ty) (hn : narrow ty v = v) (hfit : fits ty v = true) (hl : k < fs.length) (hdg : decode cc pc = .ok (.putfield index, 3))
    (kk : ∀ (H1 : Heap) (locs1 : List Loc), ST g A s H1 locs1 (ws.set q0 (a, .inr (ci, fs.set k v))) → W p l e R s m args below meth c H1 locs1 cells slots Q (F0 m (pc + 3) ls rest)) : W p l e R s m args below meth c H locs cells slots Q (F0 m pc ls (v :: .ref a :: rest)) :=
  va_put C.1.1 C.1.2.1 C.1.2.2.2.2 hin ty0 hty hnm C.1.2.2.2.1 C.2.1 S.1 S.2.1 S.2.2 q0 he hc k hk (C.1.2.2.2.2 _ hlink) (fun x h => by rw [← hsame]; exact h) hfin hd hn hfit hl hdg (fun H1 locs1 a1 a2 a3 => kk H1 locs1 ⟨a1, a2, a3⟩)
theorem top_putN {C0 : String} {T : u_T} {N ci index : Nat} {fs : List Value} {a : Nat} {v : Value} {ty : FieldType} (C : CX p s m args meth c cc nL Ts own g A) (S : ST g A s H locs ws) (hin : ∀ w ∈ u_ws C0 T N, w ∈ Ts) (ty0 : Nat → FieldType) (hty : ∀ k, k < N → parseFieldDescriptor (T k).2.2.1 = some (ty0 k)) (hnm : ∀ a, a < N → ∀ b, b < N → a ≠ b → (T a).2.1 ≠ (T b).2.1) (hc : vwCl[ci]? = some (C0, T, N)) (q0 : Nat) (he : ws[q0]? = some (a, .inr (ci, fs))) (k : Nat) (hk : k < N) (hlink : (own, index, (T k).1, (T k).2.1, (T k).2.2.1) ∈ nwF) (hfin : (T k).2.2.2 = false) (hd : parseFieldDescriptor (T k).2.2.1 = some ty) (hn : narrow ty v = v) (hfit : fits ty v = true) (hl : k < fs.length) (hdg : decode cc pc = .ok (.putfield index, 3))
    (kk : ∀ (H1 : Heap) (locs1 : List Loc), ST g A s H1 locs1 (ws.set q0 (a, .inr (ci, fs.set k v))) → W p l e R s m args below meth c H1 locs1 cells slots Q (F0 m (pc + 3) ls rest)) : W p l e R s m args below meth c H locs cells slots Q (F0 m pc ls (v :: .ref a :: rest)) :=
  va_putN C.1.1 C.1.2.1 C.1.2.2.2.2 hin ty0 hty hnm C.1.2.2.2.1 C.2.1 S.1 S.2.1 S.2.2 q0 he hc k hk (va_Nw.use rfl (C.2.2.1.1.1 _ hlink)) (fun x h => h) hfin hd hn hfit hl hdg (fun H1 locs1 a1 a2 a3 => kk H1 locs1 ⟨a1, a2, a3⟩)
/-- arrays, at a place that is a number of ours -/
theorem top_ild {n j a : Nat} {f : Nat → Int32} {x : Int32} (C : CX p s m args meth c cc nL Ts own g A) (S : ST g A s H locs ws) (q0 : Nat) (he : ws[q0]? = some (a, aI g n f)) (hx : x = nI j) (hj : j < n) (hn : n < 2 ^ 31) (hdg : decode cc pc = .ok (.iaload, 1))
    (kk : W p l e R s m args below meth c H locs cells slots Q (F0 m (pc + 1) ls (.int (f j) :: rest))) : W p l e R s m args below meth c H locs cells slots Q (F0 m pc ls (.int x :: .ref a :: rest)) := by
  subst hx
  refine va_iald C.1.1 C.1.2.1 C.2.1 S.1 q0 1 he rfl (vp_in_nI hj hn) hdg ?_
  rw [nI_clamp (Nat.lt_trans hj hn)]
  exact kk
theorem top_zld {n j a : Nat} {f : Nat → Int32} {x : Int32} (C : CX p s m args meth c cc nL Ts own g A) (S : ST g A s H locs ws) (q0 : Nat) (he : ws[q0]? = some (a, aZ g n f)) (hx : x = nI j) (hj : j < n) (hn : n < 2 ^ 31) (hdg : decode cc pc = .ok (.baload, 1))
    (kk : W p l e R s m args below meth c H locs cells slots Q (F0 m (pc + 1) ls (.int (f j) :: rest))) : W p l e R s m args below meth c H locs cells slots Q (F0 m pc ls (.int x :: .ref a :: rest)) := by
  subst hx
  refine va_zald C.1.1 C.1.2.1 C.2.1 S.1 q0 2 he rfl (vp_in_nI hj hn) hdg ?_
  rw [nI_clamp (Nat.lt_trans hj hn)]
  exact kk
theorem top_cld {n j a : Nat} {f : Nat → Int32} {x : Int32} (C : CX p s m args meth c cc nL Ts own g A) (S : ST g A s H locs ws) (q0 : Nat) (he : ws[q0]? = some (a, aC g n f)) (hx : x = nI j) (hj : j < n) (hn : n < 2 ^ 31) (hdg : decode cc pc = .ok (.caload, 1))
    (kk : W p l e R s m args below meth c H locs cells slots Q (F0 m (pc + 1) ls (.int (f j) :: rest))) : W p l e R s m args below meth c H locs cells slots Q (F0 m pc ls (.int x :: .ref a :: rest)) := by
  subst hx
  refine va_cald C.1.1 C.1.2.1 C.2.1 S.1 q0 0 he rfl (vp_in_nI hj hn) hdg ?_
  rw [nI_clamp (Nat.lt_trans hj hn)]
  exact kk
theorem top_old {n j a : Nat} {f : Nat → Option Nat} {x : Int32} {y : Nat} (C : CX p s m args meth c cc nL Ts own g A) (S : ST g A s H locs ws) (q0 : Nat) (he : ws[q0]? = some (a, aO g n f)) (hx : x = nI j) (hj : j < n) (hn : n < 2 ^ 31) (hy : f j = some y) (hdg : decode cc pc = .ok (.aaload, 1))
    (kk : W p l e R s m args below meth c H locs cells slots Q (F0 m (pc + 1) ls (.ref y :: rest))) : W p l e R s m args below meth c H locs cells slots Q (F0 m pc ls (.int x :: .ref a :: rest)) := by
  subst hx
  refine va_aldq C.1.1 C.1.2.1 C.2.1 S.1 q0 3 he rfl (vp_in_nI hj hn) hdg ?_
  rw [nI_clamp (Nat.lt_trans hj hn), hy]
  exact kk
theorem top_ist {n j a : Nat} {f : Nat → Int32} {x v : Int32} (C : CX p s m args meth c cc nL Ts own g A) (S : ST g A s H locs ws) (q0 : Nat) (he : ws[q0]? = some (a, aI g n f)) (hx : x = nI j) (hj : j < n) (hn : n < 2 ^ 31) (hdg : decode cc pc = .ok (.iastore, 1))
    (kk : ∀ (H1 : Heap) (locs1 : List Loc), ST g A s H1 locs1 (ws.set q0 (a, aI g n (upd f j v))) → W p l e R s m args below meth c H1 locs1 cells slots Q (F0 m (pc + 1) ls rest)) : W p l e R s m args below meth c H locs cells slots Q (F0 m pc ls (.int v :: .int x :: .ref a :: rest)) := by
  subst hx
  refine va_iast C.1.1 C.1.2.1 C.2.1 S.1 S.2.1 S.2.2 q0 1 he rfl (vp_in_nI hj hn) hdg (fun H1 locs1 a1 a2 a3 => ?_)
  rw [nI_clamp (Nat.lt_trans hj hn)] at a1 a2
  exact kk H1 locs1 ⟨a1, a2, a3⟩
theorem top_zst {n j a : Nat} {f : Nat → Int32} {x v : Int32} (C : CX p s m args meth c cc nL Ts own g A) (S : ST g A s H locs ws) (q0 : Nat) (he : ws[q0]? = some (a, aZ g n f)) (hx : x = nI j) (hj : j < n) (hn : n < 2 ^ 31) (hv : vp_nar .boolean v = v) (hdg : decode cc pc = .ok (.bastore, 1))
    (kk : ∀ (H1 : Heap) (locs1 : List Loc), ST g A s H1 locs1 (ws.set q0 (a, aZ g n (upd f j v))) → W p l e R s m args below meth c H1 locs1 cells slots Q (F0 m (pc + 1) ls rest)) : W p l e R s m args below meth c H locs cells slots Q (F0 m pc ls (.int v :: .int x :: .ref a :: rest)) := by
  subst hx
  refine va_zast C.1.1 C.1.2.1 C.2.1 S.1 S.2.1 S.2.2 q0 2 he rfl (vp_in_nI hj hn) hdg (fun H1 locs1 a1 a2 a3 => ?_)
  rw [nI_clamp (Nat.lt_trans hj hn), hv] at a1 a2
  exact kk H1 locs1 ⟨a1, a2, a3⟩
theorem top_cst {n j a : Nat} {f : Nat → Int32} {x v : Int32} (C : CX p s m args meth c cc nL Ts own g A) (S : ST g A s H locs ws) (q0 : Nat) (he : ws[q0]? = some (a, aC g n f)) (hx : x = nI j) (hj : j < n) (hn : n < 2 ^ 31) (hv : vp_nar .char v = v) (hdg : decode cc pc = .ok (.castore, 1))
    (kk : ∀ (H1 : Heap) (locs1 : List Loc), ST g A s H1 locs1 (ws.set q0 (a, aC g n (upd f j v))) → W p l e R s m args below meth c H1 locs1 cells slots Q (F0 m (pc + 1) ls rest)) : W p l e R s m args below meth c H locs cells slots Q (F0 m pc ls (.int v :: .int x :: .ref a :: rest)) := by
  subst hx
  refine va_cast C.1.1 C.1.2.1 C.2.1 S.1 S.2.1 S.2.2 q0 0 he rfl (vp_in_nI hj hn) hdg (fun H1 locs1 a1 a2 a3 => ?_)
  rw [nI_clamp (Nat.lt_trans hj hn), hv] at a1 a2
  exact kk H1 locs1 ⟨a1, a2, a3⟩
/-- branches on an answer that is yes or no -/
theorem br_eqB {b : Bool} {off : Int} {tgt : Nat} (hx : p.tables.exec = Jvm.exec) (hb : c.code = cc) (hdg : decode cc pc = .ok (.ifCond .eq off, 3)) (ht : (pc : Int) + off = (tgt : Int))
    (k1 : b = false → W p l e R s m args below meth c H locs cells slots Q (F0 m tgt ls rest)) (k2 : b = true → W p l e R s m args below meth c H locs cells slots Q (F0 m (pc + 3) ls rest)) : W p l e R s m args below meth c H locs cells slots Q (F0 m pc ls (.int (bI b) :: rest)) := by
  cases b with
  | false => exact lv_if_eq hx hb hdg ht (fun _ => k1 rfl) (fun h => absurd (rfl : bI false = 0) h)
  | true => exact lv_if_eq hx hb hdg ht (fun h => absurd h (by decide)) (fun _ => k2 rfl)
theorem br_neB {b : Bool} {off : Int} {tgt : Nat} (hx : p.tables.exec = Jvm.exec) (hb : c.code = cc) (hdg : decode cc pc = .ok (.ifCond .ne off, 3)) (ht : (pc : Int) + off = (tgt : Int))
    (k1 : b = true → W p l e R s m args below meth c H locs cells slots Q (F0 m tgt ls rest)) (k2 : b = false → W p l e R s m args below meth c H locs cells slots Q (F0 m (pc + 3) ls rest)) : W p l e R s m args below meth c H locs cells slots Q (F0 m pc ls (.int (bI b) :: rest)) := by
  cases b with
  | false => exact lv_if_ne hx hb hdg ht (fun h => absurd (rfl : bI false = 0) h) (fun _ => k2 rfl)
  | true => exact lv_if_ne hx hb hdg ht (fun _ => k1 rfl) (fun h => absurd h (by decide))
theorem bn_ilt {x y : Int32} {a b : Nat} {off : Int} {tgt : Nat} (hx : p.tables.exec = Jvm.exec) (hb : c.code = cc) (hxa : x = nI a) (hyb : y = nI b) (ha : a < 2 ^ 31) (hb2 : b < 2 ^ 31) (hdg : decode cc pc = .ok (.if_icmp .lt off, 3)) (ht : (pc : Int) + off = (tgt : Int))
    (kt : a < b → W p l e R s m args below meth c H locs cells slots Q (F0 m tgt ls rest)) (kf : ¬ a < b → W p l e R s m args below meth c H locs cells slots Q (F0 m (pc + 3) ls rest)) : W p l e R s m args below meth c H locs cells slots Q (F0 m pc ls (.int y :: .int x :: rest)) := by
  subst hxa; subst hyb
  exact lv_icmp_lt hx hb hdg ht (fun q => kt ((nI_ltI ha hb2).mp q)) (fun q => kf (fun z => q ((nI_ltI ha hb2).mpr z)))
theorem bn_zlt {x : Int32} {a : Nat} {off : Int} {tgt : Nat} (hx : p.tables.exec = Jvm.exec) (hb : c.code = cc) (hxa : x = nI a) (ha : a < 2 ^ 31) (hdg : decode cc pc = .ok (.ifCond .lt off, 3)) (ht : (pc : Int) + off = (tgt : Int))
    (kt : a < 0 → W p l e R s m args below meth c H locs cells slots Q (F0 m tgt ls rest)) (kf : ¬ a < 0 → W p l e R s m args below meth c H locs cells slots Q (F0 m (pc + 3) ls rest)) : W p l e R s m args below meth c H locs cells slots Q (F0 m pc ls (.int x :: rest)) := by
  subst hxa
  exact lv_if_lt hx hb hdg ht (fun q => kt ((nI_ltI ha (by decide)).mp q)) (fun q => kf (fun z => q ((nI_ltI ha (by decide)).mpr z)))
theorem bn_ige {x y : Int32} {a b : Nat} {off : Int} {tgt : Nat} (hx : p.tables.exec = Jvm.exec) (hb : c.code = cc) (hxa : x = nI a) (hyb : y = nI b) (ha : a < 2 ^ 31) (hb2 : b < 2 ^ 31) (hdg : decode cc pc = .ok (.if_icmp .ge off, 3)) (ht : (pc : Int) + off = (tgt : Int))
    (kt : b ≤ a → W p l e R s m args below meth c H locs cells slots Q (F0 m tgt ls rest)) (kf : ¬ b ≤ a → W p l e R s m args below meth c H locs cells slots Q (F0 m (pc + 3) ls rest)) : W p l e R s m args below meth c H locs cells slots Q (F0 m pc ls (.int y :: .int x :: rest)) := by
  subst hxa; subst hyb
  exact lv_icmp_ge hx hb hdg ht (fun q => kt ((nI_leI hb2 ha).mp q)) (fun q => kf (fun z => q ((nI_leI hb2 ha).mpr z)))
theorem bn_zge {x : Int32} {a : Nat} {off : Int} {tgt : Nat} (hx : p.tables.exec = Jvm.exec) (hb : c.code = cc) (hxa : x = nI a) (ha : a < 2 ^ 31) (hdg : decode cc pc = .ok (.ifCond .ge off, 3)) (ht : (pc : Int) + off = (tgt : Int))
    (kt : 0 ≤ a → W p l e R s m args below meth c H locs cells slots Q (F0 m tgt ls rest)) (kf : ¬ 0 ≤ a → W p l e R s m args below meth c H locs cells slots Q (F0 m (pc + 3) ls rest)) : W p l e R s m args below meth c H locs cells slots Q (F0 m pc ls (.int x :: rest)) := by
  subst hxa
  exact lv_if_ge hx hb hdg ht (fun q => kt ((nI_leI (by decide) ha).mp q)) (fun q => kf (fun z => q ((nI_leI (by decide) ha).mpr z)))
theorem bn_igt {x y : Int32} {a b : Nat} {off : Int} {tgt : Nat} (hx : p.tables.exec = Jvm.exec) (hb : c.code = cc) (hxa : x = nI a) (hyb : y = nI b) (ha : a < 2 ^ 31) (hb2 : b < 2 ^ 31) (hdg : decode cc pc = .ok (.if_icmp .gt off, 3)) (ht : (pc : Int) + off = (tgt : Int))
    (kt : b < a → W p l e R s m args below meth c H locs cells slots Q (F0 m tgt ls rest)) (kf : ¬ b < a → W p l e R s m args below meth c H locs cells slots Q (F0 m (pc + 3) ls rest)) : W p l e R s m args below meth c H locs cells slots Q (F0 m pc ls (.int y :: .int x :: rest)) := by
  subst hxa; subst hyb
  exact lv_icmp_gt hx hb hdg ht (fun q => kt ((nI_ltI hb2 ha).mp q)) (fun q => kf (fun z => q ((nI_ltI hb2 ha).mpr z)))
theorem bn_zgt {x : Int32} {a : Nat} {off : Int} {tgt : Nat} (hx : p.tables.exec = Jvm.exec) (hb : c.code = cc) (hxa : x = nI a) (ha : a < 2 ^ 31) (hdg : decode cc pc = .ok (.ifCond .gt off, 3)) (ht : (pc : Int) + off = (tgt : Int))
    (kt : 0 < a → W p l e R s m args below meth c H locs cells slots Q (F0 m tgt ls rest)) (kf : ¬ 0 < a → W p l e R s m args below meth c H locs cells slots Q (F0 m (pc + 3) ls rest)) : W p l e R s m args below meth c H locs cells slots Q (F0 m pc ls (.int x :: rest)) := by
  subst hxa
  exact lv_if_gt hx hb hdg ht (fun q => kt ((nI_ltI (by decide) ha).mp q)) (fun q => kf (fun z => q ((nI_ltI (by decide) ha).mpr z)))
theorem bn_ile {x y : Int32} {a b : Nat} {off : Int} {tgt : Nat} (hx : p.tables.exec = Jvm.exec) (hb : c.code = cc) (hxa : x = nI a) (hyb : y = nI b) (ha : a < 2 ^ 31) (hb2 : b < 2 ^ 31) (hdg : decode cc pc = .ok (.if_icmp .le off, 3)) (ht : (pc : Int) + off = (tgt : Int))
    (kt : a ≤ b → W p l e R s m args below meth c H locs cells slots Q (F0 m tgt ls rest)) (kf : ¬ a ≤ b → W p l e R s m args below meth c H locs cells slots Q (F0 m (pc + 3) ls rest)) : W p l e R s m args below meth c H locs cells slots Q (F0 m pc ls (.int y :: .int x :: rest)) := by
  subst hxa; subst hyb
  exact lv_icmp_le hx hb hdg ht (fun q => kt ((nI_leI ha hb2).mp q)) (fun q => kf (fun z => q ((nI_leI ha hb2).mpr z)))
theorem bn_zle {x : Int32} {a : Nat} {off : Int} {tgt : Nat} (hx : p.tables.exec = Jvm.exec) (hb : c.code = cc) (hxa : x = nI a) (ha : a < 2 ^ 31) (hdg : decode cc pc = .ok (.ifCond .le off, 3)) (ht : (pc : Int) + off = (tgt : Int))
    (kt : a ≤ 0 → W p l e R s m args below meth c H locs cells slots Q (F0 m tgt ls rest)) (kf : ¬ a ≤ 0 → W p l e R s m args below meth c H locs cells slots Q (F0 m (pc + 3) ls rest)) : W p l e R s m args below meth c H locs cells slots Q (F0 m pc ls (.int x :: rest)) := by
  subst hxa
  exact lv_if_le hx hb hdg ht (fun q => kt ((nI_leI ha (by decide)).mp q)) (fun q => kf (fun z => q ((nI_leI ha (by decide)).mpr z)))
theorem bn_ieq {x y : Int32} {a b : Nat} {off : Int} {tgt : Nat} (hx : p.tables.exec = Jvm.exec) (hb : c.code = cc) (hxa : x = nI a) (hyb : y = nI b) (ha : a < 2 ^ 31) (hb2 : b < 2 ^ 31) (hdg : decode cc pc = .ok (.if_icmp .eq off, 3)) (ht : (pc : Int) + off = (tgt : Int))
    (kt : a = b → W p l e R s m args below meth c H locs cells slots Q (F0 m tgt ls rest)) (kf : ¬ a = b → W p l e R s m args below meth c H locs cells slots Q (F0 m (pc + 3) ls rest)) : W p l e R s m args below meth c H locs cells slots Q (F0 m pc ls (.int y :: .int x :: rest)) := by
  subst hxa; subst hyb
  exact lv_icmp_eq hx hb hdg ht (fun q => kt ((nI_eq ha hb2).mp q)) (fun q => kf (fun z => q ((nI_eq ha hb2).mpr z)))
theorem bn_zeq {x : Int32} {a : Nat} {off : Int} {tgt : Nat} (hx : p.tables.exec = Jvm.exec) (hb : c.code = cc) (hxa : x = nI a) (ha : a < 2 ^ 31) (hdg : decode cc pc = .ok (.ifCond .eq off, 3)) (ht : (pc : Int) + off = (tgt : Int))
    (kt : a = 0 → W p l e R s m args below meth c H locs cells slots Q (F0 m tgt ls rest)) (kf : ¬ a = 0 → W p l e R s m args below meth c H locs cells slots Q (F0 m (pc + 3) ls rest)) : W p l e R s m args below meth c H locs cells slots Q (F0 m pc ls (.int x :: rest)) := by
  subst hxa
  exact lv_if_eq hx hb hdg ht (fun q => kt ((nI_eq ha (by decide)).mp q)) (fun q => kf (fun z => q ((nI_eq ha (by decide)).mpr z)))
theorem bn_ine {x y : Int32} {a b : Nat} {off : Int} {tgt : Nat} (hx : p.tables.exec = Jvm.exec) (hb : c.code = cc) (hxa : x = nI a) (hyb : y = nI b) (ha : a < 2 ^ 31) (hb2 : b < 2 ^ 31) (hdg : decode cc pc = .ok (.if_icmp .ne off, 3)) (ht : (pc : Int) + off = (tgt : Int))
    (kt : ¬ a = b → W p l e R s m args below meth c H locs cells slots Q (F0 m tgt ls rest)) (kf : a = b → W p l e R s m args below meth c H locs cells slots Q (F0 m (pc + 3) ls rest)) : W p l e R s m args below meth c H locs cells slots Q (F0 m pc ls (.int y :: .int x :: rest)) := by
  subst hxa; subst hyb
  exact lv_icmp_ne hx hb hdg ht (fun q => kt (fun z => q ((nI_eq ha hb2).mpr z))) (fun q => kf ((nI_eq ha hb2).mp q))
theorem bn_zne {x : Int32} {a : Nat} {off : Int} {tgt : Nat} (hx : p.tables.exec = Jvm.exec) (hb : c.code = cc) (hxa : x = nI a) (ha : a < 2 ^ 31) (hdg : decode cc pc = .ok (.ifCond .ne off, 3)) (ht : (pc : Int) + off = (tgt : Int))
    (kt : ¬ a = 0 → W p l e R s m args below meth c H locs cells slots Q (F0 m tgt ls rest)) (kf : a = 0 → W p l e R s m args below meth c H locs cells slots Q (F0 m (pc + 3) ls rest)) : W p l e R s m args below meth c H locs cells slots Q (F0 m pc ls (.int x :: rest)) := by
  subst hxa
  exact lv_if_ne hx hb hdg ht (fun q => kt (fun z => q ((nI_eq ha (by decide)).mpr z))) (fun q => kf ((nI_eq ha (by decide)).mp q))
theorem top_tab {t j : Nat} {f : Nat → Int32} {x : Int32} (C : CX p s m args meth c cc nL Ts own g A) (S : ST g A s H locs ws) (hT : va_T .int t 4 (fun j => .int (f j)) A s s.heap) (hx : x = nI j) (hj : j < 4) (hdg : decode cc pc = .ok (.iaload, 1))
    (kk : W p l e R s m args below meth c H locs cells slots Q (F0 m (pc + 1) ls (.int (f j) :: rest))) : W p l e R s m args below meth c H locs cells slots Q (F0 m pc ls (.int x :: .ref t :: rest)) := by
  subst hx
  refine va_ti C.1.1 C.1.2.1 hT S.2.2 (vp_in_nI hj (by decide)) rfl hdg ?_
  rw [nI_clamp (Nat.lt_trans hj (by decide))]
  exact kk
end BASE
def imax (x y : Int32) : Int32 := if x < y then y else x
def imin (x y : Int32) : Int32 := if y < x then y else x
theorem sw_out (x : Int32) {hi : Nat} (hh : hi < 100) (h : ∀ k : Nat, k ≤ hi → ¬ x = nI k) : x.toInt < 0 ∨ (hi : Int) < x.toInt := by
  by_cases h0 : x < 0
  · exact Or.inl (by have := Int32.lt_iff_toInt_lt.mp h0; simpa using this)
  · right
    obtain ⟨j, hj, rfl⟩ := nI_of h0
    rw [nI_toInt hj]
    by_cases hjk : j ≤ hi
    · exact absurd rfl (h j hjk)
    · omega
