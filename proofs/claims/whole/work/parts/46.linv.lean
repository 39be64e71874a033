structure PA where
  h : Nat
  q : Nat
  dh : Nat
  dq : Nat
  th : Nat
  tl : Nat
  HH : Nat
  rg : Nat
  a0 : Nat
  b0 : Nat
  a1 : Nat
  b1 : Nat
  a2 : Nat
  b2 : Nat
  a3 : Nat
  b3 : Nat
  a4 : Nat
  b4 : Nat
  a5 : Nat
  b5 : Nat
  IM : Nat
  ig : Nat
  c0 : Nat
  d0 : Nat
  c1 : Nat
  d1 : Nat
  SG : Nat
  la : Nat
  ba : Nat
  P : Nat
  ra : Nat
  sa : Nat
  ta : Nat
  ca : Nat
  nw : Nat
  dr : Nat
  pa : Nat
  im : Nat
  ke : Nat
  fl : Nat
  fq : Nat
  te : Nat
  ni : Nat
  re : Nat
  ma : Nat
  be : Nat
structure PV where
  f : Nat → Int32
  n : Nat
  ww : Nat
  df : Nat → Int32
  dn : Nat
  dw : Nat
  tz : Nat
  tx : Nat → Int32
  ro : Nat → Option Nat
  k : Nat
  z : Nat
  fs : Nat → Nat → Int32
  ns : Nat → Nat
  wbs : Nat → Nat
  io : Nat → Option Nat
  kb : Nat
  gs : Nat → Nat → Int32
  ms : Nat → Nat
  vbs : Nat → Nat
  sz : Nat
  lf : Nat → Int32
  bf : Nat → Int32
  p1 : Int32
  p2 : Int32
  p3 : Int32
  p4 : Int32
  p5 : Int32
  rf : Nat → Int32
  sf : Nat → Int32
  tf : Nat → Int32
  cf : Nat → Int32
  yat : Int32
  yst : Int32
  yso : Int32
  v0 : Nat
  yab : Int32
  ybl : Int32
  yis : Int32
  yra : Int32
  gn : Nat → Int32
  mdf : Nat → Int32
  pf : Nat → Int32
  mf : Nat → Int32
  kz : Nat → Int32
  nf : Nat → Int32
  ref : Nat → Int32
  mz : Nat → Int32
  bm : Nat → Int32
  nu : Nat → Nat → Nat
  ch : Nat → Nat
  lo : Nat → Nat

def WLs (O M : Nat) (g : GG) (aa : PA) (vv : PV) : va_W := [(O, ob 6 [.ref aa.h, .ref aa.dh, .ref aa.th, .ref aa.HH, .ref aa.IM, .ref aa.SG, .ref aa.P, .ref aa.ca]), (aa.h, ob 2 [.ref aa.q, .int (nI vv.n), .int (nI vv.ww)]), (aa.q, aI g 32 vv.f), (aa.dh, ob 2 [.ref aa.dq, .int (nI vv.dn), .int (nI vv.dw)]), (aa.dq, aI g 32 vv.df), (aa.th, ob 5 [.ref aa.tl, .int (nI vv.tz)]), (aa.tl, aC g 100 vv.tx), (aa.HH, ob 0 [.ref aa.rg, .int (nI vv.k), .int (nI vv.z)]), (aa.rg, aO g 6 vv.ro), (aa.a0, ob 2 [.ref aa.b0, .int (nI (vv.ns 0)), .int (nI (vv.wbs 0))]), (aa.b0, aI g 32 (vv.fs 0)), (aa.a1, ob 2 [.ref aa.b1, .int (nI (vv.ns 1)), .int (nI (vv.wbs 1))]), (aa.b1, aI g 32 (vv.fs 1)), (aa.a2, ob 2 [.ref aa.b2, .int (nI (vv.ns 2)), .int (nI (vv.wbs 2))]), (aa.b2, aI g 32 (vv.fs 2)), (aa.a3, ob 2 [.ref aa.b3, .int (nI (vv.ns 3)), .int (nI (vv.wbs 3))]), (aa.b3, aI g 32 (vv.fs 3)), (aa.a4, ob 2 [.ref aa.b4, .int (nI (vv.ns 4)), .int (nI (vv.wbs 4))]), (aa.b4, aI g 32 (vv.fs 4)), (aa.a5, ob 2 [.ref aa.b5, .int (nI (vv.ns 5)), .int (nI (vv.wbs 5))]), (aa.b5, aI g 32 (vv.fs 5)), (aa.IM, ob 1 [.ref aa.ig, .int (nI vv.kb)]), (aa.ig, aO g 2 vv.io), (aa.c0, ob 2 [.ref aa.d0, .int (nI (vv.ms 0)), .int (nI (vv.vbs 0))]), (aa.d0, aI g 32 (vv.gs 0)), (aa.c1, ob 2 [.ref aa.d1, .int (nI (vv.ms 1)), .int (nI (vv.vbs 1))]), (aa.d1, aI g 32 (vv.gs 1)), (aa.SG, ob 4 [.ref aa.la, .ref aa.ba, .int (nI vv.sz)]), (aa.la, aI g 6 vv.lf), (aa.ba, aI g 6 vv.bf), (aa.P, ob 3 [.ref aa.ra, .ref aa.sa, .ref aa.ta, .int vv.p1, .int vv.p2, .int vv.p3, .int vv.p4, .int vv.p5]), (aa.ra, aI g 8 vv.rf), (aa.sa, aI g 8 vv.sf), (aa.ta, aI g 8 vv.tf), (aa.ca, aI g 9 vv.cf), (M, ob 7 [.ref aa.nw, .ref aa.dr, .ref aa.pa, .int (nI vv.z), .ref aa.im, .ref aa.ke, .ref aa.fl, .ref aa.fq, .int (nI vv.sz), .ref aa.te, .int (nI vv.tz), .int vv.yat, .int vv.yst, .int vv.yso, .int (nI vv.v0), .ref aa.ni, .ref aa.re, .int vv.yab, .int vv.ybl, .int vv.yis, .int vv.yra, .ref aa.ma, .ref aa.be]), (aa.nw, aI g 41 vv.gn), (aa.dr, aI g 41 vv.mdf), (aa.pa, aI g 246 vv.pf), (aa.im, aI g 82 vv.mf), (aa.ke, aZ g 2 vv.kz), (aa.fl, aI g 6 vv.lf), (aa.fq, aI g 6 vv.bf), (aa.te, aI g 100 vv.tx), (aa.ni, aI g 8 vv.nf), (aa.re, aI g 8 vv.ref), (aa.ma, aZ g 9 vv.mz), (aa.be, aI g 9 vv.bm)]

def FA (aa : PA) (vv : PV) : Prop := (ENB vv.nu vv.f vv.n vv.ww vv.gn) ∧ (vv.ro 0 = some aa.a0 ∧ vv.ro 1 = some aa.a1 ∧ vv.ro 2 = some aa.a2 ∧ vv.ro 3 = some aa.a3 ∧ vv.ro 4 = some aa.a4 ∧ vv.ro 5 = some aa.a5) ∧ (vv.io 0 = some aa.c0 ∧ vv.io 1 = some aa.c1) ∧ (vv.k < 6) ∧ (vv.z ≤ 6) ∧ (vv.kb < 4) ∧ (vv.tz ≤ 100) ∧ (∀ i, i < vv.tz → vv.tx i = nI (vv.ch i)) ∧ (∀ i, i < vv.tz → vv.ch i ≤ 255) ∧ (vv.sz ≤ 6) ∧ (∀ i, i < vv.sz → vv.lf i = nI (vv.lo i)) ∧ (∀ i, i < vv.sz → vv.lo i ≤ 999) ∧ (vv.v0 ≤ 2000) ∧ (HE vv.fs vv.ns vv.wbs vv.k vv.z vv.pf) ∧ (IE vv.gs vv.ms vv.vbs vv.kb vv.kz vv.mf)

def LINV (g : GG) (A : Nat → Prop) (ss : State) (H : Heap) (locs : List Loc) (O M : Nat) : Prop := ∃ (aa : PA) (vv : PV), ST g A ss H locs (WLs O M g aa vv) ∧ FA aa vv
