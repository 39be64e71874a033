section
-- ===== PART A: goes FIRST, ahead of the names: the tables' words, and 'selects' of the private methods out of them =====
/-- a private method of a class that the tables say can be made, by its rows of tables_1 -/
def lw_okq (q : MethodName × Nat) : Prop := (q.1.cls ≠ "java/lang/invoke/MethodHandle" ∧ q.1.cls ≠ "java/lang/invoke/VarHandle") ∧ Cond.instantiable q.1.cls q.2 ∈ tables_1 ∧ Cond.privateMethod q.1 ∈ tables_1 ∧ Cond.instanceMethod q.1 ∈ tables_1
theorem lw_p0 : lw_okq (⟨"StackedLeaves$Text", "behindBlanks", "(I)I"⟩, 2) := ⟨⟨by decide +kernel, by decide +kernel⟩, List.mem_of_getElem? (i := 42) (by decide +kernel), List.mem_of_getElem? (i := 197) (by decide +kernel), List.mem_of_getElem? (i := 198) (by decide +kernel)⟩
theorem lw_p1 : lw_okq (⟨"StackedLeaves$Text", "tokenEnd", "(I)I"⟩, 2) := ⟨⟨by decide +kernel, by decide +kernel⟩, List.mem_of_getElem? (i := 42) (by decide +kernel), List.mem_of_getElem? (i := 201) (by decide +kernel), List.mem_of_getElem? (i := 202) (by decide +kernel)⟩
theorem lw_p2 : lw_okq (⟨"StackedLeaves$Text", "isFigure", "(I)Z"⟩, 2) := ⟨⟨by decide +kernel, by decide +kernel⟩, List.mem_of_getElem? (i := 42) (by decide +kernel), List.mem_of_getElem? (i := 205) (by decide +kernel), List.mem_of_getElem? (i := 206) (by decide +kernel)⟩
theorem lw_p3 : lw_okq (⟨"StackedLeaves$Text", "takesToken", "(LStackedLeaves$Leaves;III)Z"⟩, 2) := ⟨⟨by decide +kernel, by decide +kernel⟩, List.mem_of_getElem? (i := 42) (by decide +kernel), List.mem_of_getElem? (i := 209) (by decide +kernel), List.mem_of_getElem? (i := 210) (by decide +kernel)⟩
theorem lw_p4 : lw_okq (⟨"StackedLeaves$Text", "numberAt", "(II)I"⟩, 2) := ⟨⟨by decide +kernel, by decide +kernel⟩, List.mem_of_getElem? (i := 42) (by decide +kernel), List.mem_of_getElem? (i := 217) (by decide +kernel), List.mem_of_getElem? (i := 218) (by decide +kernel)⟩
theorem lw_p5 : lw_okq (⟨"StackedLeaves", "stackAll", "(I)V"⟩, 8) := ⟨⟨by decide +kernel, by decide +kernel⟩, List.mem_of_getElem? (i := 13) (by decide +kernel), List.mem_of_getElem? (i := 267) (by decide +kernel), List.mem_of_getElem? (i := 268) (by decide +kernel)⟩
theorem lw_p6 : lw_okq (⟨"StackedLeaves", "fewestThatHold", "(II)I"⟩, 8) := ⟨⟨by decide +kernel, by decide +kernel⟩, List.mem_of_getElem? (i := 13) (by decide +kernel), List.mem_of_getElem? (i := 398) (by decide +kernel), List.mem_of_getElem? (i := 399) (by decide +kernel)⟩
theorem lw_p7 : lw_okq (⟨"StackedLeaves", "suspects", "()I"⟩, 8) := ⟨⟨by decide +kernel, by decide +kernel⟩, List.mem_of_getElem? (i := 13) (by decide +kernel), List.mem_of_getElem? (i := 423) (by decide +kernel), List.mem_of_getElem? (i := 424) (by decide +kernel)⟩
theorem lw_p8 : lw_okq (⟨"StackedLeaves", "stackSuspect", "(I)V"⟩, 8) := ⟨⟨by decide +kernel, by decide +kernel⟩, List.mem_of_getElem? (i := 13) (by decide +kernel), List.mem_of_getElem? (i := 427) (by decide +kernel), List.mem_of_getElem? (i := 428) (by decide +kernel)⟩
theorem lw_p9 : lw_okq (⟨"StackedLeaves", "mostAlike", "(II)I"⟩, 8) := ⟨⟨by decide +kernel, by decide +kernel⟩, List.mem_of_getElem? (i := 13) (by decide +kernel), List.mem_of_getElem? (i := 446) (by decide +kernel), List.mem_of_getElem? (i := 447) (by decide +kernel)⟩
theorem lw_p10 : lw_okq (⟨"StackedLeaves", "alikeUpTo", "(II)I"⟩, 8) := ⟨⟨by decide +kernel, by decide +kernel⟩, List.mem_of_getElem? (i := 13) (by decide +kernel), List.mem_of_getElem? (i := 451) (by decide +kernel), List.mem_of_getElem? (i := 452) (by decide +kernel)⟩
theorem lw_p11 : lw_okq (⟨"StackedLeavesModel", "reads", "()Z"⟩, 23) := ⟨⟨by decide +kernel, by decide +kernel⟩, List.mem_of_getElem? (i := 486) (by decide +kernel), List.mem_of_getElem? (i := 578) (by decide +kernel), List.mem_of_getElem? (i := 579) (by decide +kernel)⟩
theorem lw_p12 : lw_okq (⟨"StackedLeavesModel", "token", "()V"⟩, 23) := ⟨⟨by decide +kernel, by decide +kernel⟩, List.mem_of_getElem? (i := 486) (by decide +kernel), List.mem_of_getElem? (i := 582) (by decide +kernel), List.mem_of_getElem? (i := 583) (by decide +kernel)⟩
theorem lw_p13 : lw_okq (⟨"StackedLeavesModel", "letterAt", "(I)I"⟩, 23) := ⟨⟨by decide +kernel, by decide +kernel⟩, List.mem_of_getElem? (i := 486) (by decide +kernel), List.mem_of_getElem? (i := 586) (by decide +kernel), List.mem_of_getElem? (i := 587) (by decide +kernel)⟩
theorem lw_p14 : lw_okq (⟨"StackedLeavesModel", "readsLeaf", "()Z"⟩, 23) := ⟨⟨by decide +kernel, by decide +kernel⟩, List.mem_of_getElem? (i := 486) (by decide +kernel), List.mem_of_getElem? (i := 593) (by decide +kernel), List.mem_of_getElem? (i := 594) (by decide +kernel)⟩
theorem lw_p15 : lw_okq (⟨"StackedLeavesModel", "number", "(III)Z"⟩, 23) := ⟨⟨by decide +kernel, by decide +kernel⟩, List.mem_of_getElem? (i := 486) (by decide +kernel), List.mem_of_getElem? (i := 597) (by decide +kernel), List.mem_of_getElem? (i := 598) (by decide +kernel)⟩
def lw_privs_1 : List (MethodName × Nat) := [(⟨"StackedLeaves$Text", "behindBlanks", "(I)I"⟩, 2), (⟨"StackedLeaves$Text", "tokenEnd", "(I)I"⟩, 2), (⟨"StackedLeaves$Text", "isFigure", "(I)Z"⟩, 2), (⟨"StackedLeaves$Text", "takesToken", "(LStackedLeaves$Leaves;III)Z"⟩, 2), (⟨"StackedLeaves$Text", "numberAt", "(II)I"⟩, 2), (⟨"StackedLeaves", "stackAll", "(I)V"⟩, 8), (⟨"StackedLeaves", "fewestThatHold", "(II)I"⟩, 8), (⟨"StackedLeaves", "suspects", "()I"⟩, 8), (⟨"StackedLeaves", "stackSuspect", "(I)V"⟩, 8), (⟨"StackedLeaves", "mostAlike", "(II)I"⟩, 8), (⟨"StackedLeaves", "alikeUpTo", "(II)I"⟩, 8), (⟨"StackedLeavesModel", "reads", "()Z"⟩, 23), (⟨"StackedLeavesModel", "token", "()V"⟩, 23), (⟨"StackedLeavesModel", "letterAt", "(I)I"⟩, 23), (⟨"StackedLeavesModel", "readsLeaf", "()Z"⟩, 23), (⟨"StackedLeavesModel", "number", "(III)Z"⟩, 23)]
theorem lw_r1 : ∀ q ∈ lw_privs_1, lw_okq q := List.forall_mem_cons.mpr ⟨lw_p0, List.forall_mem_cons.mpr ⟨lw_p1, List.forall_mem_cons.mpr ⟨lw_p2, List.forall_mem_cons.mpr ⟨lw_p3, List.forall_mem_cons.mpr ⟨lw_p4, List.forall_mem_cons.mpr ⟨lw_p5, List.forall_mem_cons.mpr ⟨lw_p6, List.forall_mem_cons.mpr ⟨lw_p7, List.forall_mem_cons.mpr ⟨lw_p8, List.forall_mem_cons.mpr ⟨lw_p9, List.forall_mem_cons.mpr ⟨lw_p10, List.forall_mem_cons.mpr ⟨lw_p11, List.forall_mem_cons.mpr ⟨lw_p12, List.forall_mem_cons.mpr ⟨lw_p13, List.forall_mem_cons.mpr ⟨lw_p14, List.forall_mem_cons.mpr ⟨lw_p15, fun _ h => absurd h List.not_mem_nil⟩⟩⟩⟩⟩⟩⟩⟩⟩⟩⟩⟩⟩⟩⟩⟩
theorem lw_p16 : lw_okq (⟨"StackedLeavesModel", "notes", "()V"⟩, 23) := ⟨⟨by decide +kernel, by decide +kernel⟩, List.mem_of_getElem? (i := 486) (by decide +kernel), List.mem_of_getElem? (i := 601) (by decide +kernel), List.mem_of_getElem? (i := 602) (by decide +kernel)⟩
theorem lw_p17 : lw_okq (⟨"StackedLeavesModel", "whole", "()I"⟩, 23) := ⟨⟨by decide +kernel, by decide +kernel⟩, List.mem_of_getElem? (i := 486) (by decide +kernel), List.mem_of_getElem? (i := 613) (by decide +kernel), List.mem_of_getElem? (i := 614) (by decide +kernel)⟩
theorem lw_p18 : lw_okq (⟨"StackedLeavesModel", "isWhole", "(I)Z"⟩, 23) := ⟨⟨by decide +kernel, by decide +kernel⟩, List.mem_of_getElem? (i := 486) (by decide +kernel), List.mem_of_getElem? (i := 617) (by decide +kernel), List.mem_of_getElem? (i := 618) (by decide +kernel)⟩
theorem lw_p19 : lw_okq (⟨"StackedLeavesModel", "of", "(II)I"⟩, 23) := ⟨⟨by decide +kernel, by decide +kernel⟩, List.mem_of_getElem? (i := 486) (by decide +kernel), List.mem_of_getElem? (i := 621) (by decide +kernel), List.mem_of_getElem? (i := 622) (by decide +kernel)⟩
theorem lw_p20 : lw_okq (⟨"StackedLeavesModel", "wholeBehind", "(I)I"⟩, 23) := ⟨⟨by decide +kernel, by decide +kernel⟩, List.mem_of_getElem? (i := 486) (by decide +kernel), List.mem_of_getElem? (i := 631) (by decide +kernel), List.mem_of_getElem? (i := 632) (by decide +kernel)⟩
theorem lw_p21 : lw_okq (⟨"StackedLeavesModel", "all", "()I"⟩, 23) := ⟨⟨by decide +kernel, by decide +kernel⟩, List.mem_of_getElem? (i := 486) (by decide +kernel), List.mem_of_getElem? (i := 635) (by decide +kernel), List.mem_of_getElem? (i := 636) (by decide +kernel)⟩
theorem lw_p22 : lw_okq (⟨"StackedLeavesModel", "bends", "(III)V"⟩, 23) := ⟨⟨by decide +kernel, by decide +kernel⟩, List.mem_of_getElem? (i := 486) (by decide +kernel), List.mem_of_getElem? (i := 639) (by decide +kernel), List.mem_of_getElem? (i := 640) (by decide +kernel)⟩
theorem lw_p23 : lw_okq (⟨"StackedLeavesModel", "reaches", "(I)V"⟩, 23) := ⟨⟨by decide +kernel, by decide +kernel⟩, List.mem_of_getElem? (i := 486) (by decide +kernel), List.mem_of_getElem? (i := 643) (by decide +kernel), List.mem_of_getElem? (i := 644) (by decide +kernel)⟩
theorem lw_p24 : lw_okq (⟨"StackedLeavesModel", "breaking", "(I)I"⟩, 23) := ⟨⟨by decide +kernel, by decide +kernel⟩, List.mem_of_getElem? (i := 486) (by decide +kernel), List.mem_of_getElem? (i := 647) (by decide +kernel), List.mem_of_getElem? (i := 648) (by decide +kernel)⟩
theorem lw_p25 : lw_okq (⟨"StackedLeavesModel", "beyond", "(II)I"⟩, 23) := ⟨⟨by decide +kernel, by decide +kernel⟩, List.mem_of_getElem? (i := 486) (by decide +kernel), List.mem_of_getElem? (i := 651) (by decide +kernel), List.mem_of_getElem? (i := 652) (by decide +kernel)⟩
theorem lw_p26 : lw_okq (⟨"StackedLeavesModel", "bearsBy", "(II)I"⟩, 23) := ⟨⟨by decide +kernel, by decide +kernel⟩, List.mem_of_getElem? (i := 486) (by decide +kernel), List.mem_of_getElem? (i := 655) (by decide +kernel), List.mem_of_getElem? (i := 656) (by decide +kernel)⟩
theorem lw_p27 : lw_okq (⟨"StackedLeavesModel", "isLeaf", "(I)Z"⟩, 23) := ⟨⟨by decide +kernel, by decide +kernel⟩, List.mem_of_getElem? (i := 486) (by decide +kernel), List.mem_of_getElem? (i := 663) (by decide +kernel), List.mem_of_getElem? (i := 664) (by decide +kernel)⟩
theorem lw_p28 : lw_okq (⟨"StackedLeavesModel", "cutOf", "()I"⟩, 23) := ⟨⟨by decide +kernel, by decide +kernel⟩, List.mem_of_getElem? (i := 486) (by decide +kernel), List.mem_of_getElem? (i := 683) (by decide +kernel), List.mem_of_getElem? (i := 684) (by decide +kernel)⟩
theorem lw_p29 : lw_okq (⟨"StackedLeavesModel", "loadAt", "(I)I"⟩, 23) := ⟨⟨by decide +kernel, by decide +kernel⟩, List.mem_of_getElem? (i := 486) (by decide +kernel), List.mem_of_getElem? (i := 706) (by decide +kernel), List.mem_of_getElem? (i := 707) (by decide +kernel)⟩
theorem lw_p30 : lw_okq (⟨"StackedLeavesModel", "isChoice", "(III)Z"⟩, 23) := ⟨⟨by decide +kernel, by decide +kernel⟩, List.mem_of_getElem? (i := 486) (by decide +kernel), List.mem_of_getElem? (i := 714) (by decide +kernel), List.mem_of_getElem? (i := 715) (by decide +kernel)⟩
theorem lw_p31 : lw_okq (⟨"StackedLeavesModel", "isSo", "(I)Z"⟩, 23) := ⟨⟨by decide +kernel, by decide +kernel⟩, List.mem_of_getElem? (i := 486) (by decide +kernel), List.mem_of_getElem? (i := 732) (by decide +kernel), List.mem_of_getElem? (i := 733) (by decide +kernel)⟩
def lw_privs_2 : List (MethodName × Nat) := [(⟨"StackedLeavesModel", "notes", "()V"⟩, 23), (⟨"StackedLeavesModel", "whole", "()I"⟩, 23), (⟨"StackedLeavesModel", "isWhole", "(I)Z"⟩, 23), (⟨"StackedLeavesModel", "of", "(II)I"⟩, 23), (⟨"StackedLeavesModel", "wholeBehind", "(I)I"⟩, 23), (⟨"StackedLeavesModel", "all", "()I"⟩, 23), (⟨"StackedLeavesModel", "bends", "(III)V"⟩, 23), (⟨"StackedLeavesModel", "reaches", "(I)V"⟩, 23), (⟨"StackedLeavesModel", "breaking", "(I)I"⟩, 23), (⟨"StackedLeavesModel", "beyond", "(II)I"⟩, 23), (⟨"StackedLeavesModel", "bearsBy", "(II)I"⟩, 23), (⟨"StackedLeavesModel", "isLeaf", "(I)Z"⟩, 23), (⟨"StackedLeavesModel", "cutOf", "()I"⟩, 23), (⟨"StackedLeavesModel", "loadAt", "(I)I"⟩, 23), (⟨"StackedLeavesModel", "isChoice", "(III)Z"⟩, 23), (⟨"StackedLeavesModel", "isSo", "(I)Z"⟩, 23)]
theorem lw_r2 : ∀ q ∈ lw_privs_2, lw_okq q := List.forall_mem_cons.mpr ⟨lw_p16, List.forall_mem_cons.mpr ⟨lw_p17, List.forall_mem_cons.mpr ⟨lw_p18, List.forall_mem_cons.mpr ⟨lw_p19, List.forall_mem_cons.mpr ⟨lw_p20, List.forall_mem_cons.mpr ⟨lw_p21, List.forall_mem_cons.mpr ⟨lw_p22, List.forall_mem_cons.mpr ⟨lw_p23, List.forall_mem_cons.mpr ⟨lw_p24, List.forall_mem_cons.mpr ⟨lw_p25, List.forall_mem_cons.mpr ⟨lw_p26, List.forall_mem_cons.mpr ⟨lw_p27, List.forall_mem_cons.mpr ⟨lw_p28, List.forall_mem_cons.mpr ⟨lw_p29, List.forall_mem_cons.mpr ⟨lw_p30, List.forall_mem_cons.mpr ⟨lw_p31, fun _ h => absurd h List.not_mem_nil⟩⟩⟩⟩⟩⟩⟩⟩⟩⟩⟩⟩⟩⟩⟩⟩
theorem lw_p32 : lw_okq (⟨"StackedLeavesModel", "bendWithout", "(II)I"⟩, 23) := ⟨⟨by decide +kernel, by decide +kernel⟩, List.mem_of_getElem? (i := 486) (by decide +kernel), List.mem_of_getElem? (i := 736) (by decide +kernel), List.mem_of_getElem? (i := 737) (by decide +kernel)⟩
theorem lw_p33 : lw_okq (⟨"StackedLeavesModel", "many", "()I"⟩, 23) := ⟨⟨by decide +kernel, by decide +kernel⟩, List.mem_of_getElem? (i := 486) (by decide +kernel), List.mem_of_getElem? (i := 740) (by decide +kernel), List.mem_of_getElem? (i := 741) (by decide +kernel)⟩
theorem lw_p34 : lw_okq (⟨"StackedLeavesModel", "mostAlike", "(I)I"⟩, 23) := ⟨⟨by decide +kernel, by decide +kernel⟩, List.mem_of_getElem? (i := 486) (by decide +kernel), List.mem_of_getElem? (i := 748) (by decide +kernel), List.mem_of_getElem? (i := 749) (by decide +kernel)⟩
def lw_privs_3 : List (MethodName × Nat) := [(⟨"StackedLeavesModel", "bendWithout", "(II)I"⟩, 23), (⟨"StackedLeavesModel", "many", "()I"⟩, 23), (⟨"StackedLeavesModel", "mostAlike", "(I)I"⟩, 23)]
theorem lw_r3 : ∀ q ∈ lw_privs_3, lw_okq q := List.forall_mem_cons.mpr ⟨lw_p32, List.forall_mem_cons.mpr ⟨lw_p33, List.forall_mem_cons.mpr ⟨lw_p34, fun _ h => absurd h List.not_mem_nil⟩⟩⟩
def lw_privs : List (MethodName × Nat) := lw_privs_1 ++ (lw_privs_2 ++ (lw_privs_3))
def lw_tbl : List Cond := k2_sels lw_privs ++ tables_1
theorem lw_privs_ok : ∀ q ∈ lw_privs, lw_okq q := by
  show ∀ q ∈ lw_privs_1 ++ (lw_privs_2 ++ (lw_privs_3)), lw_okq q
  exact List.forall_mem_append.mpr ⟨lw_r1, List.forall_mem_append.mpr ⟨lw_r2, lw_r3⟩⟩
/-! ===== BEGIN words of one list among another's, by their places ===== -/
theorem goodIn_r {big : List Cond} (ws : List Cond) (ps : List Nat) (hp : ws = ps.filterMap (fun i => big[i]?)) (h : ws.all goodWord = true) : GoodIn big ws := by
  intro w hw
  have h1 := List.all_eq_true.mp h w hw
  rw [hp] at hw
  obtain ⟨i, -, hi⟩ := List.mem_filterMap.mp hw
  have hm : w ∈ big := by first | exact List.mem_of_getElem? hi | exact List.getElem?_mem hi
  exact ⟨hm, good_of_word h1⟩
theorem goodIn_app {big a b : List Cond} (ha : GoodIn big a) (hb : GoodIn big b) : GoodIn big (a ++ b) := fun w h => (List.mem_append.mp h).elim (ha w) (hb w)
theorem goodIn_ca {big a b : List Cond} {c : Cond} (ha : GoodIn big (c :: a)) (hb : GoodIn big b) : GoodIn big (c :: (a ++ b)) := fun w h => (List.mem_cons.mp h).elim (fun e => ha w (List.mem_cons.mpr (Or.inl e))) (fun h => (List.mem_append.mp h).elim (fun h => ha w (List.mem_cons.mpr (Or.inr h))) (hb w))
theorem goodIn_sub {big ws : List Cond} (hm : ∀ w ∈ ws, w ∈ big) (h : ws.all goodWord = true) : GoodIn big ws := fun w hw => ⟨hm w hw, good_of_word (List.all_eq_true.mp h w hw)⟩
/-! ===== END ===== -/

/-! ===== BEGIN printed: names, fields, word lists, decode rows ===== -/
def RX0 : String := "StackedLeaves$History"
def TX0 : u_T := fun k => match k with
  | 0 => ("StackedLeaves$History", "ring", "[LStackedLeaves$Leaves;", true)
  | 1 => ("StackedLeaves$History", "next", "I", false)
  | _ => ("StackedLeaves$History", "size", "I", false)
def tyX0 : Nat → FieldType := fun k => match k with
  | 0 => .array (.object "StackedLeaves$Leaves")
  | 1 => .int
  | _ => .int
abbrev wsX00 : List Cond := u_ws RX0 TX0 3
theorem nmX0 : ∀ a, a < 3 → ∀ b, b < 3 → a ≠ b → (TX0 a).2.1 ≠ (TX0 b).2.1 := by decide +kernel
theorem tyX0_ok : ∀ k, k < 3 → parseFieldDescriptor (TX0 k).2.2.1 = some (tyX0 k) := by decide +kernel
abbrev cX0_init : ByteArray := prog_2_method_1_code
def yX0_init : MethodName := ⟨RX0, "<init>", "()V"⟩
abbrev cX0_push : ByteArray := prog_2_method_2_code
def yX0_push : MethodName := ⟨RX0, "push", "(LStackedLeaves$Leaves;)V"⟩
abbrev cX0_popInto : ByteArray := prog_2_method_3_code
def yX0_popInto : MethodName := ⟨RX0, "popInto", "(LStackedLeaves$Leaves;)Z"⟩
abbrev cX0_empty : ByteArray := prog_2_method_4_code
def yX0_empty : MethodName := ⟨RX0, "empty", "()V"⟩
def RX1 : String := "StackedLeaves$Images"
def TX1 : u_T := fun k => match k with
  | 0 => ("StackedLeaves$Images", "images", "[LStackedLeaves$Leaves;", true)
  | _ => ("StackedLeaves$Images", "kept", "I", false)
def tyX1 : Nat → FieldType := fun k => match k with
  | 0 => .array (.object "StackedLeaves$Leaves")
  | _ => .int
abbrev wsX10 : List Cond := u_ws RX1 TX1 2
theorem nmX1 : ∀ a, a < 2 → ∀ b, b < 2 → a ≠ b → (TX1 a).2.1 ≠ (TX1 b).2.1 := by decide +kernel
theorem tyX1_ok : ∀ k, k < 2 → parseFieldDescriptor (TX1 k).2.2.1 = some (tyX1 k) := by decide +kernel
abbrev cX1_init : ByteArray := prog_3_method_1_code
def yX1_init : MethodName := ⟨RX1, "<init>", "()V"⟩
abbrev cX1_put : ByteArray := prog_3_method_2_code
def yX1_put : MethodName := ⟨RX1, "put", "(ILStackedLeaves$Leaves;)V"⟩
abbrev cX1_getInto : ByteArray := prog_3_method_3_code
def yX1_getInto : MethodName := ⟨RX1, "getInto", "(ILStackedLeaves$Leaves;)Z"⟩
abbrev cX1_empty : ByteArray := prog_3_method_4_code
def yX1_empty : MethodName := ⟨RX1, "empty", "()V"⟩
def RX2 : String := "StackedLeaves$Leaves"
def TX2 : u_T := fun k => match k with
  | 0 => ("StackedLeaves$Leaves", "numbers", "[I", true)
  | 1 => ("StackedLeaves$Leaves", "size", "I", false)
  | _ => ("StackedLeaves$Leaves", "whole", "I", false)
def tyX2 : Nat → FieldType := fun k => match k with
  | 0 => .array .int
  | 1 => .int
  | _ => .int
abbrev wsX20 : List Cond := u_ws RX2 TX2 3
theorem nmX2 : ∀ a, a < 3 → ∀ b, b < 3 → a ≠ b → (TX2 a).2.1 ≠ (TX2 b).2.1 := by decide +kernel
theorem tyX2_ok : ∀ k, k < 3 → parseFieldDescriptor (TX2 k).2.2.1 = some (tyX2 k) := by decide +kernel
abbrev cX2_init : ByteArray := prog_4_method_1_code
def yX2_init : MethodName := ⟨RX2, "<init>", "()V"⟩
abbrev cX2_become : ByteArray := prog_4_method_2_code
def yX2_become : MethodName := ⟨RX2, "become", "(LStackedLeaves$Leaves;)V"⟩
abbrev cX2_empty : ByteArray := prog_4_method_3_code
def yX2_empty : MethodName := ⟨RX2, "empty", "()V"⟩
abbrev cX2_appendWhole : ByteArray := prog_4_method_4_code
def yX2_appendWhole : MethodName := ⟨RX2, "appendWhole", "()V"⟩
abbrev cX2_exists : ByteArray := prog_4_method_5_code
def yX2_exists : MethodName := ⟨RX2, "exists", "(I)Z"⟩
abbrev cX2_isWhole : ByteArray := prog_4_method_6_code
def yX2_isWhole : MethodName := ⟨RX2, "isWhole", "(I)Z"⟩
abbrev cX2_number : ByteArray := prog_4_method_7_code
def yX2_number : MethodName := ⟨RX2, "number", "(II)I"⟩
abbrev cX2_put : ByteArray := prog_4_method_8_code
def yX2_put : MethodName := ⟨RX2, "put", "(III)V"⟩
abbrev cX2_mostOfNext : ByteArray := prog_4_method_9_code
def yX2_mostOfNext : MethodName := ⟨RX2, "mostOfNext", "(I)I"⟩
abbrev cX2_nip : ByteArray := prog_4_method_10_code
def yX2_nip : MethodName := ⟨RX2, "nip", "(II)I"⟩
abbrev cX2_sum : ByteArray := prog_4_method_11_code
def yX2_sum : MethodName := ⟨RX2, "sum", "(II)I"⟩
def RX3 : String := "StackedLeaves$Pack"
def TX3 : u_T := fun k => match k with
  | 0 => ("StackedLeaves$Pack", "reach", "[I", true)
  | 1 => ("StackedLeaves$Pack", "stiff", "[I", true)
  | 2 => ("StackedLeaves$Pack", "strength", "[I", true)
  | 3 => ("StackedLeaves$Pack", "size", "I", false)
  | 4 => ("StackedLeaves$Pack", "bearers", "I", false)
  | 5 => ("StackedLeaves$Pack", "upper", "I", false)
  | 6 => ("StackedLeaves$Pack", "lower", "I", false)
  | _ => ("StackedLeaves$Pack", "pressedStiff", "I", false)
def tyX3 : Nat → FieldType := fun k => match k with
  | 0 => .array .int
  | 1 => .array .int
  | 2 => .array .int
  | 3 => .int
  | 4 => .int
  | 5 => .int
  | 6 => .int
  | _ => .int
abbrev wsX30 : List Cond := u_ws RX3 TX3 8
theorem nmX3 : ∀ a, a < 8 → ∀ b, b < 8 → a ≠ b → (TX3 a).2.1 ≠ (TX3 b).2.1 := by decide +kernel
theorem tyX3_ok : ∀ k, k < 8 → parseFieldDescriptor (TX3 k).2.2.1 = some (tyX3 k) := by decide +kernel
abbrev cX3_init : ByteArray := prog_5_method_1_code
def yX3_init : MethodName := ⟨RX3, "<init>", "()V"⟩
abbrev cX3_stack : ByteArray := prog_5_method_2_code
def yX3_stack : MethodName := ⟨RX3, "stack", "(LStackedLeaves$Leaves;II)V"⟩
abbrev cX3_press : ByteArray := prog_5_method_3_code
def yX3_press : MethodName := ⟨RX3, "press", "(I)Z"⟩
abbrev cX3_cut : ByteArray := prog_5_method_4_code
def yX3_cut : MethodName := ⟨RX3, "cut", "()I"⟩
abbrev cX3_cutBy : ByteArray := prog_5_method_5_code
def yX3_cutBy : MethodName := ⟨RX3, "cutBy", "(I)I"⟩
abbrev cX3_borne : ByteArray := prog_5_method_6_code
def yX3_borne : MethodName := ⟨RX3, "borne", "(I)I"⟩
abbrev cX3_excess : ByteArray := prog_5_method_7_code
def yX3_excess : MethodName := ⟨RX3, "excess", "(I)I"⟩
abbrev cX3_firstToBreak : ByteArray := prog_5_method_8_code
def yX3_firstToBreak : MethodName := ⟨RX3, "firstToBreak", "(I)I"⟩
abbrev cX3_wholeAfter : ByteArray := prog_5_method_9_code
def yX3_wholeAfter : MethodName := ⟨RX3, "wholeAfter", "(I)I"⟩
abbrev cX3_leastTooMuch : ByteArray := prog_5_method_10_code
def yX3_leastTooMuch : MethodName := ⟨RX3, "leastTooMuch", "()I"⟩
abbrev cX3_loadAt : ByteArray := prog_5_method_11_code
def yX3_loadAt : MethodName := ⟨RX3, "loadAt", "(I)I"⟩
abbrev cX3_bearsWithin : ByteArray := prog_5_method_12_code
def yX3_bearsWithin : MethodName := ⟨RX3, "bearsWithin", "(II)Z"⟩
def RX4 : String := "StackedLeaves$Sightings"
def TX4 : u_T := fun k => match k with
  | 0 => ("StackedLeaves$Sightings", "loads", "[I", true)
  | 1 => ("StackedLeaves$Sightings", "bends", "[I", true)
  | _ => ("StackedLeaves$Sightings", "size", "I", false)
def tyX4 : Nat → FieldType := fun k => match k with
  | 0 => .array .int
  | 1 => .array .int
  | _ => .int
abbrev wsX40 : List Cond := u_ws RX4 TX4 3
theorem nmX4 : ∀ a, a < 3 → ∀ b, b < 3 → a ≠ b → (TX4 a).2.1 ≠ (TX4 b).2.1 := by decide +kernel
theorem tyX4_ok : ∀ k, k < 3 → parseFieldDescriptor (TX4 k).2.2.1 = some (tyX4 k) := by decide +kernel
abbrev cX4_init : ByteArray := prog_6_method_1_code
def yX4_init : MethodName := ⟨RX4, "<init>", "()V"⟩
abbrev cX4_append : ByteArray := prog_6_method_2_code
def yX4_append : MethodName := ⟨RX4, "append", "(II)Z"⟩
abbrev cX4_empty : ByteArray := prog_6_method_3_code
def yX4_empty : MethodName := ⟨RX4, "empty", "()I"⟩
abbrev cX4_agreeWith : ByteArray := prog_6_method_4_code
def yX4_agreeWith : MethodName := ⟨RX4, "agreeWith", "(LStackedLeaves$Pack;)Z"⟩
def RX5 : String := "StackedLeaves$Text"
def TX5 : u_T := fun k => match k with
  | 0 => ("StackedLeaves$Text", "letters", "[C", true)
  | _ => ("StackedLeaves$Text", "size", "I", false)
def tyX5 : Nat → FieldType := fun k => match k with
  | 0 => .array .char
  | _ => .int
abbrev wsX50 : List Cond := u_ws RX5 TX5 2
theorem nmX5 : ∀ a, a < 2 → ∀ b, b < 2 → a ≠ b → (TX5 a).2.1 ≠ (TX5 b).2.1 := by decide +kernel
theorem tyX5_ok : ∀ k, k < 2 → parseFieldDescriptor (TX5 k).2.2.1 = some (tyX5 k) := by decide +kernel
abbrev cX5_init : ByteArray := prog_7_method_1_code
def yX5_init : MethodName := ⟨RX5, "<init>", "()V"⟩
abbrev cX5_append : ByteArray := prog_7_method_2_code
def yX5_append : MethodName := ⟨RX5, "append", "(I)Z"⟩
abbrev cX5_empty : ByteArray := prog_7_method_3_code
def yX5_empty : MethodName := ⟨RX5, "empty", "()I"⟩
abbrev cX5_readInto : ByteArray := prog_7_method_4_code
def yX5_readInto : MethodName := ⟨RX5, "readInto", "(LStackedLeaves$Leaves;)I"⟩
abbrev cX5_behindBlanks : ByteArray := prog_7_method_5_code
def yX5_behindBlanks : MethodName := ⟨RX5, "behindBlanks", "(I)I"⟩
abbrev cX5_tokenEnd : ByteArray := prog_7_method_6_code
def yX5_tokenEnd : MethodName := ⟨RX5, "tokenEnd", "(I)I"⟩
abbrev cX5_isFigure : ByteArray := prog_7_method_7_code
def yX5_isFigure : MethodName := ⟨RX5, "isFigure", "(I)Z"⟩
abbrev cX5_takesToken : ByteArray := prog_7_method_8_code
def yX5_takesToken : MethodName := ⟨RX5, "takesToken", "(LStackedLeaves$Leaves;III)Z"⟩
abbrev cX5_numberAt : ByteArray := prog_7_method_9_code
def yX5_numberAt : MethodName := ⟨RX5, "numberAt", "(II)I"⟩
def RX6 : String := "StackedLeaves"
def TX6 : u_T := fun k => match k with
  | 0 => ("StackedLeaves", "leaves", "LStackedLeaves$Leaves;", true)
  | 1 => ("StackedLeaves", "draft", "LStackedLeaves$Leaves;", true)
  | 2 => ("StackedLeaves", "text", "LStackedLeaves$Text;", true)
  | 3 => ("StackedLeaves", "history", "LStackedLeaves$History;", true)
  | 4 => ("StackedLeaves", "images", "LStackedLeaves$Images;", true)
  | 5 => ("StackedLeaves", "sightings", "LStackedLeaves$Sightings;", true)
  | 6 => ("StackedLeaves", "pack", "LStackedLeaves$Pack;", true)
  | _ => ("StackedLeaves", "cuts", "[I", true)
def tyX6 : Nat → FieldType := fun k => match k with
  | 0 => .object "StackedLeaves$Leaves"
  | 1 => .object "StackedLeaves$Leaves"
  | 2 => .object "StackedLeaves$Text"
  | 3 => .object "StackedLeaves$History"
  | 4 => .object "StackedLeaves$Images"
  | 5 => .object "StackedLeaves$Sightings"
  | 6 => .object "StackedLeaves$Pack"
  | _ => .array .int
abbrev wsX60 : List Cond := u_ws RX6 TX6 8
theorem nmX6 : ∀ a, a < 8 → ∀ b, b < 8 → a ≠ b → (TX6 a).2.1 ≠ (TX6 b).2.1 := by decide +kernel
theorem tyX6_ok : ∀ k, k < 8 → parseFieldDescriptor (TX6 k).2.2.1 = some (tyX6 k) := by decide +kernel
abbrev cX6_init : ByteArray := prog_1_method_1_code
def yX6_init : MethodName := ⟨RX6, "<init>", "()V"⟩
abbrev cX6_type : ByteArray := prog_1_method_2_code
def yX6_type : MethodName := ⟨RX6, "type", "(I)I"⟩
abbrev cX6_clear : ByteArray := prog_1_method_3_code
def yX6_clear : MethodName := ⟨RX6, "clear", "()I"⟩
abbrev cX6_tells : ByteArray := prog_1_method_4_code
def yX6_tells : MethodName := ⟨RX6, "tells", "()I"⟩
abbrev cX6_loads : ByteArray := prog_1_method_5_code
def yX6_loads : MethodName := ⟨RX6, "loads", "(I)I"⟩
abbrev cX6_breaks : ByteArray := prog_1_method_6_code
def yX6_breaks : MethodName := ⟨RX6, "breaks", "(I)I"⟩
abbrev cX6_mends : ByteArray := prog_1_method_7_code
def yX6_mends : MethodName := ⟨RX6, "mends", "(I)I"⟩
abbrev cX6_cambers : ByteArray := prog_1_method_8_code
def yX6_cambers : MethodName := ⟨RX6, "cambers", "(II)I"⟩
abbrev cX6_undo : ByteArray := prog_1_method_9_code
def yX6_undo : MethodName := ⟨RX6, "undo", "()I"⟩
abbrev cX6_leaf : ByteArray := prog_1_method_10_code
def yX6_leaf : MethodName := ⟨RX6, "leaf", "(II)I"⟩
abbrev cX6_bend : ByteArray := prog_1_method_11_code
def yX6_bend : MethodName := ⟨RX6, "bend", "(II)I"⟩
abbrev cX6_bears : ByteArray := prog_1_method_12_code
def yX6_bears : MethodName := ⟨RX6, "bears", "(III)I"⟩
abbrev cX6_rate : ByteArray := prog_1_method_13_code
def yX6_rate : MethodName := ⟨RX6, "rate", "(I)I"⟩
abbrev cX6_least : ByteArray := prog_1_method_14_code
def yX6_least : MethodName := ⟨RX6, "least", "(I)I"⟩
abbrev cX6_knee : ByteArray := prog_1_method_15_code
def yX6_knee : MethodName := ⟨RX6, "knee", "(I)I"⟩
abbrev cX6_chosen : ByteArray := prog_1_method_16_code
def yX6_chosen : MethodName := ⟨RX6, "chosen", "(III)I"⟩
abbrev cX6_sees : ByteArray := prog_1_method_17_code
def yX6_sees : MethodName := ⟨RX6, "sees", "(II)I"⟩
abbrev cX6_forget : ByteArray := prog_1_method_18_code
def yX6_forget : MethodName := ⟨RX6, "forget", "()I"⟩
abbrev cX6_which : ByteArray := prog_1_method_19_code
def yX6_which : MethodName := ⟨RX6, "which", "(I)I"⟩
abbrev cX6_ask : ByteArray := prog_1_method_20_code
def yX6_ask : MethodName := ⟨RX6, "ask", "()I"⟩
abbrev cX6_keep : ByteArray := prog_1_method_21_code
def yX6_keep : MethodName := ⟨RX6, "keep", "(I)I"⟩
abbrev cX6_back : ByteArray := prog_1_method_22_code
def yX6_back : MethodName := ⟨RX6, "back", "(I)I"⟩
abbrev cX6_count : ByteArray := prog_1_method_23_code
def yX6_count : MethodName := ⟨RX6, "count", "(I)I"⟩
abbrev cX6_isLoad : ByteArray := prog_1_method_24_code
def yX6_isLoad : MethodName := ⟨RX6, "isLoad", "(I)Z"⟩
abbrev cX6_holds : ByteArray := prog_1_method_25_code
def yX6_holds : MethodName := ⟨RX6, "holds", "(II)Z"⟩
abbrev cX6_stackAll : ByteArray := prog_1_method_26_code
def yX6_stackAll : MethodName := ⟨RX6, "stackAll", "(I)V"⟩
abbrev cX6_partInLowestTerms : ByteArray := prog_1_method_27_code
def yX6_partInLowestTerms : MethodName := ⟨RX6, "partInLowestTerms", "(III)I"⟩
abbrev cX6_greatestDivisor : ByteArray := prog_1_method_28_code
def yX6_greatestDivisor : MethodName := ⟨RX6, "greatestDivisor", "(II)I"⟩
abbrev cX6_fewestThatHold : ByteArray := prog_1_method_29_code
def yX6_fewestThatHold : MethodName := ⟨RX6, "fewestThatHold", "(II)I"⟩
abbrev cX6_suspects : ByteArray := prog_1_method_30_code
def yX6_suspects : MethodName := ⟨RX6, "suspects", "()I"⟩
abbrev cX6_stackSuspect : ByteArray := prog_1_method_31_code
def yX6_stackSuspect : MethodName := ⟨RX6, "stackSuspect", "(I)V"⟩
abbrev cX6_mostAlike : ByteArray := prog_1_method_32_code
def yX6_mostAlike : MethodName := ⟨RX6, "mostAlike", "(II)I"⟩
abbrev cX6_alikeUpTo : ByteArray := prog_1_method_33_code
def yX6_alikeUpTo : MethodName := ⟨RX6, "alikeUpTo", "(II)I"⟩
def RX7 : String := "StackedLeavesModel"
def TX7 : u_T := fun k => match k with
  | 0 => ("StackedLeavesModel", "now", "[I", true)
  | 1 => ("StackedLeavesModel", "draft", "[I", true)
  | 2 => ("StackedLeavesModel", "past", "[I", true)
  | 3 => ("StackedLeavesModel", "pasts", "I", false)
  | 4 => ("StackedLeavesModel", "images", "[I", true)
  | 5 => ("StackedLeavesModel", "kept", "[Z", true)
  | 6 => ("StackedLeavesModel", "factLoad", "[I", true)
  | 7 => ("StackedLeavesModel", "factBend", "[I", true)
  | 8 => ("StackedLeavesModel", "facts", "I", false)
  | 9 => ("StackedLeavesModel", "text", "[I", true)
  | 10 => ("StackedLeavesModel", "typed", "I", false)
  | 11 => ("StackedLeavesModel", "at", "I", false)
  | 12 => ("StackedLeavesModel", "start", "I", false)
  | 13 => ("StackedLeavesModel", "sort", "I", false)
  | 14 => ("StackedLeavesModel", "value", "I", false)
  | 15 => ("StackedLeavesModel", "nip", "[I", true)
  | 16 => ("StackedLeavesModel", "reach", "[I", true)
  | 17 => ("StackedLeavesModel", "above", "I", false)
  | 18 => ("StackedLeavesModel", "below", "I", false)
  | 19 => ("StackedLeavesModel", "isBent", "Z", false)
  | 20 => ("StackedLeavesModel", "rates", "I", false)
  | 21 => ("StackedLeavesModel", "may", "[Z", true)
  | _ => ("StackedLeavesModel", "bend", "[I", true)
def tyX7 : Nat → FieldType := fun k => match k with
  | 0 => .array .int
  | 1 => .array .int
  | 2 => .array .int
  | 3 => .int
  | 4 => .array .int
  | 5 => .array .boolean
  | 6 => .array .int
  | 7 => .array .int
  | 8 => .int
  | 9 => .array .int
  | 10 => .int
  | 11 => .int
  | 12 => .int
  | 13 => .int
  | 14 => .int
  | 15 => .array .int
  | 16 => .array .int
  | 17 => .int
  | 18 => .int
  | 19 => .boolean
  | 20 => .int
  | 21 => .array .boolean
  | _ => .array .int
abbrev wsX70 : List Cond := u_ws RX7 TX7 23
theorem nmX7 : ∀ a, a < 23 → ∀ b, b < 23 → a ≠ b → (TX7 a).2.1 ≠ (TX7 b).2.1 := by decide +kernel
theorem tyX7_ok : ∀ k, k < 23 → parseFieldDescriptor (TX7 k).2.2.1 = some (tyX7 k) := by decide +kernel
abbrev cX7_init : ByteArray := prog_9_method_1_code
def yX7_init : MethodName := ⟨RX7, "<init>", "()V"⟩
abbrev cX7_in : ByteArray := prog_9_method_2_code
def yX7_in : MethodName := ⟨RX7, "in", "(III)Z"⟩
abbrev cX7_has : ByteArray := prog_9_method_3_code
def yX7_has : MethodName := ⟨RX7, "has", "(II)Z"⟩
abbrev cX7_isLeaf : ByteArray := prog_9_method_4_code
def yX7_isLeaf : MethodName := ⟨RX7, "isLeaf", "(I)Z"⟩
abbrev cX7_of : ByteArray := prog_9_method_5_code
def yX7_of : MethodName := ⟨RX7, "of", "(II)I"⟩
abbrev cX7_isWhole : ByteArray := prog_9_method_6_code
def yX7_isWhole : MethodName := ⟨RX7, "isWhole", "(I)Z"⟩
abbrev cX7_all : ByteArray := prog_9_method_7_code
def yX7_all : MethodName := ⟨RX7, "all", "()I"⟩
abbrev cX7_whole : ByteArray := prog_9_method_8_code
def yX7_whole : MethodName := ⟨RX7, "whole", "()I"⟩
abbrev cX7_ones : ByteArray := prog_9_method_9_code
def yX7_ones : MethodName := ⟨RX7, "ones", "(I)I"⟩
abbrev cX7_type : ByteArray := prog_9_method_10_code
def yX7_type : MethodName := ⟨RX7, "type", "(I)I"⟩
abbrev cX7_clear : ByteArray := prog_9_method_11_code
def yX7_clear : MethodName := ⟨RX7, "clear", "()I"⟩
abbrev cX7_letterAt : ByteArray := prog_9_method_12_code
def yX7_letterAt : MethodName := ⟨RX7, "letterAt", "(I)I"⟩
abbrev cX7_isFigure : ByteArray := prog_9_method_13_code
def yX7_isFigure : MethodName := ⟨RX7, "isFigure", "(I)Z"⟩
abbrev cX7_token : ByteArray := prog_9_method_14_code
def yX7_token : MethodName := ⟨RX7, "token", "()V"⟩
abbrev cX7_number : ByteArray := prog_9_method_15_code
def yX7_number : MethodName := ⟨RX7, "number", "(III)Z"⟩
abbrev cX7_readsLeaf : ByteArray := prog_9_method_16_code
def yX7_readsLeaf : MethodName := ⟨RX7, "readsLeaf", "()Z"⟩
abbrev cX7_reads : ByteArray := prog_9_method_17_code
def yX7_reads : MethodName := ⟨RX7, "reads", "()Z"⟩
abbrev cX7_tells : ByteArray := prog_9_method_18_code
def yX7_tells : MethodName := ⟨RX7, "tells", "()I"⟩
abbrev cX7_notes : ByteArray := prog_9_method_19_code
def yX7_notes : MethodName := ⟨RX7, "notes", "()V"⟩
abbrev cX7_undo : ByteArray := prog_9_method_20_code
def yX7_undo : MethodName := ⟨RX7, "undo", "()I"⟩
abbrev cX7_reaches : ByteArray := prog_9_method_21_code
def yX7_reaches : MethodName := ⟨RX7, "reaches", "(I)V"⟩
abbrev cX7_bends : ByteArray := prog_9_method_22_code
def yX7_bends : MethodName := ⟨RX7, "bends", "(III)V"⟩
abbrev cX7_bearsBy : ByteArray := prog_9_method_23_code
def yX7_bearsBy : MethodName := ⟨RX7, "bearsBy", "(II)I"⟩
abbrev cX7_beyond : ByteArray := prog_9_method_24_code
def yX7_beyond : MethodName := ⟨RX7, "beyond", "(II)I"⟩
abbrev cX7_breaking : ByteArray := prog_9_method_25_code
def yX7_breaking : MethodName := ⟨RX7, "breaking", "(I)I"⟩
abbrev cX7_wholeBehind : ByteArray := prog_9_method_26_code
def yX7_wholeBehind : MethodName := ⟨RX7, "wholeBehind", "(I)I"⟩
abbrev cX7_loads : ByteArray := prog_9_method_27_code
def yX7_loads : MethodName := ⟨RX7, "loads", "(I)I"⟩
abbrev cX7_breaks : ByteArray := prog_9_method_28_code
def yX7_breaks : MethodName := ⟨RX7, "breaks", "(I)I"⟩
abbrev cX7_mends : ByteArray := prog_9_method_29_code
def yX7_mends : MethodName := ⟨RX7, "mends", "(I)I"⟩
abbrev cX7_cambers : ByteArray := prog_9_method_30_code
def yX7_cambers : MethodName := ⟨RX7, "cambers", "(II)I"⟩
abbrev cX7_leaf : ByteArray := prog_9_method_31_code
def yX7_leaf : MethodName := ⟨RX7, "leaf", "(II)I"⟩
abbrev cX7_common : ByteArray := prog_9_method_32_code
def yX7_common : MethodName := ⟨RX7, "common", "(II)I"⟩
abbrev cX7_cutOf : ByteArray := prog_9_method_33_code
def yX7_cutOf : MethodName := ⟨RX7, "cutOf", "()I"⟩
abbrev cX7_bend : ByteArray := prog_9_method_34_code
def yX7_bend : MethodName := ⟨RX7, "bend", "(II)I"⟩
abbrev cX7_bears : ByteArray := prog_9_method_35_code
def yX7_bears : MethodName := ⟨RX7, "bears", "(III)I"⟩
abbrev cX7_rate : ByteArray := prog_9_method_36_code
def yX7_rate : MethodName := ⟨RX7, "rate", "(I)I"⟩
abbrev cX7_least : ByteArray := prog_9_method_37_code
def yX7_least : MethodName := ⟨RX7, "least", "(I)I"⟩
abbrev cX7_loadAt : ByteArray := prog_9_method_38_code
def yX7_loadAt : MethodName := ⟨RX7, "loadAt", "(I)I"⟩
abbrev cX7_knee : ByteArray := prog_9_method_39_code
def yX7_knee : MethodName := ⟨RX7, "knee", "(I)I"⟩
abbrev cX7_isChoice : ByteArray := prog_9_method_40_code
def yX7_isChoice : MethodName := ⟨RX7, "isChoice", "(III)Z"⟩
abbrev cX7_chosen : ByteArray := prog_9_method_41_code
def yX7_chosen : MethodName := ⟨RX7, "chosen", "(III)I"⟩
abbrev cX7_sees : ByteArray := prog_9_method_42_code
def yX7_sees : MethodName := ⟨RX7, "sees", "(II)I"⟩
abbrev cX7_forget : ByteArray := prog_9_method_43_code
def yX7_forget : MethodName := ⟨RX7, "forget", "()I"⟩
abbrev cX7_bendWithout : ByteArray := prog_9_method_44_code
def yX7_bendWithout : MethodName := ⟨RX7, "bendWithout", "(II)I"⟩
abbrev cX7_isSo : ByteArray := prog_9_method_45_code
def yX7_isSo : MethodName := ⟨RX7, "isSo", "(I)Z"⟩
abbrev cX7_many : ByteArray := prog_9_method_46_code
def yX7_many : MethodName := ⟨RX7, "many", "()I"⟩
abbrev cX7_which : ByteArray := prog_9_method_47_code
def yX7_which : MethodName := ⟨RX7, "which", "(I)I"⟩
abbrev cX7_mostAlike : ByteArray := prog_9_method_48_code
def yX7_mostAlike : MethodName := ⟨RX7, "mostAlike", "(I)I"⟩
abbrev cX7_ask : ByteArray := prog_9_method_49_code
def yX7_ask : MethodName := ⟨RX7, "ask", "()I"⟩
abbrev cX7_keep : ByteArray := prog_9_method_50_code
def yX7_keep : MethodName := ⟨RX7, "keep", "(I)I"⟩
abbrev cX7_back : ByteArray := prog_9_method_51_code
def yX7_back : MethodName := ⟨RX7, "back", "(I)I"⟩
abbrev cX7_count : ByteArray := prog_9_method_52_code
def yX7_count : MethodName := ⟨RX7, "count", "(I)I"⟩
def RJ6 : String := "java/lang/Integer"
def TJ6 : u_T := fun k => match k with
  | _ => ("", "", "", false)
def tyJ6 : Nat → FieldType := fun k => match k with
  | _ => .int
abbrev wsJ60 : List Cond := u_ws RJ6 TJ6 0
theorem nmJ6 : ∀ a, a < 0 → ∀ b, b < 0 → a ≠ b → (TJ6 a).2.1 ≠ (TJ6 b).2.1 := by decide +kernel
theorem tyJ6_ok : ∀ k, k < 0 → parseFieldDescriptor (TJ6 k).2.2.1 = some (tyJ6 k) := by decide +kernel
abbrev cJ6_bitCount_0f7a4 : ByteArray := prog_10_method_49_code
def yJ6_bitCount_0f7a4 : MethodName := ⟨RJ6, "bitCount", "(I)I"⟩
def RJ9 : String := "java/lang/Math"
def TJ9 : u_T := fun k => match k with
  | _ => ("", "", "", false)
def tyJ9 : Nat → FieldType := fun k => match k with
  | _ => .int
abbrev wsJ90 : List Cond := u_ws RJ9 TJ9 0
theorem nmJ9 : ∀ a, a < 0 → ∀ b, b < 0 → a ≠ b → (TJ9 a).2.1 ≠ (TJ9 b).2.1 := by decide +kernel
theorem tyJ9_ok : ∀ k, k < 0 → parseFieldDescriptor (TJ9 k).2.2.1 = some (tyJ9 k) := by decide +kernel
abbrev cJ9_max_7cf53 : ByteArray := prog_11_method_65_code
def yJ9_max_7cf53 : MethodName := ⟨RJ9, "max", "(II)I"⟩
abbrev cJ9_min_7cf53 : ByteArray := prog_11_method_69_code
def yJ9_min_7cf53 : MethodName := ⟨RJ9, "min", "(II)I"⟩
def RJ10 : String := "java/lang/System"
def TJ10 : u_T := fun k => match k with
  | _ => ("", "", "", false)
def tyJ10 : Nat → FieldType := fun k => match k with
  | _ => .int
abbrev wsJ100 : List Cond := u_ws RJ10 TJ10 0
theorem nmJ10 : ∀ a, a < 0 → ∀ b, b < 0 → a ≠ b → (TJ10 a).2.1 ≠ (TJ10 b).2.1 := by decide +kernel
theorem tyJ10_ok : ∀ k, k < 0 → parseFieldDescriptor (TJ10 k).2.2.1 = some (tyJ10 k) := by decide +kernel
def RL : String := "StackedLeavesLaw"
abbrev cL_law : ByteArray := code
def yL_law : MethodName := ⟨RL, "law", "([I)Z"⟩
def wsX2_init : List Cond := .code yX2_init cX2_init 1 none :: ([.methodLink RX2 3 objectInit, .instanceMethod objectInit, .code objectInit ⟨#[0xb1]⟩ 1 none, .arrayClass .int, .fieldLink RX2 9 "StackedLeaves$Leaves" "numbers" "[I", .fieldLink RX2 15 "StackedLeaves$Leaves" "size" "I", .fieldLink RX2 19 "StackedLeaves$Leaves" "whole" "I"] ++ wsX20)
def wsX0_init : List Cond := .code yX0_init cX0_init 2 none :: ([.methodLink RX0 3 objectInit, .instanceMethod objectInit, .code objectInit ⟨#[0xb1]⟩ 1 none, .classLink RX0 9 RX2, .fieldLink RX0 11 "StackedLeaves$History" "ring" "[LStackedLeaves$Leaves;", .instantiable RX2 3, .initialized RX2, .methodLink RX0 17 yX2_init, .instanceMethod yX2_init, .code yX2_init cX2_init 1 none, .methodLink RX2 3 objectInit, .arrayClass .int, .fieldLink RX2 9 "StackedLeaves$Leaves" "numbers" "[I", .fieldLink RX2 15 "StackedLeaves$Leaves" "size" "I", .fieldLink RX2 19 "StackedLeaves$Leaves" "whole" "I"] ++ wsX00 ++ wsX20)
def wsX2_become : List Cond := .code yX2_become cX2_become 2 none :: ([.fieldLink RX2 9 "StackedLeaves$Leaves" "numbers" "[I", .methodLink RX2 22 arraycopyName, .native arraycopyName, .static arraycopyName, .initialized "java/lang/System", .fieldLink RX2 15 "StackedLeaves$Leaves" "size" "I", .fieldLink RX2 19 "StackedLeaves$Leaves" "whole" "I"] ++ wsX20)
def wsX0_push : List Cond := .code yX0_push cX0_push 2 none :: ([.fieldLink RX0 11 "StackedLeaves$History" "ring" "[LStackedLeaves$Leaves;", .fieldLink RX0 18 "StackedLeaves$History" "next" "I", .fieldLink RX0 26 "StackedLeaves$History" "size" "I", .methodLink RX0 29 Lib.Math.min.name, .static Lib.Math.min.name, .initialized "java/lang/Math", .code Lib.Math.min.name Lib.Math.min.code 2 (some .int), .methodLink RX0 22 yX2_become, .instanceMethod yX2_become, .selects RX2 yX2_become yX2_become, .initialized RX2, .code yX2_become cX2_become 2 none, .fieldLink RX2 9 "StackedLeaves$Leaves" "numbers" "[I", .methodLink RX2 22 arraycopyName, .native arraycopyName, .static arraycopyName, .initialized "java/lang/System", .fieldLink RX2 15 "StackedLeaves$Leaves" "size" "I", .fieldLink RX2 19 "StackedLeaves$Leaves" "whole" "I"] ++ wsX00 ++ wsX20)
def wsX0_popInto : List Cond := .code yX0_popInto cX0_popInto 2 (some .boolean) :: ([.fieldLink RX0 26 "StackedLeaves$History" "size" "I", .fieldLink RX0 18 "StackedLeaves$History" "next" "I", .fieldLink RX0 11 "StackedLeaves$History" "ring" "[LStackedLeaves$Leaves;", .methodLink RX0 22 yX2_become, .instanceMethod yX2_become, .selects RX2 yX2_become yX2_become, .initialized RX2, .code yX2_become cX2_become 2 none, .fieldLink RX2 9 "StackedLeaves$Leaves" "numbers" "[I", .methodLink RX2 22 arraycopyName, .native arraycopyName, .static arraycopyName, .initialized "java/lang/System", .fieldLink RX2 15 "StackedLeaves$Leaves" "size" "I", .fieldLink RX2 19 "StackedLeaves$Leaves" "whole" "I"] ++ wsX00 ++ wsX20)
def wsX0_empty : List Cond := .code yX0_empty cX0_empty 1 none :: ([.fieldLink RX0 26 "StackedLeaves$History" "size" "I"] ++ wsX00)
def wsX1_init : List Cond := .code yX1_init cX1_init 2 none :: ([.methodLink RX1 3 objectInit, .instanceMethod objectInit, .code objectInit ⟨#[0xb1]⟩ 1 none, .classLink RX1 9 RX2, .fieldLink RX1 11 "StackedLeaves$Images" "images" "[LStackedLeaves$Leaves;", .instantiable RX2 3, .initialized RX2, .methodLink RX1 17 yX2_init, .instanceMethod yX2_init, .code yX2_init cX2_init 1 none, .methodLink RX2 3 objectInit, .arrayClass .int, .fieldLink RX2 9 "StackedLeaves$Leaves" "numbers" "[I", .fieldLink RX2 15 "StackedLeaves$Leaves" "size" "I", .fieldLink RX2 19 "StackedLeaves$Leaves" "whole" "I"] ++ wsX10 ++ wsX20)
def wsX1_put : List Cond := .code yX1_put cX1_put 3 none :: ([.fieldLink RX1 11 "StackedLeaves$Images" "images" "[LStackedLeaves$Leaves;", .fieldLink RX1 22 "StackedLeaves$Images" "kept" "I", .methodLink RX1 18 yX2_become, .instanceMethod yX2_become, .selects RX2 yX2_become yX2_become, .initialized RX2, .code yX2_become cX2_become 2 none, .fieldLink RX2 9 "StackedLeaves$Leaves" "numbers" "[I", .methodLink RX2 22 arraycopyName, .native arraycopyName, .static arraycopyName, .initialized "java/lang/System", .fieldLink RX2 15 "StackedLeaves$Leaves" "size" "I", .fieldLink RX2 19 "StackedLeaves$Leaves" "whole" "I"] ++ wsX10 ++ wsX20)
def wsX6_holds : List Cond := .code yX6_holds cX6_holds 2 (some .boolean) :: ([])
def wsX1_getInto : List Cond := .code yX1_getInto cX1_getInto 3 (some .boolean) :: ([.fieldLink RX1 22 "StackedLeaves$Images" "kept" "I", .fieldLink RX1 11 "StackedLeaves$Images" "images" "[LStackedLeaves$Leaves;", .static yX6_holds, .initialized RX6, .code yX6_holds cX6_holds 2 (some .boolean), .methodLink RX1 18 yX2_become, .instanceMethod yX2_become, .selects RX2 yX2_become yX2_become, .initialized RX2, .code yX2_become cX2_become 2 none, .fieldLink RX2 9 "StackedLeaves$Leaves" "numbers" "[I", .methodLink RX2 22 arraycopyName, .native arraycopyName, .static arraycopyName, .initialized "java/lang/System", .fieldLink RX2 15 "StackedLeaves$Leaves" "size" "I", .fieldLink RX2 19 "StackedLeaves$Leaves" "whole" "I"] ++ wsX10 ++ wsX20)
def wsX1_empty : List Cond := .code yX1_empty cX1_empty 1 none :: ([.fieldLink RX1 22 "StackedLeaves$Images" "kept" "I"] ++ wsX10)
def wsX2_empty : List Cond := .code yX2_empty cX2_empty 1 none :: ([.fieldLink RX2 15 "StackedLeaves$Leaves" "size" "I", .fieldLink RX2 19 "StackedLeaves$Leaves" "whole" "I"] ++ wsX20)
def wsX2_appendWhole : List Cond := .code yX2_appendWhole cX2_appendWhole 1 none :: ([.fieldLink RX2 15 "StackedLeaves$Leaves" "size" "I", .fieldLink RX2 19 "StackedLeaves$Leaves" "whole" "I"] ++ wsX20)
def wsX2_exists : List Cond := .code yX2_exists cX2_exists 2 (some .boolean) :: ([.fieldLink RX2 15 "StackedLeaves$Leaves" "size" "I"] ++ wsX20)
def wsX2_isWhole : List Cond := .code yX2_isWhole cX2_isWhole 2 (some .boolean) :: ([.fieldLink RX2 19 "StackedLeaves$Leaves" "whole" "I", .static yX6_holds, .initialized RX6, .code yX6_holds cX6_holds 2 (some .boolean)] ++ wsX20)
def wsX2_number : List Cond := .code yX2_number cX2_number 3 (some .int) :: ([.fieldLink RX2 9 "StackedLeaves$Leaves" "numbers" "[I"] ++ wsX20)
def wsX2_put : List Cond := .code yX2_put cX2_put 4 none :: ([.fieldLink RX2 9 "StackedLeaves$Leaves" "numbers" "[I"] ++ wsX20)
def wsX2_mostOfNext : List Cond := .code yX2_mostOfNext cX2_mostOfNext 2 (some .int) :: ([.fieldLink RX2 15 "StackedLeaves$Leaves" "size" "I", .methodLink RX2 32 yX2_number, .instanceMethod yX2_number, .selects RX2 yX2_number yX2_number, .initialized RX2, .code yX2_number cX2_number 3 (some .int), .fieldLink RX2 9 "StackedLeaves$Leaves" "numbers" "[I"] ++ wsX20)
def wsX2_nip : List Cond := .code yX2_nip cX2_nip 3 (some .int) :: ([.methodLink RX2 39 Lib.Math.max.name, .static Lib.Math.max.name, .initialized "java/lang/Math", .code Lib.Math.max.name Lib.Math.max.code 2 (some .int), .methodLink RX2 32 yX2_number, .instanceMethod yX2_number, .selects RX2 yX2_number yX2_number, .initialized RX2, .code yX2_number cX2_number 3 (some .int), .fieldLink RX2 9 "StackedLeaves$Leaves" "numbers" "[I"] ++ wsX20)
def wsX2_sum : List Cond := .code yX2_sum cX2_sum 5 (some .int) :: ([.fieldLink RX2 15 "StackedLeaves$Leaves" "size" "I", .static yX6_holds, .initialized RX6, .code yX6_holds cX6_holds 2 (some .boolean), .methodLink RX2 32 yX2_number, .instanceMethod yX2_number, .selects RX2 yX2_number yX2_number, .initialized RX2, .code yX2_number cX2_number 3 (some .int), .fieldLink RX2 9 "StackedLeaves$Leaves" "numbers" "[I"] ++ wsX20)
def wsX3_init : List Cond := .code yX3_init cX3_init 1 none :: ([.methodLink RX3 3 objectInit, .instanceMethod objectInit, .code objectInit ⟨#[0xb1]⟩ 1 none, .arrayClass .int, .fieldLink RX3 9 "StackedLeaves$Pack" "reach" "[I", .fieldLink RX3 15 "StackedLeaves$Pack" "stiff" "[I", .fieldLink RX3 18 "StackedLeaves$Pack" "strength" "[I"] ++ wsX30)
def wsX3_stack : List Cond := .code yX3_stack cX3_stack 7 none :: ([.fieldLink RX3 27 "StackedLeaves$Pack" "size" "I", .fieldLink RX3 28 "StackedLeaves$Pack" "bearers" "I", .fieldLink RX3 9 "StackedLeaves$Pack" "reach" "[I", .fieldLink RX3 15 "StackedLeaves$Pack" "stiff" "[I", .fieldLink RX3 18 "StackedLeaves$Pack" "strength" "[I", .static yX6_holds, .initialized RX6, .code yX6_holds cX6_holds 2 (some .boolean), .methodLink RX3 35 yX2_nip, .instanceMethod yX2_nip, .selects RX2 yX2_nip yX2_nip, .initialized RX2, .code yX2_nip cX2_nip 3 (some .int), .methodLink RX2 39 Lib.Math.max.name, .static Lib.Math.max.name, .initialized "java/lang/Math", .code Lib.Math.max.name Lib.Math.max.code 2 (some .int), .methodLink RX2 32 yX2_number, .instanceMethod yX2_number, .selects RX2 yX2_number yX2_number, .code yX2_number cX2_number 3 (some .int), .fieldLink RX2 9 "StackedLeaves$Leaves" "numbers" "[I", .methodLink RX3 39 yX2_number] ++ wsX20 ++ wsX30)
def wsX3_press : List Cond := .code yX3_press cX3_press 5 (some .boolean) :: ([.fieldLink RX3 27 "StackedLeaves$Pack" "size" "I", .fieldLink RX3 28 "StackedLeaves$Pack" "bearers" "I", .fieldLink RX3 9 "StackedLeaves$Pack" "reach" "[I", .fieldLink RX3 15 "StackedLeaves$Pack" "stiff" "[I", .fieldLink RX3 42 "StackedLeaves$Pack" "upper" "I", .fieldLink RX3 45 "StackedLeaves$Pack" "lower" "I", .fieldLink RX3 48 "StackedLeaves$Pack" "pressedStiff" "I", .static yX6_holds, .initialized RX6, .code yX6_holds cX6_holds 2 (some .boolean)] ++ wsX30)
def wsX3_cut : List Cond := .code yX3_cut cX3_cut 1 (some .int) :: ([.fieldLink RX3 45 "StackedLeaves$Pack" "lower" "I", .fieldLink RX3 42 "StackedLeaves$Pack" "upper" "I"] ++ wsX30)
def wsX3_cutBy : List Cond := .code yX3_cutBy cX3_cutBy 2 (some .int) :: ([.methodLink RX3 51 yX3_press, .instanceMethod yX3_press, .selects RX3 yX3_press yX3_press, .initialized RX3, .code yX3_press cX3_press 5 (some .boolean), .fieldLink RX3 27 "StackedLeaves$Pack" "size" "I", .fieldLink RX3 28 "StackedLeaves$Pack" "bearers" "I", .fieldLink RX3 9 "StackedLeaves$Pack" "reach" "[I", .fieldLink RX3 15 "StackedLeaves$Pack" "stiff" "[I", .fieldLink RX3 42 "StackedLeaves$Pack" "upper" "I", .fieldLink RX3 45 "StackedLeaves$Pack" "lower" "I", .fieldLink RX3 48 "StackedLeaves$Pack" "pressedStiff" "I", .static yX6_holds, .initialized RX6, .code yX6_holds cX6_holds 2 (some .boolean), .methodLink RX3 55 yX3_cut, .instanceMethod yX3_cut, .selects RX3 yX3_cut yX3_cut, .code yX3_cut cX3_cut 1 (some .int)] ++ wsX30)
def wsX3_borne : List Cond := .code yX3_borne cX3_borne 2 (some .int) :: ([.fieldLink RX3 28 "StackedLeaves$Pack" "bearers" "I", .fieldLink RX3 15 "StackedLeaves$Pack" "stiff" "[I", .fieldLink RX3 42 "StackedLeaves$Pack" "upper" "I", .fieldLink RX3 9 "StackedLeaves$Pack" "reach" "[I", .fieldLink RX3 45 "StackedLeaves$Pack" "lower" "I", .methodLink RX3 59 Lib.Math.max.name, .static Lib.Math.max.name, .initialized "java/lang/Math", .code Lib.Math.max.name Lib.Math.max.code 2 (some .int), .static yX6_holds, .initialized RX6, .code yX6_holds cX6_holds 2 (some .boolean)] ++ wsX30)
def wsX3_excess : List Cond := .code yX3_excess cX3_excess 2 (some .int) :: ([.fieldLink RX3 18 "StackedLeaves$Pack" "strength" "[I", .fieldLink RX3 45 "StackedLeaves$Pack" "lower" "I", .methodLink RX3 64 yX3_borne, .instanceMethod yX3_borne, .selects RX3 yX3_borne yX3_borne, .initialized RX3, .code yX3_borne cX3_borne 2 (some .int), .fieldLink RX3 28 "StackedLeaves$Pack" "bearers" "I", .fieldLink RX3 15 "StackedLeaves$Pack" "stiff" "[I", .fieldLink RX3 42 "StackedLeaves$Pack" "upper" "I", .fieldLink RX3 9 "StackedLeaves$Pack" "reach" "[I", .methodLink RX3 59 Lib.Math.max.name, .static Lib.Math.max.name, .initialized "java/lang/Math", .code Lib.Math.max.name Lib.Math.max.code 2 (some .int), .static yX6_holds, .initialized RX6, .code yX6_holds cX6_holds 2 (some .boolean)] ++ wsX30)
def wsX3_firstToBreak_r1 : List Cond := [Cond.fieldLink RX3 27 "StackedLeaves$Pack" "size" "I", Cond.methodLink RX3 51 yX3_press, Cond.instanceMethod yX3_press, Cond.selects RX3 yX3_press yX3_press, Cond.initialized RX3, Cond.code yX3_press cX3_press 5 (some .boolean), Cond.fieldLink RX3 28 "StackedLeaves$Pack" "bearers" "I", Cond.fieldLink RX3 9 "StackedLeaves$Pack" "reach" "[I", Cond.fieldLink RX3 15 "StackedLeaves$Pack" "stiff" "[I", Cond.fieldLink RX3 42 "StackedLeaves$Pack" "upper" "I", Cond.fieldLink RX3 45 "StackedLeaves$Pack" "lower" "I", Cond.fieldLink RX3 48 "StackedLeaves$Pack" "pressedStiff" "I", Cond.static yX6_holds, Cond.initialized RX6, Cond.code yX6_holds cX6_holds 2 (some .boolean), Cond.methodLink RX3 68 yX3_excess, Cond.instanceMethod yX3_excess, Cond.selects RX3 yX3_excess yX3_excess, Cond.code yX3_excess cX3_excess 2 (some .int), Cond.fieldLink RX3 18 "StackedLeaves$Pack" "strength" "[I", Cond.methodLink RX3 64 yX3_borne, Cond.instanceMethod yX3_borne, Cond.selects RX3 yX3_borne yX3_borne, Cond.code yX3_borne cX3_borne 2 (some .int)]
def wsX3_firstToBreak_r2 : List Cond := [Cond.methodLink RX3 59 Lib.Math.max.name, Cond.static Lib.Math.max.name, Cond.initialized "java/lang/Math", Cond.code Lib.Math.max.name Lib.Math.max.code 2 (some .int)]
def wsX3_firstToBreak : List Cond := .code yX3_firstToBreak cX3_firstToBreak 5 (some .int) :: ((wsX3_firstToBreak_r1 ++ wsX3_firstToBreak_r2) ++ wsX30)
def wsX3_wholeAfter_r1 : List Cond := [Cond.fieldLink RX3 28 "StackedLeaves$Pack" "bearers" "I", Cond.methodLink RX3 71 yX3_firstToBreak, Cond.instanceMethod yX3_firstToBreak, Cond.selects RX3 yX3_firstToBreak yX3_firstToBreak, Cond.initialized RX3, Cond.code yX3_firstToBreak cX3_firstToBreak 5 (some .int), Cond.fieldLink RX3 27 "StackedLeaves$Pack" "size" "I", Cond.methodLink RX3 51 yX3_press, Cond.instanceMethod yX3_press, Cond.selects RX3 yX3_press yX3_press, Cond.code yX3_press cX3_press 5 (some .boolean), Cond.fieldLink RX3 9 "StackedLeaves$Pack" "reach" "[I", Cond.fieldLink RX3 15 "StackedLeaves$Pack" "stiff" "[I", Cond.fieldLink RX3 42 "StackedLeaves$Pack" "upper" "I", Cond.fieldLink RX3 45 "StackedLeaves$Pack" "lower" "I", Cond.fieldLink RX3 48 "StackedLeaves$Pack" "pressedStiff" "I", Cond.static yX6_holds, Cond.initialized RX6, Cond.code yX6_holds cX6_holds 2 (some .boolean), Cond.methodLink RX3 68 yX3_excess, Cond.instanceMethod yX3_excess, Cond.selects RX3 yX3_excess yX3_excess, Cond.code yX3_excess cX3_excess 2 (some .int), Cond.fieldLink RX3 18 "StackedLeaves$Pack" "strength" "[I"]
def wsX3_wholeAfter_r2 : List Cond := [Cond.methodLink RX3 64 yX3_borne, Cond.instanceMethod yX3_borne, Cond.selects RX3 yX3_borne yX3_borne, Cond.code yX3_borne cX3_borne 2 (some .int), Cond.methodLink RX3 59 Lib.Math.max.name, Cond.static Lib.Math.max.name, Cond.initialized "java/lang/Math", Cond.code Lib.Math.max.name Lib.Math.max.code 2 (some .int)]
def wsX3_wholeAfter : List Cond := .code yX3_wholeAfter cX3_wholeAfter 4 (some .int) :: ((wsX3_wholeAfter_r1 ++ wsX3_wholeAfter_r2) ++ wsX30)
def wsX3_leastTooMuch_r1 : List Cond := [Cond.methodLink RX3 71 yX3_firstToBreak, Cond.instanceMethod yX3_firstToBreak, Cond.selects RX3 yX3_firstToBreak yX3_firstToBreak, Cond.initialized RX3, Cond.code yX3_firstToBreak cX3_firstToBreak 5 (some .int), Cond.fieldLink RX3 27 "StackedLeaves$Pack" "size" "I", Cond.methodLink RX3 51 yX3_press, Cond.instanceMethod yX3_press, Cond.selects RX3 yX3_press yX3_press, Cond.code yX3_press cX3_press 5 (some .boolean), Cond.fieldLink RX3 28 "StackedLeaves$Pack" "bearers" "I", Cond.fieldLink RX3 9 "StackedLeaves$Pack" "reach" "[I", Cond.fieldLink RX3 15 "StackedLeaves$Pack" "stiff" "[I", Cond.fieldLink RX3 42 "StackedLeaves$Pack" "upper" "I", Cond.fieldLink RX3 45 "StackedLeaves$Pack" "lower" "I", Cond.fieldLink RX3 48 "StackedLeaves$Pack" "pressedStiff" "I", Cond.static yX6_holds, Cond.initialized RX6, Cond.code yX6_holds cX6_holds 2 (some .boolean), Cond.methodLink RX3 68 yX3_excess, Cond.instanceMethod yX3_excess, Cond.selects RX3 yX3_excess yX3_excess, Cond.code yX3_excess cX3_excess 2 (some .int), Cond.fieldLink RX3 18 "StackedLeaves$Pack" "strength" "[I"]
def wsX3_leastTooMuch_r2 : List Cond := [Cond.methodLink RX3 64 yX3_borne, Cond.instanceMethod yX3_borne, Cond.selects RX3 yX3_borne yX3_borne, Cond.code yX3_borne cX3_borne 2 (some .int), Cond.methodLink RX3 59 Lib.Math.max.name, Cond.static Lib.Math.max.name, Cond.initialized "java/lang/Math", Cond.code Lib.Math.max.name Lib.Math.max.code 2 (some .int)]
def wsX3_leastTooMuch : List Cond := .code yX3_leastTooMuch cX3_leastTooMuch 5 (some .int) :: ((wsX3_leastTooMuch_r1 ++ wsX3_leastTooMuch_r2) ++ wsX30)
def wsX3_loadAt : List Cond := .code yX3_loadAt cX3_loadAt 4 (some .int) :: ([.fieldLink RX3 27 "StackedLeaves$Pack" "size" "I", .fieldLink RX3 28 "StackedLeaves$Pack" "bearers" "I", .fieldLink RX3 15 "StackedLeaves$Pack" "stiff" "[I", .fieldLink RX3 9 "StackedLeaves$Pack" "reach" "[I", .methodLink RX3 59 Lib.Math.max.name, .static Lib.Math.max.name, .initialized "java/lang/Math", .code Lib.Math.max.name Lib.Math.max.code 2 (some .int), .static yX6_holds, .initialized RX6, .code yX6_holds cX6_holds 2 (some .boolean)] ++ wsX30)
def wsX3_bearsWithin_r1 : List Cond := [Cond.fieldLink RX3 42 "StackedLeaves$Pack" "upper" "I", Cond.fieldLink RX3 45 "StackedLeaves$Pack" "lower" "I", Cond.methodLink RX3 51 yX3_press, Cond.instanceMethod yX3_press, Cond.selects RX3 yX3_press yX3_press, Cond.initialized RX3, Cond.code yX3_press cX3_press 5 (some .boolean), Cond.fieldLink RX3 27 "StackedLeaves$Pack" "size" "I", Cond.fieldLink RX3 28 "StackedLeaves$Pack" "bearers" "I", Cond.fieldLink RX3 9 "StackedLeaves$Pack" "reach" "[I", Cond.fieldLink RX3 15 "StackedLeaves$Pack" "stiff" "[I", Cond.fieldLink RX3 48 "StackedLeaves$Pack" "pressedStiff" "I", Cond.static yX6_holds, Cond.initialized RX6, Cond.code yX6_holds cX6_holds 2 (some .boolean), Cond.methodLink RX3 71 yX3_firstToBreak, Cond.instanceMethod yX3_firstToBreak, Cond.selects RX3 yX3_firstToBreak yX3_firstToBreak, Cond.code yX3_firstToBreak cX3_firstToBreak 5 (some .int), Cond.methodLink RX3 68 yX3_excess, Cond.instanceMethod yX3_excess, Cond.selects RX3 yX3_excess yX3_excess, Cond.code yX3_excess cX3_excess 2 (some .int), Cond.fieldLink RX3 18 "StackedLeaves$Pack" "strength" "[I"]
def wsX3_bearsWithin_r2 : List Cond := [Cond.methodLink RX3 64 yX3_borne, Cond.instanceMethod yX3_borne, Cond.selects RX3 yX3_borne yX3_borne, Cond.code yX3_borne cX3_borne 2 (some .int), Cond.methodLink RX3 59 Lib.Math.max.name, Cond.static Lib.Math.max.name, Cond.initialized "java/lang/Math", Cond.code Lib.Math.max.name Lib.Math.max.code 2 (some .int)]
def wsX3_bearsWithin : List Cond := .code yX3_bearsWithin cX3_bearsWithin 3 (some .boolean) :: ((wsX3_bearsWithin_r1 ++ wsX3_bearsWithin_r2) ++ wsX30)
def wsX4_init : List Cond := .code yX4_init cX4_init 1 none :: ([.methodLink RX4 3 objectInit, .instanceMethod objectInit, .code objectInit ⟨#[0xb1]⟩ 1 none, .arrayClass .int, .fieldLink RX4 9 "StackedLeaves$Sightings" "loads" "[I", .fieldLink RX4 15 "StackedLeaves$Sightings" "bends" "[I"] ++ wsX40)
def wsX4_append : List Cond := .code yX4_append cX4_append 3 (some .boolean) :: ([.fieldLink RX4 18 "StackedLeaves$Sightings" "size" "I", .fieldLink RX4 9 "StackedLeaves$Sightings" "loads" "[I", .fieldLink RX4 15 "StackedLeaves$Sightings" "bends" "[I"] ++ wsX40)
def wsX4_empty : List Cond := .code yX4_empty cX4_empty 2 (some .int) :: ([.fieldLink RX4 18 "StackedLeaves$Sightings" "size" "I"] ++ wsX40)
def wsX4_agreeWith_r1 : List Cond := [Cond.fieldLink RX4 18 "StackedLeaves$Sightings" "size" "I", Cond.fieldLink RX4 9 "StackedLeaves$Sightings" "loads" "[I", Cond.fieldLink RX4 15 "StackedLeaves$Sightings" "bends" "[I", Cond.methodLink RX4 22 yX3_cutBy, Cond.instanceMethod yX3_cutBy, Cond.selects RX3 yX3_cutBy yX3_cutBy, Cond.initialized RX3, Cond.code yX3_cutBy cX3_cutBy 2 (some .int), Cond.methodLink RX3 51 yX3_press, Cond.instanceMethod yX3_press, Cond.selects RX3 yX3_press yX3_press, Cond.code yX3_press cX3_press 5 (some .boolean), Cond.fieldLink RX3 27 "StackedLeaves$Pack" "size" "I", Cond.fieldLink RX3 28 "StackedLeaves$Pack" "bearers" "I", Cond.fieldLink RX3 9 "StackedLeaves$Pack" "reach" "[I", Cond.fieldLink RX3 15 "StackedLeaves$Pack" "stiff" "[I", Cond.fieldLink RX3 42 "StackedLeaves$Pack" "upper" "I", Cond.fieldLink RX3 45 "StackedLeaves$Pack" "lower" "I", Cond.fieldLink RX3 48 "StackedLeaves$Pack" "pressedStiff" "I", Cond.static yX6_holds, Cond.initialized RX6, Cond.code yX6_holds cX6_holds 2 (some .boolean), Cond.methodLink RX3 55 yX3_cut, Cond.instanceMethod yX3_cut]
def wsX4_agreeWith_r2 : List Cond := [Cond.selects RX3 yX3_cut yX3_cut, Cond.code yX3_cut cX3_cut 1 (some .int)]
def wsX4_agreeWith : List Cond := .code yX4_agreeWith cX4_agreeWith 3 (some .boolean) :: ((wsX4_agreeWith_r1 ++ wsX4_agreeWith_r2) ++ wsX40 ++ wsX30)
def wsX5_init : List Cond := .code yX5_init cX5_init 1 none :: ([.methodLink RX5 3 objectInit, .instanceMethod objectInit, .code objectInit ⟨#[0xb1]⟩ 1 none, .arrayClass .char, .fieldLink RX5 9 "StackedLeaves$Text" "letters" "[C"] ++ wsX50)
def wsX5_append : List Cond := .code yX5_append cX5_append 2 (some .boolean) :: ([.fieldLink RX5 15 "StackedLeaves$Text" "size" "I", .fieldLink RX5 9 "StackedLeaves$Text" "letters" "[C"] ++ wsX50)
def wsX5_empty : List Cond := .code yX5_empty cX5_empty 2 (some .int) :: ([.fieldLink RX5 15 "StackedLeaves$Text" "size" "I"] ++ wsX50)
def wsX5_behindBlanks : List Cond := .code yX5_behindBlanks cX5_behindBlanks 3 (some .int) :: ([.fieldLink RX5 15 "StackedLeaves$Text" "size" "I", .fieldLink RX5 9 "StackedLeaves$Text" "letters" "[C"] ++ wsX50)
def wsX5_isFigure : List Cond := .code yX5_isFigure cX5_isFigure 2 (some .boolean) :: ([.fieldLink RX5 9 "StackedLeaves$Text" "letters" "[C"] ++ wsX50)
def wsX5_tokenEnd : List Cond := .code yX5_tokenEnd cX5_tokenEnd 3 (some .int) :: ([.fieldLink RX5 15 "StackedLeaves$Text" "size" "I", .methodLink RX5 36 yX5_isFigure, .instanceMethod yX5_isFigure, .selects RX5 yX5_isFigure yX5_isFigure, .initialized RX5, .code yX5_isFigure cX5_isFigure 2 (some .boolean), .fieldLink RX5 9 "StackedLeaves$Text" "letters" "[C"] ++ wsX50)
def wsX5_numberAt : List Cond := .code yX5_numberAt cX5_numberAt 7 (some .int) :: ([.fieldLink RX5 9 "StackedLeaves$Text" "letters" "[C", .methodLink RX5 36 yX5_isFigure, .instanceMethod yX5_isFigure, .selects RX5 yX5_isFigure yX5_isFigure, .initialized RX5, .code yX5_isFigure cX5_isFigure 2 (some .boolean)] ++ wsX50)
def wsX5_takesToken_r1 : List Cond := [Cond.fieldLink RX5 9 "StackedLeaves$Text" "letters" "[C", Cond.methodLink RX5 40 yX2_appendWhole, Cond.instanceMethod yX2_appendWhole, Cond.selects RX2 yX2_appendWhole yX2_appendWhole, Cond.initialized RX2, Cond.code yX2_appendWhole cX2_appendWhole 1 none, Cond.fieldLink RX2 15 "StackedLeaves$Leaves" "size" "I", Cond.fieldLink RX2 19 "StackedLeaves$Leaves" "whole" "I", Cond.methodLink RX5 43 yX5_numberAt, Cond.instanceMethod yX5_numberAt, Cond.selects RX5 yX5_numberAt yX5_numberAt, Cond.initialized RX5, Cond.code yX5_numberAt cX5_numberAt 7 (some .int), Cond.methodLink RX5 36 yX5_isFigure, Cond.instanceMethod yX5_isFigure, Cond.selects RX5 yX5_isFigure yX5_isFigure, Cond.code yX5_isFigure cX5_isFigure 2 (some .boolean), Cond.methodLink RX5 51 yX2_mostOfNext, Cond.instanceMethod yX2_mostOfNext, Cond.selects RX2 yX2_mostOfNext yX2_mostOfNext, Cond.code yX2_mostOfNext cX2_mostOfNext 2 (some .int), Cond.methodLink RX2 32 yX2_number, Cond.instanceMethod yX2_number, Cond.selects RX2 yX2_number yX2_number]
def wsX5_takesToken_r2 : List Cond := [Cond.code yX2_number cX2_number 3 (some .int), Cond.fieldLink RX2 9 "StackedLeaves$Leaves" "numbers" "[I", Cond.methodLink RX5 54 yX2_put, Cond.instanceMethod yX2_put, Cond.selects RX2 yX2_put yX2_put, Cond.code yX2_put cX2_put 4 none]
def wsX5_takesToken : List Cond := .code yX5_takesToken cX5_takesToken 7 (some .boolean) :: ((wsX5_takesToken_r1 ++ wsX5_takesToken_r2) ++ wsX50 ++ wsX20)
def wsX5_readInto_r1 : List Cond := [Cond.fieldLink RX5 15 "StackedLeaves$Text" "size" "I", Cond.methodLink RX5 19 yX2_empty, Cond.instanceMethod yX2_empty, Cond.selects RX2 yX2_empty yX2_empty, Cond.initialized RX2, Cond.code yX2_empty cX2_empty 1 none, Cond.fieldLink RX2 15 "StackedLeaves$Leaves" "size" "I", Cond.fieldLink RX2 19 "StackedLeaves$Leaves" "whole" "I", Cond.methodLink RX5 24 yX5_behindBlanks, Cond.instanceMethod yX5_behindBlanks, Cond.selects RX5 yX5_behindBlanks yX5_behindBlanks, Cond.initialized RX5, Cond.code yX5_behindBlanks cX5_behindBlanks 3 (some .int), Cond.fieldLink RX5 9 "StackedLeaves$Text" "letters" "[C", Cond.methodLink RX5 28 yX5_tokenEnd, Cond.instanceMethod yX5_tokenEnd, Cond.selects RX5 yX5_tokenEnd yX5_tokenEnd, Cond.code yX5_tokenEnd cX5_tokenEnd 3 (some .int), Cond.methodLink RX5 36 yX5_isFigure, Cond.instanceMethod yX5_isFigure, Cond.selects RX5 yX5_isFigure yX5_isFigure, Cond.code yX5_isFigure cX5_isFigure 2 (some .boolean), Cond.methodLink RX5 31 yX5_takesToken, Cond.instanceMethod yX5_takesToken]
def wsX5_readInto_r2 : List Cond := [Cond.selects RX5 yX5_takesToken yX5_takesToken, Cond.code yX5_takesToken cX5_takesToken 7 (some .boolean), Cond.methodLink RX5 40 yX2_appendWhole, Cond.instanceMethod yX2_appendWhole, Cond.selects RX2 yX2_appendWhole yX2_appendWhole, Cond.code yX2_appendWhole cX2_appendWhole 1 none, Cond.methodLink RX5 43 yX5_numberAt, Cond.instanceMethod yX5_numberAt, Cond.selects RX5 yX5_numberAt yX5_numberAt, Cond.code yX5_numberAt cX5_numberAt 7 (some .int), Cond.methodLink RX5 51 yX2_mostOfNext, Cond.instanceMethod yX2_mostOfNext, Cond.selects RX2 yX2_mostOfNext yX2_mostOfNext, Cond.code yX2_mostOfNext cX2_mostOfNext 2 (some .int), Cond.methodLink RX2 32 yX2_number, Cond.instanceMethod yX2_number, Cond.selects RX2 yX2_number yX2_number, Cond.code yX2_number cX2_number 3 (some .int), Cond.fieldLink RX2 9 "StackedLeaves$Leaves" "numbers" "[I", Cond.methodLink RX5 54 yX2_put, Cond.instanceMethod yX2_put, Cond.selects RX2 yX2_put yX2_put, Cond.code yX2_put cX2_put 4 none]
def wsX5_readInto : List Cond := .code yX5_readInto cX5_readInto 6 (some .int) :: ((wsX5_readInto_r1 ++ wsX5_readInto_r2) ++ wsX50 ++ wsX20)
def wsX6_init_r1 : List Cond := [Cond.methodLink RX6 3 objectInit, Cond.instanceMethod objectInit, Cond.code objectInit ⟨#[0xb1]⟩ 1 none, Cond.classLink RX6 9 RX2, Cond.instantiable RX2 3, Cond.initialized RX2, Cond.fieldLink RX6 12 "StackedLeaves" "leaves" "LStackedLeaves$Leaves;", Cond.fieldLink RX6 16 "StackedLeaves" "draft" "LStackedLeaves$Leaves;", Cond.classLink RX6 19 RX5, Cond.instantiable RX5 2, Cond.initialized RX5, Cond.fieldLink RX6 22 "StackedLeaves" "text" "LStackedLeaves$Text;", Cond.classLink RX6 26 RX0, Cond.instantiable RX0 3, Cond.initialized RX0, Cond.fieldLink RX6 29 "StackedLeaves" "history" "LStackedLeaves$History;", Cond.classLink RX6 33 RX1, Cond.instantiable RX1 2, Cond.initialized RX1, Cond.fieldLink RX6 36 "StackedLeaves" "images" "LStackedLeaves$Images;", Cond.classLink RX6 40 RX4, Cond.instantiable RX4 3, Cond.initialized RX4, Cond.fieldLink RX6 43 "StackedLeaves" "sightings" "LStackedLeaves$Sightings;"]
def wsX6_init_r2 : List Cond := [Cond.classLink RX6 47 RX3, Cond.instantiable RX3 8, Cond.initialized RX3, Cond.fieldLink RX6 50 "StackedLeaves" "pack" "LStackedLeaves$Pack;", Cond.arrayClass .int, Cond.fieldLink RX6 54 "StackedLeaves" "cuts" "[I", Cond.methodLink RX6 11 yX2_init, Cond.instanceMethod yX2_init, Cond.code yX2_init cX2_init 1 none, Cond.methodLink RX2 3 objectInit, Cond.fieldLink RX2 9 "StackedLeaves$Leaves" "numbers" "[I", Cond.fieldLink RX2 15 "StackedLeaves$Leaves" "size" "I", Cond.fieldLink RX2 19 "StackedLeaves$Leaves" "whole" "I", Cond.instanceMethod yX5_init, Cond.code yX5_init cX5_init 1 none, Cond.methodLink RX5 3 objectInit, Cond.arrayClass .char, Cond.fieldLink RX5 9 "StackedLeaves$Text" "letters" "[C", Cond.methodLink RX6 28 yX0_init, Cond.instanceMethod yX0_init, Cond.code yX0_init cX0_init 2 none, Cond.methodLink RX0 3 objectInit, Cond.classLink RX0 9 RX2, Cond.fieldLink RX0 11 "StackedLeaves$History" "ring" "[LStackedLeaves$Leaves;"]
def wsX6_init_r3 : List Cond := [Cond.methodLink RX0 17 yX2_init, Cond.methodLink RX6 35 yX1_init, Cond.instanceMethod yX1_init, Cond.code yX1_init cX1_init 2 none, Cond.methodLink RX1 3 objectInit, Cond.classLink RX1 9 RX2, Cond.fieldLink RX1 11 "StackedLeaves$Images" "images" "[LStackedLeaves$Leaves;", Cond.methodLink RX1 17 yX2_init, Cond.instanceMethod yX4_init, Cond.code yX4_init cX4_init 1 none, Cond.methodLink RX4 3 objectInit, Cond.fieldLink RX4 9 "StackedLeaves$Sightings" "loads" "[I", Cond.fieldLink RX4 15 "StackedLeaves$Sightings" "bends" "[I", Cond.instanceMethod yX3_init, Cond.code yX3_init cX3_init 1 none, Cond.methodLink RX3 3 objectInit, Cond.fieldLink RX3 9 "StackedLeaves$Pack" "reach" "[I", Cond.fieldLink RX3 15 "StackedLeaves$Pack" "stiff" "[I", Cond.fieldLink RX3 18 "StackedLeaves$Pack" "strength" "[I"]
def wsX6_init : List Cond := .code yX6_init cX6_init 1 none :: ((wsX6_init_r1 ++ (wsX6_init_r2 ++ wsX6_init_r3)) ++ wsX20 ++ wsX60 ++ wsX50 ++ wsX00 ++ wsX10 ++ wsX40 ++ wsX30)
def wsX6_type : List Cond := .code yX6_type cX6_type 2 (some .int) :: ([.fieldLink RX6 22 "StackedLeaves" "text" "LStackedLeaves$Text;", .methodLink RX6 58 yX5_append, .instanceMethod yX5_append, .selects RX5 yX5_append yX5_append, .initialized RX5, .code yX5_append cX5_append 2 (some .boolean), .fieldLink RX5 15 "StackedLeaves$Text" "size" "I", .fieldLink RX5 9 "StackedLeaves$Text" "letters" "[C"] ++ wsX60 ++ wsX50)
def wsX6_clear : List Cond := .code yX6_clear cX6_clear 1 (some .int) :: ([.fieldLink RX6 22 "StackedLeaves" "text" "LStackedLeaves$Text;", .methodLink RX6 66 yX5_empty, .instanceMethod yX5_empty, .selects RX5 yX5_empty yX5_empty, .initialized RX5, .code yX5_empty cX5_empty 2 (some .int), .fieldLink RX5 15 "StackedLeaves$Text" "size" "I"] ++ wsX60 ++ wsX50)
def wsX6_tells_r1 : List Cond := [Cond.fieldLink RX6 22 "StackedLeaves" "text" "LStackedLeaves$Text;", Cond.fieldLink RX6 16 "StackedLeaves" "draft" "LStackedLeaves$Leaves;", Cond.fieldLink RX6 29 "StackedLeaves" "history" "LStackedLeaves$History;", Cond.fieldLink RX6 12 "StackedLeaves" "leaves" "LStackedLeaves$Leaves;", Cond.fieldLink RX6 43 "StackedLeaves" "sightings" "LStackedLeaves$Sightings;", Cond.fieldLink RX6 36 "StackedLeaves" "images" "LStackedLeaves$Images;", Cond.methodLink RX6 70 yX5_readInto, Cond.instanceMethod yX5_readInto, Cond.selects RX5 yX5_readInto yX5_readInto, Cond.initialized RX5, Cond.code yX5_readInto cX5_readInto 6 (some .int), Cond.fieldLink RX5 15 "StackedLeaves$Text" "size" "I", Cond.methodLink RX5 19 yX2_empty, Cond.instanceMethod yX2_empty, Cond.selects RX2 yX2_empty yX2_empty, Cond.initialized RX2, Cond.code yX2_empty cX2_empty 1 none, Cond.fieldLink RX2 15 "StackedLeaves$Leaves" "size" "I", Cond.fieldLink RX2 19 "StackedLeaves$Leaves" "whole" "I", Cond.methodLink RX5 24 yX5_behindBlanks, Cond.instanceMethod yX5_behindBlanks, Cond.selects RX5 yX5_behindBlanks yX5_behindBlanks, Cond.code yX5_behindBlanks cX5_behindBlanks 3 (some .int), Cond.fieldLink RX5 9 "StackedLeaves$Text" "letters" "[C"]
def wsX6_tells_r2 : List Cond := [Cond.methodLink RX5 28 yX5_tokenEnd, Cond.instanceMethod yX5_tokenEnd, Cond.selects RX5 yX5_tokenEnd yX5_tokenEnd, Cond.code yX5_tokenEnd cX5_tokenEnd 3 (some .int), Cond.methodLink RX5 36 yX5_isFigure, Cond.instanceMethod yX5_isFigure, Cond.selects RX5 yX5_isFigure yX5_isFigure, Cond.code yX5_isFigure cX5_isFigure 2 (some .boolean), Cond.methodLink RX5 31 yX5_takesToken, Cond.instanceMethod yX5_takesToken, Cond.selects RX5 yX5_takesToken yX5_takesToken, Cond.code yX5_takesToken cX5_takesToken 7 (some .boolean), Cond.methodLink RX5 40 yX2_appendWhole, Cond.instanceMethod yX2_appendWhole, Cond.selects RX2 yX2_appendWhole yX2_appendWhole, Cond.code yX2_appendWhole cX2_appendWhole 1 none, Cond.methodLink RX5 43 yX5_numberAt, Cond.instanceMethod yX5_numberAt, Cond.selects RX5 yX5_numberAt yX5_numberAt, Cond.code yX5_numberAt cX5_numberAt 7 (some .int), Cond.methodLink RX5 51 yX2_mostOfNext, Cond.instanceMethod yX2_mostOfNext, Cond.selects RX2 yX2_mostOfNext yX2_mostOfNext, Cond.code yX2_mostOfNext cX2_mostOfNext 2 (some .int)]
def wsX6_tells_r3 : List Cond := [Cond.methodLink RX2 32 yX2_number, Cond.instanceMethod yX2_number, Cond.selects RX2 yX2_number yX2_number, Cond.code yX2_number cX2_number 3 (some .int), Cond.fieldLink RX2 9 "StackedLeaves$Leaves" "numbers" "[I", Cond.methodLink RX5 54 yX2_put, Cond.instanceMethod yX2_put, Cond.selects RX2 yX2_put yX2_put, Cond.code yX2_put cX2_put 4 none, Cond.methodLink RX6 74 yX0_push, Cond.instanceMethod yX0_push, Cond.selects RX0 yX0_push yX0_push, Cond.initialized RX0, Cond.code yX0_push cX0_push 2 none, Cond.fieldLink RX0 11 "StackedLeaves$History" "ring" "[LStackedLeaves$Leaves;", Cond.fieldLink RX0 18 "StackedLeaves$History" "next" "I", Cond.fieldLink RX0 26 "StackedLeaves$History" "size" "I", Cond.methodLink RX0 29 Lib.Math.min.name, Cond.static Lib.Math.min.name, Cond.initialized "java/lang/Math", Cond.code Lib.Math.min.name Lib.Math.min.code 2 (some .int), Cond.methodLink RX0 22 yX2_become, Cond.instanceMethod yX2_become, Cond.selects RX2 yX2_become yX2_become]
def wsX6_tells_r4 : List Cond := [Cond.code yX2_become cX2_become 2 none, Cond.methodLink RX2 22 arraycopyName, Cond.native arraycopyName, Cond.static arraycopyName, Cond.initialized "java/lang/System", Cond.methodLink RX6 78 yX2_become, Cond.methodLink RX6 81 yX4_empty, Cond.instanceMethod yX4_empty, Cond.selects RX4 yX4_empty yX4_empty, Cond.initialized RX4, Cond.code yX4_empty cX4_empty 2 (some .int), Cond.fieldLink RX4 18 "StackedLeaves$Sightings" "size" "I", Cond.methodLink RX6 82 yX1_empty, Cond.instanceMethod yX1_empty, Cond.selects RX1 yX1_empty yX1_empty, Cond.initialized RX1, Cond.code yX1_empty cX1_empty 1 none, Cond.fieldLink RX1 22 "StackedLeaves$Images" "kept" "I", Cond.methodLink RX6 66 yX5_empty, Cond.instanceMethod yX5_empty, Cond.selects RX5 yX5_empty yX5_empty, Cond.code yX5_empty cX5_empty 2 (some .int)]
def wsX6_tells : List Cond := .code yX6_tells cX6_tells 2 (some .int) :: ((wsX6_tells_r1 ++ (wsX6_tells_r2 ++ (wsX6_tells_r3 ++ wsX6_tells_r4))) ++ wsX60 ++ wsX20 ++ wsX50 ++ wsX00 ++ wsX40 ++ wsX10)
def wsX6_isLoad : List Cond := .code yX6_isLoad cX6_isLoad 1 (some .boolean) :: ([])
def wsX6_stackAll_r1 : List Cond := [Cond.fieldLink RX6 50 "StackedLeaves" "pack" "LStackedLeaves$Pack;", Cond.fieldLink RX6 12 "StackedLeaves" "leaves" "LStackedLeaves$Leaves;", Cond.methodLink RX6 201 yX3_stack, Cond.instanceMethod yX3_stack, Cond.selects RX3 yX3_stack yX3_stack, Cond.initialized RX3, Cond.code yX3_stack cX3_stack 7 none, Cond.fieldLink RX3 27 "StackedLeaves$Pack" "size" "I", Cond.fieldLink RX3 28 "StackedLeaves$Pack" "bearers" "I", Cond.fieldLink RX3 9 "StackedLeaves$Pack" "reach" "[I", Cond.fieldLink RX3 15 "StackedLeaves$Pack" "stiff" "[I", Cond.fieldLink RX3 18 "StackedLeaves$Pack" "strength" "[I", Cond.static yX6_holds, Cond.initialized RX6, Cond.code yX6_holds cX6_holds 2 (some .boolean), Cond.methodLink RX3 35 yX2_nip, Cond.instanceMethod yX2_nip, Cond.selects RX2 yX2_nip yX2_nip, Cond.initialized RX2, Cond.code yX2_nip cX2_nip 3 (some .int), Cond.methodLink RX2 39 Lib.Math.max.name, Cond.static Lib.Math.max.name, Cond.initialized "java/lang/Math", Cond.code Lib.Math.max.name Lib.Math.max.code 2 (some .int)]
def wsX6_stackAll_r2 : List Cond := [Cond.methodLink RX2 32 yX2_number, Cond.instanceMethod yX2_number, Cond.selects RX2 yX2_number yX2_number, Cond.code yX2_number cX2_number 3 (some .int), Cond.fieldLink RX2 9 "StackedLeaves$Leaves" "numbers" "[I", Cond.methodLink RX3 39 yX2_number]
def wsX6_stackAll : List Cond := .code yX6_stackAll cX6_stackAll 2 none :: ((wsX6_stackAll_r1 ++ wsX6_stackAll_r2) ++ wsX60 ++ wsX20 ++ wsX30)
def wsJ6_bitCount_0f7a4 : List Cond := .code yJ6_bitCount_0f7a4 cJ6_bitCount_0f7a4 1 (some .int) :: ([.constant RJ6 265 (1431655765), .constant RJ6 266 (858993459), .constant RJ6 267 (252645135)])
def wsX6_loads_r1 : List Cond := [Cond.fieldLink RX6 12 "StackedLeaves" "leaves" "LStackedLeaves$Leaves;", Cond.fieldLink RX6 50 "StackedLeaves" "pack" "LStackedLeaves$Pack;", Cond.fieldLink RX6 29 "StackedLeaves" "history" "LStackedLeaves$History;", Cond.methodLink RX6 85 yX6_isLoad, Cond.static yX6_isLoad, Cond.initialized RX6, Cond.code yX6_isLoad cX6_isLoad 1 (some .boolean), Cond.methodLink RX6 91 yX6_stackAll, Cond.instanceMethod yX6_stackAll, Cond.selects RX6 yX6_stackAll yX6_stackAll, Cond.code yX6_stackAll cX6_stackAll 2 none, Cond.methodLink RX6 201 yX3_stack, Cond.instanceMethod yX3_stack, Cond.selects RX3 yX3_stack yX3_stack, Cond.initialized RX3, Cond.code yX3_stack cX3_stack 7 none, Cond.fieldLink RX3 27 "StackedLeaves$Pack" "size" "I", Cond.fieldLink RX3 28 "StackedLeaves$Pack" "bearers" "I", Cond.fieldLink RX3 9 "StackedLeaves$Pack" "reach" "[I", Cond.fieldLink RX3 15 "StackedLeaves$Pack" "stiff" "[I", Cond.fieldLink RX3 18 "StackedLeaves$Pack" "strength" "[I", Cond.static yX6_holds, Cond.code yX6_holds cX6_holds 2 (some .boolean), Cond.methodLink RX3 35 yX2_nip]
def wsX6_loads_r2 : List Cond := [Cond.instanceMethod yX2_nip, Cond.selects RX2 yX2_nip yX2_nip, Cond.initialized RX2, Cond.code yX2_nip cX2_nip 3 (some .int), Cond.methodLink RX2 39 Lib.Math.max.name, Cond.static Lib.Math.max.name, Cond.initialized "java/lang/Math", Cond.code Lib.Math.max.name Lib.Math.max.code 2 (some .int), Cond.methodLink RX2 32 yX2_number, Cond.instanceMethod yX2_number, Cond.selects RX2 yX2_number yX2_number, Cond.code yX2_number cX2_number 3 (some .int), Cond.fieldLink RX2 9 "StackedLeaves$Leaves" "numbers" "[I", Cond.methodLink RX3 39 yX2_number, Cond.methodLink RX6 95 yX3_wholeAfter, Cond.instanceMethod yX3_wholeAfter, Cond.selects RX3 yX3_wholeAfter yX3_wholeAfter, Cond.code yX3_wholeAfter cX3_wholeAfter 4 (some .int), Cond.methodLink RX3 71 yX3_firstToBreak, Cond.instanceMethod yX3_firstToBreak, Cond.selects RX3 yX3_firstToBreak yX3_firstToBreak, Cond.code yX3_firstToBreak cX3_firstToBreak 5 (some .int), Cond.methodLink RX3 51 yX3_press, Cond.instanceMethod yX3_press]
def wsX6_loads_r3 : List Cond := [Cond.selects RX3 yX3_press yX3_press, Cond.code yX3_press cX3_press 5 (some .boolean), Cond.fieldLink RX3 42 "StackedLeaves$Pack" "upper" "I", Cond.fieldLink RX3 45 "StackedLeaves$Pack" "lower" "I", Cond.fieldLink RX3 48 "StackedLeaves$Pack" "pressedStiff" "I", Cond.methodLink RX3 68 yX3_excess, Cond.instanceMethod yX3_excess, Cond.selects RX3 yX3_excess yX3_excess, Cond.code yX3_excess cX3_excess 2 (some .int), Cond.methodLink RX3 64 yX3_borne, Cond.instanceMethod yX3_borne, Cond.selects RX3 yX3_borne yX3_borne, Cond.code yX3_borne cX3_borne 2 (some .int), Cond.methodLink RX3 59 Lib.Math.max.name, Cond.methodLink RX6 99 yJ6_bitCount_0f7a4, Cond.static yJ6_bitCount_0f7a4, Cond.initialized RJ6, Cond.code yJ6_bitCount_0f7a4 cJ6_bitCount_0f7a4 1 (some .int), Cond.constant RJ6 265 (1431655765), Cond.constant RJ6 266 (858993459), Cond.constant RJ6 267 (252645135), Cond.methodLink RX6 74 yX0_push, Cond.instanceMethod yX0_push, Cond.selects RX0 yX0_push yX0_push]
def wsX6_loads_r4 : List Cond := [Cond.initialized RX0, Cond.code yX0_push cX0_push 2 none, Cond.fieldLink RX0 11 "StackedLeaves$History" "ring" "[LStackedLeaves$Leaves;", Cond.fieldLink RX0 18 "StackedLeaves$History" "next" "I", Cond.fieldLink RX0 26 "StackedLeaves$History" "size" "I", Cond.methodLink RX0 29 Lib.Math.min.name, Cond.static Lib.Math.min.name, Cond.code Lib.Math.min.name Lib.Math.min.code 2 (some .int), Cond.methodLink RX0 22 yX2_become, Cond.instanceMethod yX2_become, Cond.selects RX2 yX2_become yX2_become, Cond.code yX2_become cX2_become 2 none, Cond.methodLink RX2 22 arraycopyName, Cond.native arraycopyName, Cond.static arraycopyName, Cond.initialized "java/lang/System", Cond.fieldLink RX2 15 "StackedLeaves$Leaves" "size" "I", Cond.fieldLink RX2 19 "StackedLeaves$Leaves" "whole" "I"]
def wsX6_loads : List Cond := .code yX6_loads cX6_loads 4 (some .int) :: ((wsX6_loads_r1 ++ (wsX6_loads_r2 ++ (wsX6_loads_r3 ++ wsX6_loads_r4))) ++ wsX60 ++ wsX20 ++ wsX30 ++ wsX00)
def wsX6_breaks_r1 : List Cond := [Cond.fieldLink RX6 12 "StackedLeaves" "leaves" "LStackedLeaves$Leaves;", Cond.fieldLink RX6 29 "StackedLeaves" "history" "LStackedLeaves$History;", Cond.methodLink RX6 104 yX2_exists, Cond.instanceMethod yX2_exists, Cond.selects RX2 yX2_exists yX2_exists, Cond.initialized RX2, Cond.code yX2_exists cX2_exists 2 (some .boolean), Cond.fieldLink RX2 15 "StackedLeaves$Leaves" "size" "I", Cond.methodLink RX6 107 yX2_isWhole, Cond.instanceMethod yX2_isWhole, Cond.selects RX2 yX2_isWhole yX2_isWhole, Cond.code yX2_isWhole cX2_isWhole 2 (some .boolean), Cond.fieldLink RX2 19 "StackedLeaves$Leaves" "whole" "I", Cond.static yX6_holds, Cond.initialized RX6, Cond.code yX6_holds cX6_holds 2 (some .boolean), Cond.methodLink RX6 74 yX0_push, Cond.instanceMethod yX0_push, Cond.selects RX0 yX0_push yX0_push, Cond.initialized RX0, Cond.code yX0_push cX0_push 2 none, Cond.fieldLink RX0 11 "StackedLeaves$History" "ring" "[LStackedLeaves$Leaves;", Cond.fieldLink RX0 18 "StackedLeaves$History" "next" "I", Cond.fieldLink RX0 26 "StackedLeaves$History" "size" "I"]
def wsX6_breaks_r2 : List Cond := [Cond.methodLink RX0 29 Lib.Math.min.name, Cond.static Lib.Math.min.name, Cond.initialized "java/lang/Math", Cond.code Lib.Math.min.name Lib.Math.min.code 2 (some .int), Cond.methodLink RX0 22 yX2_become, Cond.instanceMethod yX2_become, Cond.selects RX2 yX2_become yX2_become, Cond.code yX2_become cX2_become 2 none, Cond.fieldLink RX2 9 "StackedLeaves$Leaves" "numbers" "[I", Cond.methodLink RX2 22 arraycopyName, Cond.native arraycopyName, Cond.static arraycopyName, Cond.initialized "java/lang/System", Cond.methodLink RX6 99 yJ6_bitCount_0f7a4, Cond.static yJ6_bitCount_0f7a4, Cond.initialized RJ6, Cond.code yJ6_bitCount_0f7a4 cJ6_bitCount_0f7a4 1 (some .int), Cond.constant RJ6 265 (1431655765), Cond.constant RJ6 266 (858993459), Cond.constant RJ6 267 (252645135)]
def wsX6_breaks : List Cond := .code yX6_breaks cX6_breaks 2 (some .int) :: ((wsX6_breaks_r1 ++ wsX6_breaks_r2) ++ wsX60 ++ wsX20 ++ wsX00)
def wsX6_mends_r1 : List Cond := [Cond.fieldLink RX6 12 "StackedLeaves" "leaves" "LStackedLeaves$Leaves;", Cond.fieldLink RX6 29 "StackedLeaves" "history" "LStackedLeaves$History;", Cond.methodLink RX6 104 yX2_exists, Cond.instanceMethod yX2_exists, Cond.selects RX2 yX2_exists yX2_exists, Cond.initialized RX2, Cond.code yX2_exists cX2_exists 2 (some .boolean), Cond.fieldLink RX2 15 "StackedLeaves$Leaves" "size" "I", Cond.methodLink RX6 107 yX2_isWhole, Cond.instanceMethod yX2_isWhole, Cond.selects RX2 yX2_isWhole yX2_isWhole, Cond.code yX2_isWhole cX2_isWhole 2 (some .boolean), Cond.fieldLink RX2 19 "StackedLeaves$Leaves" "whole" "I", Cond.static yX6_holds, Cond.initialized RX6, Cond.code yX6_holds cX6_holds 2 (some .boolean), Cond.methodLink RX6 74 yX0_push, Cond.instanceMethod yX0_push, Cond.selects RX0 yX0_push yX0_push, Cond.initialized RX0, Cond.code yX0_push cX0_push 2 none, Cond.fieldLink RX0 11 "StackedLeaves$History" "ring" "[LStackedLeaves$Leaves;", Cond.fieldLink RX0 18 "StackedLeaves$History" "next" "I", Cond.fieldLink RX0 26 "StackedLeaves$History" "size" "I"]
def wsX6_mends_r2 : List Cond := [Cond.methodLink RX0 29 Lib.Math.min.name, Cond.static Lib.Math.min.name, Cond.initialized "java/lang/Math", Cond.code Lib.Math.min.name Lib.Math.min.code 2 (some .int), Cond.methodLink RX0 22 yX2_become, Cond.instanceMethod yX2_become, Cond.selects RX2 yX2_become yX2_become, Cond.code yX2_become cX2_become 2 none, Cond.fieldLink RX2 9 "StackedLeaves$Leaves" "numbers" "[I", Cond.methodLink RX2 22 arraycopyName, Cond.native arraycopyName, Cond.static arraycopyName, Cond.initialized "java/lang/System", Cond.methodLink RX6 99 yJ6_bitCount_0f7a4, Cond.static yJ6_bitCount_0f7a4, Cond.initialized RJ6, Cond.code yJ6_bitCount_0f7a4 cJ6_bitCount_0f7a4 1 (some .int), Cond.constant RJ6 265 (1431655765), Cond.constant RJ6 266 (858993459), Cond.constant RJ6 267 (252645135)]
def wsX6_mends : List Cond := .code yX6_mends cX6_mends 2 (some .int) :: ((wsX6_mends_r1 ++ wsX6_mends_r2) ++ wsX60 ++ wsX20 ++ wsX00)
def wsX6_cambers_r1 : List Cond := [Cond.fieldLink RX6 12 "StackedLeaves" "leaves" "LStackedLeaves$Leaves;", Cond.fieldLink RX6 110 "StackedLeaves" "LEAST_NUMBER" "[I", Cond.fieldLink RX6 113 "StackedLeaves" "MOST_NUMBER" "[I", Cond.fieldLink RX6 29 "StackedLeaves" "history" "LStackedLeaves$History;", Cond.methodLink RX6 104 yX2_exists, Cond.instanceMethod yX2_exists, Cond.selects RX2 yX2_exists yX2_exists, Cond.initialized RX2, Cond.code yX2_exists cX2_exists 2 (some .boolean), Cond.fieldLink RX2 15 "StackedLeaves$Leaves" "size" "I", Cond.methodLink RX6 116 yX2_number, Cond.instanceMethod yX2_number, Cond.selects RX2 yX2_number yX2_number, Cond.code yX2_number cX2_number 3 (some .int), Cond.fieldLink RX2 9 "StackedLeaves$Leaves" "numbers" "[I", Cond.methodLink RX6 74 yX0_push, Cond.instanceMethod yX0_push, Cond.selects RX0 yX0_push yX0_push, Cond.initialized RX0, Cond.code yX0_push cX0_push 2 none, Cond.fieldLink RX0 11 "StackedLeaves$History" "ring" "[LStackedLeaves$Leaves;", Cond.fieldLink RX0 18 "StackedLeaves$History" "next" "I", Cond.fieldLink RX0 26 "StackedLeaves$History" "size" "I", Cond.methodLink RX0 29 Lib.Math.min.name]
def wsX6_cambers_r2 : List Cond := [Cond.static Lib.Math.min.name, Cond.initialized "java/lang/Math", Cond.code Lib.Math.min.name Lib.Math.min.code 2 (some .int), Cond.methodLink RX0 22 yX2_become, Cond.instanceMethod yX2_become, Cond.selects RX2 yX2_become yX2_become, Cond.code yX2_become cX2_become 2 none, Cond.methodLink RX2 22 arraycopyName, Cond.native arraycopyName, Cond.static arraycopyName, Cond.initialized "java/lang/System", Cond.fieldLink RX2 19 "StackedLeaves$Leaves" "whole" "I", Cond.methodLink RX6 120 yX2_put, Cond.instanceMethod yX2_put, Cond.selects RX2 yX2_put yX2_put, Cond.code yX2_put cX2_put 4 none]
def wsX6_cambers : List Cond := .code yX6_cambers cX6_cambers 4 (some .int) :: ((wsX6_cambers_r1 ++ wsX6_cambers_r2) ++ wsX60 ++ wsX20 ++ wsX00)
def wsX6_undo : List Cond := .code yX6_undo cX6_undo 1 (some .int) :: ([.fieldLink RX6 29 "StackedLeaves" "history" "LStackedLeaves$History;", .fieldLink RX6 12 "StackedLeaves" "leaves" "LStackedLeaves$Leaves;", .methodLink RX6 124 yX0_popInto, .instanceMethod yX0_popInto, .selects RX0 yX0_popInto yX0_popInto, .initialized RX0, .code yX0_popInto cX0_popInto 2 (some .boolean), .fieldLink RX0 26 "StackedLeaves$History" "size" "I", .fieldLink RX0 18 "StackedLeaves$History" "next" "I", .fieldLink RX0 11 "StackedLeaves$History" "ring" "[LStackedLeaves$Leaves;", .methodLink RX0 22 yX2_become, .instanceMethod yX2_become, .selects RX2 yX2_become yX2_become, .initialized RX2, .code yX2_become cX2_become 2 none, .fieldLink RX2 9 "StackedLeaves$Leaves" "numbers" "[I", .methodLink RX2 22 arraycopyName, .native arraycopyName, .static arraycopyName, .initialized "java/lang/System", .fieldLink RX2 15 "StackedLeaves$Leaves" "size" "I", .fieldLink RX2 19 "StackedLeaves$Leaves" "whole" "I"] ++ wsX60 ++ wsX00 ++ wsX20)
def wsX6_leaf_r1 : List Cond := [Cond.fieldLink RX6 12 "StackedLeaves" "leaves" "LStackedLeaves$Leaves;", Cond.fieldLink RX6 50 "StackedLeaves" "pack" "LStackedLeaves$Pack;", Cond.methodLink RX6 104 yX2_exists, Cond.instanceMethod yX2_exists, Cond.selects RX2 yX2_exists yX2_exists, Cond.initialized RX2, Cond.code yX2_exists cX2_exists 2 (some .boolean), Cond.fieldLink RX2 15 "StackedLeaves$Leaves" "size" "I", Cond.methodLink RX6 116 yX2_number, Cond.instanceMethod yX2_number, Cond.selects RX2 yX2_number yX2_number, Cond.code yX2_number cX2_number 3 (some .int), Cond.fieldLink RX2 9 "StackedLeaves$Leaves" "numbers" "[I", Cond.methodLink RX6 107 yX2_isWhole, Cond.instanceMethod yX2_isWhole, Cond.selects RX2 yX2_isWhole yX2_isWhole, Cond.code yX2_isWhole cX2_isWhole 2 (some .boolean), Cond.fieldLink RX2 19 "StackedLeaves$Leaves" "whole" "I", Cond.static yX6_holds, Cond.initialized RX6, Cond.code yX6_holds cX6_holds 2 (some .boolean), Cond.methodLink RX6 129 yX2_nip, Cond.instanceMethod yX2_nip, Cond.selects RX2 yX2_nip yX2_nip]
def wsX6_leaf_r2 : List Cond := [Cond.code yX2_nip cX2_nip 3 (some .int), Cond.methodLink RX2 39 Lib.Math.max.name, Cond.static Lib.Math.max.name, Cond.initialized "java/lang/Math", Cond.code Lib.Math.max.name Lib.Math.max.code 2 (some .int), Cond.methodLink RX2 32 yX2_number, Cond.methodLink RX6 91 yX6_stackAll, Cond.instanceMethod yX6_stackAll, Cond.selects RX6 yX6_stackAll yX6_stackAll, Cond.code yX6_stackAll cX6_stackAll 2 none, Cond.methodLink RX6 201 yX3_stack, Cond.instanceMethod yX3_stack, Cond.selects RX3 yX3_stack yX3_stack, Cond.initialized RX3, Cond.code yX3_stack cX3_stack 7 none, Cond.fieldLink RX3 27 "StackedLeaves$Pack" "size" "I", Cond.fieldLink RX3 28 "StackedLeaves$Pack" "bearers" "I", Cond.fieldLink RX3 9 "StackedLeaves$Pack" "reach" "[I", Cond.fieldLink RX3 15 "StackedLeaves$Pack" "stiff" "[I", Cond.fieldLink RX3 18 "StackedLeaves$Pack" "strength" "[I", Cond.methodLink RX3 35 yX2_nip, Cond.methodLink RX3 39 yX2_number]
def wsX6_leaf : List Cond := .code yX6_leaf cX6_leaf 3 (some .int) :: ((wsX6_leaf_r1 ++ wsX6_leaf_r2) ++ wsX60 ++ wsX20 ++ wsX30)
def wsX6_greatestDivisor : List Cond := .code yX6_greatestDivisor cX6_greatestDivisor 6 (some .int) :: ([.methodLink RX6 208 Lib.Math.max.name, .static Lib.Math.max.name, .initialized "java/lang/Math", .code Lib.Math.max.name Lib.Math.max.code 2 (some .int)])
def wsX6_partInLowestTerms : List Cond := .code yX6_partInLowestTerms cX6_partInLowestTerms 4 (some .int) :: ([.methodLink RX6 205 yX6_greatestDivisor, .static yX6_greatestDivisor, .initialized RX6, .code yX6_greatestDivisor cX6_greatestDivisor 6 (some .int), .methodLink RX6 208 Lib.Math.max.name, .static Lib.Math.max.name, .initialized "java/lang/Math", .code Lib.Math.max.name Lib.Math.max.code 2 (some .int)])
def wsX6_bend_r1 : List Cond := [Cond.fieldLink RX6 12 "StackedLeaves" "leaves" "LStackedLeaves$Leaves;", Cond.fieldLink RX6 50 "StackedLeaves" "pack" "LStackedLeaves$Pack;", Cond.methodLink RX6 85 yX6_isLoad, Cond.static yX6_isLoad, Cond.initialized RX6, Cond.code yX6_isLoad cX6_isLoad 1 (some .boolean), Cond.methodLink RX6 91 yX6_stackAll, Cond.instanceMethod yX6_stackAll, Cond.selects RX6 yX6_stackAll yX6_stackAll, Cond.code yX6_stackAll cX6_stackAll 2 none, Cond.methodLink RX6 201 yX3_stack, Cond.instanceMethod yX3_stack, Cond.selects RX3 yX3_stack yX3_stack, Cond.initialized RX3, Cond.code yX3_stack cX3_stack 7 none, Cond.fieldLink RX3 27 "StackedLeaves$Pack" "size" "I", Cond.fieldLink RX3 28 "StackedLeaves$Pack" "bearers" "I", Cond.fieldLink RX3 9 "StackedLeaves$Pack" "reach" "[I", Cond.fieldLink RX3 15 "StackedLeaves$Pack" "stiff" "[I", Cond.fieldLink RX3 18 "StackedLeaves$Pack" "strength" "[I", Cond.static yX6_holds, Cond.code yX6_holds cX6_holds 2 (some .boolean), Cond.methodLink RX3 35 yX2_nip, Cond.instanceMethod yX2_nip]
def wsX6_bend_r2 : List Cond := [Cond.selects RX2 yX2_nip yX2_nip, Cond.initialized RX2, Cond.code yX2_nip cX2_nip 3 (some .int), Cond.methodLink RX2 39 Lib.Math.max.name, Cond.static Lib.Math.max.name, Cond.initialized "java/lang/Math", Cond.code Lib.Math.max.name Lib.Math.max.code 2 (some .int), Cond.methodLink RX2 32 yX2_number, Cond.instanceMethod yX2_number, Cond.selects RX2 yX2_number yX2_number, Cond.code yX2_number cX2_number 3 (some .int), Cond.fieldLink RX2 9 "StackedLeaves$Leaves" "numbers" "[I", Cond.methodLink RX3 39 yX2_number, Cond.methodLink RX6 135 yX3_press, Cond.instanceMethod yX3_press, Cond.selects RX3 yX3_press yX3_press, Cond.code yX3_press cX3_press 5 (some .boolean), Cond.fieldLink RX3 42 "StackedLeaves$Pack" "upper" "I", Cond.fieldLink RX3 45 "StackedLeaves$Pack" "lower" "I", Cond.fieldLink RX3 48 "StackedLeaves$Pack" "pressedStiff" "I", Cond.methodLink RX6 138 yX3_cut, Cond.instanceMethod yX3_cut, Cond.selects RX3 yX3_cut yX3_cut, Cond.code yX3_cut cX3_cut 1 (some .int)]
def wsX6_bend_r3 : List Cond := [Cond.methodLink RX6 147 yX6_partInLowestTerms, Cond.static yX6_partInLowestTerms, Cond.code yX6_partInLowestTerms cX6_partInLowestTerms 4 (some .int), Cond.methodLink RX6 205 yX6_greatestDivisor, Cond.static yX6_greatestDivisor, Cond.code yX6_greatestDivisor cX6_greatestDivisor 6 (some .int), Cond.methodLink RX6 208 Lib.Math.max.name]
def wsX6_bend : List Cond := .code yX6_bend cX6_bend 3 (some .int) :: ((wsX6_bend_r1 ++ (wsX6_bend_r2 ++ wsX6_bend_r3)) ++ wsX60 ++ wsX20 ++ wsX30)
def wsX6_bears_r1 : List Cond := [Cond.fieldLink RX6 12 "StackedLeaves" "leaves" "LStackedLeaves$Leaves;", Cond.fieldLink RX6 50 "StackedLeaves" "pack" "LStackedLeaves$Pack;", Cond.methodLink RX6 104 yX2_exists, Cond.instanceMethod yX2_exists, Cond.selects RX2 yX2_exists yX2_exists, Cond.initialized RX2, Cond.code yX2_exists cX2_exists 2 (some .boolean), Cond.fieldLink RX2 15 "StackedLeaves$Leaves" "size" "I", Cond.methodLink RX6 85 yX6_isLoad, Cond.static yX6_isLoad, Cond.initialized RX6, Cond.code yX6_isLoad cX6_isLoad 1 (some .boolean), Cond.methodLink RX6 91 yX6_stackAll, Cond.instanceMethod yX6_stackAll, Cond.selects RX6 yX6_stackAll yX6_stackAll, Cond.code yX6_stackAll cX6_stackAll 2 none, Cond.methodLink RX6 201 yX3_stack, Cond.instanceMethod yX3_stack, Cond.selects RX3 yX3_stack yX3_stack, Cond.initialized RX3, Cond.code yX3_stack cX3_stack 7 none, Cond.fieldLink RX3 27 "StackedLeaves$Pack" "size" "I", Cond.fieldLink RX3 28 "StackedLeaves$Pack" "bearers" "I", Cond.fieldLink RX3 9 "StackedLeaves$Pack" "reach" "[I"]
def wsX6_bears_r2 : List Cond := [Cond.fieldLink RX3 15 "StackedLeaves$Pack" "stiff" "[I", Cond.fieldLink RX3 18 "StackedLeaves$Pack" "strength" "[I", Cond.static yX6_holds, Cond.code yX6_holds cX6_holds 2 (some .boolean), Cond.methodLink RX3 35 yX2_nip, Cond.instanceMethod yX2_nip, Cond.selects RX2 yX2_nip yX2_nip, Cond.code yX2_nip cX2_nip 3 (some .int), Cond.methodLink RX2 39 Lib.Math.max.name, Cond.static Lib.Math.max.name, Cond.initialized "java/lang/Math", Cond.code Lib.Math.max.name Lib.Math.max.code 2 (some .int), Cond.methodLink RX2 32 yX2_number, Cond.instanceMethod yX2_number, Cond.selects RX2 yX2_number yX2_number, Cond.code yX2_number cX2_number 3 (some .int), Cond.fieldLink RX2 9 "StackedLeaves$Leaves" "numbers" "[I", Cond.methodLink RX3 39 yX2_number, Cond.methodLink RX6 135 yX3_press, Cond.instanceMethod yX3_press, Cond.selects RX3 yX3_press yX3_press, Cond.code yX3_press cX3_press 5 (some .boolean), Cond.fieldLink RX3 42 "StackedLeaves$Pack" "upper" "I", Cond.fieldLink RX3 45 "StackedLeaves$Pack" "lower" "I"]
def wsX6_bears_r3 : List Cond := [Cond.fieldLink RX3 48 "StackedLeaves$Pack" "pressedStiff" "I", Cond.methodLink RX6 151 yX3_excess, Cond.instanceMethod yX3_excess, Cond.selects RX3 yX3_excess yX3_excess, Cond.code yX3_excess cX3_excess 2 (some .int), Cond.methodLink RX3 64 yX3_borne, Cond.instanceMethod yX3_borne, Cond.selects RX3 yX3_borne yX3_borne, Cond.code yX3_borne cX3_borne 2 (some .int), Cond.methodLink RX3 59 Lib.Math.max.name, Cond.methodLink RX6 154 yX3_borne, Cond.methodLink RX6 147 yX6_partInLowestTerms, Cond.static yX6_partInLowestTerms, Cond.code yX6_partInLowestTerms cX6_partInLowestTerms 4 (some .int), Cond.methodLink RX6 205 yX6_greatestDivisor, Cond.static yX6_greatestDivisor, Cond.code yX6_greatestDivisor cX6_greatestDivisor 6 (some .int), Cond.methodLink RX6 208 Lib.Math.max.name]
def wsX6_bears : List Cond := .code yX6_bears cX6_bears 4 (some .int) :: ((wsX6_bears_r1 ++ (wsX6_bears_r2 ++ wsX6_bears_r3)) ++ wsX60 ++ wsX20 ++ wsX30)
def wsX6_rate_r1 : List Cond := [Cond.fieldLink RX6 12 "StackedLeaves" "leaves" "LStackedLeaves$Leaves;", Cond.fieldLink RX6 50 "StackedLeaves" "pack" "LStackedLeaves$Pack;", Cond.methodLink RX6 85 yX6_isLoad, Cond.static yX6_isLoad, Cond.initialized RX6, Cond.code yX6_isLoad cX6_isLoad 1 (some .boolean), Cond.methodLink RX6 91 yX6_stackAll, Cond.instanceMethod yX6_stackAll, Cond.selects RX6 yX6_stackAll yX6_stackAll, Cond.code yX6_stackAll cX6_stackAll 2 none, Cond.methodLink RX6 201 yX3_stack, Cond.instanceMethod yX3_stack, Cond.selects RX3 yX3_stack yX3_stack, Cond.initialized RX3, Cond.code yX3_stack cX3_stack 7 none, Cond.fieldLink RX3 27 "StackedLeaves$Pack" "size" "I", Cond.fieldLink RX3 28 "StackedLeaves$Pack" "bearers" "I", Cond.fieldLink RX3 9 "StackedLeaves$Pack" "reach" "[I", Cond.fieldLink RX3 15 "StackedLeaves$Pack" "stiff" "[I", Cond.fieldLink RX3 18 "StackedLeaves$Pack" "strength" "[I", Cond.static yX6_holds, Cond.code yX6_holds cX6_holds 2 (some .boolean), Cond.methodLink RX3 35 yX2_nip, Cond.instanceMethod yX2_nip]
def wsX6_rate_r2 : List Cond := [Cond.selects RX2 yX2_nip yX2_nip, Cond.initialized RX2, Cond.code yX2_nip cX2_nip 3 (some .int), Cond.methodLink RX2 39 Lib.Math.max.name, Cond.static Lib.Math.max.name, Cond.initialized "java/lang/Math", Cond.code Lib.Math.max.name Lib.Math.max.code 2 (some .int), Cond.methodLink RX2 32 yX2_number, Cond.instanceMethod yX2_number, Cond.selects RX2 yX2_number yX2_number, Cond.code yX2_number cX2_number 3 (some .int), Cond.fieldLink RX2 9 "StackedLeaves$Leaves" "numbers" "[I", Cond.methodLink RX3 39 yX2_number, Cond.methodLink RX6 135 yX3_press, Cond.instanceMethod yX3_press, Cond.selects RX3 yX3_press yX3_press, Cond.code yX3_press cX3_press 5 (some .boolean), Cond.fieldLink RX3 42 "StackedLeaves$Pack" "upper" "I", Cond.fieldLink RX3 45 "StackedLeaves$Pack" "lower" "I", Cond.fieldLink RX3 48 "StackedLeaves$Pack" "pressedStiff" "I"]
def wsX6_rate : List Cond := .code yX6_rate cX6_rate 2 (some .int) :: ((wsX6_rate_r1 ++ wsX6_rate_r2) ++ wsX60 ++ wsX20 ++ wsX30)
def wsX6_least_r1 : List Cond := [Cond.fieldLink RX6 12 "StackedLeaves" "leaves" "LStackedLeaves$Leaves;", Cond.fieldLink RX6 50 "StackedLeaves" "pack" "LStackedLeaves$Pack;", Cond.methodLink RX6 91 yX6_stackAll, Cond.instanceMethod yX6_stackAll, Cond.selects RX6 yX6_stackAll yX6_stackAll, Cond.initialized RX6, Cond.code yX6_stackAll cX6_stackAll 2 none, Cond.methodLink RX6 201 yX3_stack, Cond.instanceMethod yX3_stack, Cond.selects RX3 yX3_stack yX3_stack, Cond.initialized RX3, Cond.code yX3_stack cX3_stack 7 none, Cond.fieldLink RX3 27 "StackedLeaves$Pack" "size" "I", Cond.fieldLink RX3 28 "StackedLeaves$Pack" "bearers" "I", Cond.fieldLink RX3 9 "StackedLeaves$Pack" "reach" "[I", Cond.fieldLink RX3 15 "StackedLeaves$Pack" "stiff" "[I", Cond.fieldLink RX3 18 "StackedLeaves$Pack" "strength" "[I", Cond.static yX6_holds, Cond.code yX6_holds cX6_holds 2 (some .boolean), Cond.methodLink RX3 35 yX2_nip, Cond.instanceMethod yX2_nip, Cond.selects RX2 yX2_nip yX2_nip, Cond.initialized RX2, Cond.code yX2_nip cX2_nip 3 (some .int)]
def wsX6_least_r2 : List Cond := [Cond.methodLink RX2 39 Lib.Math.max.name, Cond.static Lib.Math.max.name, Cond.initialized "java/lang/Math", Cond.code Lib.Math.max.name Lib.Math.max.code 2 (some .int), Cond.methodLink RX2 32 yX2_number, Cond.instanceMethod yX2_number, Cond.selects RX2 yX2_number yX2_number, Cond.code yX2_number cX2_number 3 (some .int), Cond.fieldLink RX2 9 "StackedLeaves$Leaves" "numbers" "[I", Cond.methodLink RX3 39 yX2_number, Cond.methodLink RX6 160 yX3_leastTooMuch, Cond.instanceMethod yX3_leastTooMuch, Cond.selects RX3 yX3_leastTooMuch yX3_leastTooMuch, Cond.code yX3_leastTooMuch cX3_leastTooMuch 5 (some .int), Cond.methodLink RX3 71 yX3_firstToBreak, Cond.instanceMethod yX3_firstToBreak, Cond.selects RX3 yX3_firstToBreak yX3_firstToBreak, Cond.code yX3_firstToBreak cX3_firstToBreak 5 (some .int), Cond.methodLink RX3 51 yX3_press, Cond.instanceMethod yX3_press, Cond.selects RX3 yX3_press yX3_press, Cond.code yX3_press cX3_press 5 (some .boolean), Cond.fieldLink RX3 42 "StackedLeaves$Pack" "upper" "I", Cond.fieldLink RX3 45 "StackedLeaves$Pack" "lower" "I"]
def wsX6_least_r3 : List Cond := [Cond.fieldLink RX3 48 "StackedLeaves$Pack" "pressedStiff" "I", Cond.methodLink RX3 68 yX3_excess, Cond.instanceMethod yX3_excess, Cond.selects RX3 yX3_excess yX3_excess, Cond.code yX3_excess cX3_excess 2 (some .int), Cond.methodLink RX3 64 yX3_borne, Cond.instanceMethod yX3_borne, Cond.selects RX3 yX3_borne yX3_borne, Cond.code yX3_borne cX3_borne 2 (some .int), Cond.methodLink RX3 59 Lib.Math.max.name, Cond.methodLink RX6 163 yX3_firstToBreak, Cond.methodLink RX6 99 yJ6_bitCount_0f7a4, Cond.static yJ6_bitCount_0f7a4, Cond.initialized RJ6, Cond.code yJ6_bitCount_0f7a4 cJ6_bitCount_0f7a4 1 (some .int), Cond.constant RJ6 265 (1431655765), Cond.constant RJ6 266 (858993459), Cond.constant RJ6 267 (252645135), Cond.methodLink RX6 95 yX3_wholeAfter, Cond.instanceMethod yX3_wholeAfter, Cond.selects RX3 yX3_wholeAfter yX3_wholeAfter, Cond.code yX3_wholeAfter cX3_wholeAfter 4 (some .int)]
def wsX6_least : List Cond := .code yX6_least cX6_least 3 (some .int) :: ((wsX6_least_r1 ++ (wsX6_least_r2 ++ wsX6_least_r3)) ++ wsX60 ++ wsX20 ++ wsX30)
def wsX6_knee_r1 : List Cond := [Cond.fieldLink RX6 12 "StackedLeaves" "leaves" "LStackedLeaves$Leaves;", Cond.fieldLink RX6 50 "StackedLeaves" "pack" "LStackedLeaves$Pack;", Cond.methodLink RX6 91 yX6_stackAll, Cond.instanceMethod yX6_stackAll, Cond.selects RX6 yX6_stackAll yX6_stackAll, Cond.initialized RX6, Cond.code yX6_stackAll cX6_stackAll 2 none, Cond.methodLink RX6 201 yX3_stack, Cond.instanceMethod yX3_stack, Cond.selects RX3 yX3_stack yX3_stack, Cond.initialized RX3, Cond.code yX3_stack cX3_stack 7 none, Cond.fieldLink RX3 27 "StackedLeaves$Pack" "size" "I", Cond.fieldLink RX3 28 "StackedLeaves$Pack" "bearers" "I", Cond.fieldLink RX3 9 "StackedLeaves$Pack" "reach" "[I", Cond.fieldLink RX3 15 "StackedLeaves$Pack" "stiff" "[I", Cond.fieldLink RX3 18 "StackedLeaves$Pack" "strength" "[I", Cond.static yX6_holds, Cond.code yX6_holds cX6_holds 2 (some .boolean), Cond.methodLink RX3 35 yX2_nip, Cond.instanceMethod yX2_nip, Cond.selects RX2 yX2_nip yX2_nip, Cond.initialized RX2, Cond.code yX2_nip cX2_nip 3 (some .int)]
def wsX6_knee_r2 : List Cond := [Cond.methodLink RX2 39 Lib.Math.max.name, Cond.static Lib.Math.max.name, Cond.initialized "java/lang/Math", Cond.code Lib.Math.max.name Lib.Math.max.code 2 (some .int), Cond.methodLink RX2 32 yX2_number, Cond.instanceMethod yX2_number, Cond.selects RX2 yX2_number yX2_number, Cond.code yX2_number cX2_number 3 (some .int), Cond.fieldLink RX2 9 "StackedLeaves$Leaves" "numbers" "[I", Cond.methodLink RX3 39 yX2_number, Cond.methodLink RX6 107 yX2_isWhole, Cond.instanceMethod yX2_isWhole, Cond.selects RX2 yX2_isWhole yX2_isWhole, Cond.code yX2_isWhole cX2_isWhole 2 (some .boolean), Cond.fieldLink RX2 19 "StackedLeaves$Leaves" "whole" "I", Cond.methodLink RX6 166 yX3_loadAt, Cond.instanceMethod yX3_loadAt, Cond.selects RX3 yX3_loadAt yX3_loadAt, Cond.code yX3_loadAt cX3_loadAt 4 (some .int), Cond.methodLink RX3 59 Lib.Math.max.name]
def wsX6_knee : List Cond := .code yX6_knee cX6_knee 6 (some .int) :: ((wsX6_knee_r1 ++ wsX6_knee_r2) ++ wsX60 ++ wsX20 ++ wsX30)
def wsX6_fewestThatHold_r1 : List Cond := [Cond.fieldLink RX6 12 "StackedLeaves" "leaves" "LStackedLeaves$Leaves;", Cond.fieldLink RX6 50 "StackedLeaves" "pack" "LStackedLeaves$Pack;", Cond.methodLink RX6 99 yJ6_bitCount_0f7a4, Cond.static yJ6_bitCount_0f7a4, Cond.initialized RJ6, Cond.code yJ6_bitCount_0f7a4 cJ6_bitCount_0f7a4 1 (some .int), Cond.constant RJ6 265 (1431655765), Cond.constant RJ6 266 (858993459), Cond.constant RJ6 267 (252645135), Cond.methodLink RX6 201 yX3_stack, Cond.instanceMethod yX3_stack, Cond.selects RX3 yX3_stack yX3_stack, Cond.initialized RX3, Cond.code yX3_stack cX3_stack 7 none, Cond.fieldLink RX3 27 "StackedLeaves$Pack" "size" "I", Cond.fieldLink RX3 28 "StackedLeaves$Pack" "bearers" "I", Cond.fieldLink RX3 9 "StackedLeaves$Pack" "reach" "[I", Cond.fieldLink RX3 15 "StackedLeaves$Pack" "stiff" "[I", Cond.fieldLink RX3 18 "StackedLeaves$Pack" "strength" "[I", Cond.static yX6_holds, Cond.initialized RX6, Cond.code yX6_holds cX6_holds 2 (some .boolean), Cond.methodLink RX3 35 yX2_nip, Cond.instanceMethod yX2_nip]
def wsX6_fewestThatHold_r2 : List Cond := [Cond.selects RX2 yX2_nip yX2_nip, Cond.initialized RX2, Cond.code yX2_nip cX2_nip 3 (some .int), Cond.methodLink RX2 39 Lib.Math.max.name, Cond.static Lib.Math.max.name, Cond.initialized "java/lang/Math", Cond.code Lib.Math.max.name Lib.Math.max.code 2 (some .int), Cond.methodLink RX2 32 yX2_number, Cond.instanceMethod yX2_number, Cond.selects RX2 yX2_number yX2_number, Cond.code yX2_number cX2_number 3 (some .int), Cond.fieldLink RX2 9 "StackedLeaves$Leaves" "numbers" "[I", Cond.methodLink RX3 39 yX2_number, Cond.methodLink RX6 213 yX3_bearsWithin, Cond.instanceMethod yX3_bearsWithin, Cond.selects RX3 yX3_bearsWithin yX3_bearsWithin, Cond.code yX3_bearsWithin cX3_bearsWithin 3 (some .boolean), Cond.fieldLink RX3 42 "StackedLeaves$Pack" "upper" "I", Cond.fieldLink RX3 45 "StackedLeaves$Pack" "lower" "I", Cond.methodLink RX3 51 yX3_press, Cond.instanceMethod yX3_press, Cond.selects RX3 yX3_press yX3_press, Cond.code yX3_press cX3_press 5 (some .boolean), Cond.fieldLink RX3 48 "StackedLeaves$Pack" "pressedStiff" "I"]
def wsX6_fewestThatHold_r3 : List Cond := [Cond.methodLink RX3 71 yX3_firstToBreak, Cond.instanceMethod yX3_firstToBreak, Cond.selects RX3 yX3_firstToBreak yX3_firstToBreak, Cond.code yX3_firstToBreak cX3_firstToBreak 5 (some .int), Cond.methodLink RX3 68 yX3_excess, Cond.instanceMethod yX3_excess, Cond.selects RX3 yX3_excess yX3_excess, Cond.code yX3_excess cX3_excess 2 (some .int), Cond.methodLink RX3 64 yX3_borne, Cond.instanceMethod yX3_borne, Cond.selects RX3 yX3_borne yX3_borne, Cond.code yX3_borne cX3_borne 2 (some .int), Cond.methodLink RX3 59 Lib.Math.max.name]
def wsX6_fewestThatHold : List Cond := .code yX6_fewestThatHold cX6_fewestThatHold 7 (some .int) :: ((wsX6_fewestThatHold_r1 ++ (wsX6_fewestThatHold_r2 ++ wsX6_fewestThatHold_r3)) ++ wsX60 ++ wsX20 ++ wsX30)
def wsX6_chosen_r1 : List Cond := [Cond.methodLink RX6 85 yX6_isLoad, Cond.static yX6_isLoad, Cond.initialized RX6, Cond.code yX6_isLoad cX6_isLoad 1 (some .boolean), Cond.methodLink RX6 169 yX6_fewestThatHold, Cond.instanceMethod yX6_fewestThatHold, Cond.selects RX6 yX6_fewestThatHold yX6_fewestThatHold, Cond.code yX6_fewestThatHold cX6_fewestThatHold 7 (some .int), Cond.fieldLink RX6 12 "StackedLeaves" "leaves" "LStackedLeaves$Leaves;", Cond.fieldLink RX6 50 "StackedLeaves" "pack" "LStackedLeaves$Pack;", Cond.methodLink RX6 99 yJ6_bitCount_0f7a4, Cond.static yJ6_bitCount_0f7a4, Cond.initialized RJ6, Cond.code yJ6_bitCount_0f7a4 cJ6_bitCount_0f7a4 1 (some .int), Cond.constant RJ6 265 (1431655765), Cond.constant RJ6 266 (858993459), Cond.constant RJ6 267 (252645135), Cond.methodLink RX6 201 yX3_stack, Cond.instanceMethod yX3_stack, Cond.selects RX3 yX3_stack yX3_stack, Cond.initialized RX3, Cond.code yX3_stack cX3_stack 7 none, Cond.fieldLink RX3 27 "StackedLeaves$Pack" "size" "I", Cond.fieldLink RX3 28 "StackedLeaves$Pack" "bearers" "I"]
def wsX6_chosen_r2 : List Cond := [Cond.fieldLink RX3 9 "StackedLeaves$Pack" "reach" "[I", Cond.fieldLink RX3 15 "StackedLeaves$Pack" "stiff" "[I", Cond.fieldLink RX3 18 "StackedLeaves$Pack" "strength" "[I", Cond.static yX6_holds, Cond.code yX6_holds cX6_holds 2 (some .boolean), Cond.methodLink RX3 35 yX2_nip, Cond.instanceMethod yX2_nip, Cond.selects RX2 yX2_nip yX2_nip, Cond.initialized RX2, Cond.code yX2_nip cX2_nip 3 (some .int), Cond.methodLink RX2 39 Lib.Math.max.name, Cond.static Lib.Math.max.name, Cond.initialized "java/lang/Math", Cond.code Lib.Math.max.name Lib.Math.max.code 2 (some .int), Cond.methodLink RX2 32 yX2_number, Cond.instanceMethod yX2_number, Cond.selects RX2 yX2_number yX2_number, Cond.code yX2_number cX2_number 3 (some .int), Cond.fieldLink RX2 9 "StackedLeaves$Leaves" "numbers" "[I", Cond.methodLink RX3 39 yX2_number, Cond.methodLink RX6 213 yX3_bearsWithin, Cond.instanceMethod yX3_bearsWithin, Cond.selects RX3 yX3_bearsWithin yX3_bearsWithin, Cond.code yX3_bearsWithin cX3_bearsWithin 3 (some .boolean)]
def wsX6_chosen_r3 : List Cond := [Cond.fieldLink RX3 42 "StackedLeaves$Pack" "upper" "I", Cond.fieldLink RX3 45 "StackedLeaves$Pack" "lower" "I", Cond.methodLink RX3 51 yX3_press, Cond.instanceMethod yX3_press, Cond.selects RX3 yX3_press yX3_press, Cond.code yX3_press cX3_press 5 (some .boolean), Cond.fieldLink RX3 48 "StackedLeaves$Pack" "pressedStiff" "I", Cond.methodLink RX3 71 yX3_firstToBreak, Cond.instanceMethod yX3_firstToBreak, Cond.selects RX3 yX3_firstToBreak yX3_firstToBreak, Cond.code yX3_firstToBreak cX3_firstToBreak 5 (some .int), Cond.methodLink RX3 68 yX3_excess, Cond.instanceMethod yX3_excess, Cond.selects RX3 yX3_excess yX3_excess, Cond.code yX3_excess cX3_excess 2 (some .int), Cond.methodLink RX3 64 yX3_borne, Cond.instanceMethod yX3_borne, Cond.selects RX3 yX3_borne yX3_borne, Cond.code yX3_borne cX3_borne 2 (some .int), Cond.methodLink RX3 59 Lib.Math.max.name]
def wsX6_chosen : List Cond := .code yX6_chosen cX6_chosen 5 (some .int) :: ((wsX6_chosen_r1 ++ (wsX6_chosen_r2 ++ wsX6_chosen_r3)) ++ wsX60 ++ wsX20 ++ wsX30)
def wsX6_sees : List Cond := .code yX6_sees cX6_sees 3 (some .int) :: ([.fieldLink RX6 43 "StackedLeaves" "sightings" "LStackedLeaves$Sightings;", .methodLink RX6 85 yX6_isLoad, .static yX6_isLoad, .initialized RX6, .code yX6_isLoad cX6_isLoad 1 (some .boolean), .methodLink RX6 172 yX4_append, .instanceMethod yX4_append, .selects RX4 yX4_append yX4_append, .initialized RX4, .code yX4_append cX4_append 3 (some .boolean), .fieldLink RX4 18 "StackedLeaves$Sightings" "size" "I", .fieldLink RX4 9 "StackedLeaves$Sightings" "loads" "[I", .fieldLink RX4 15 "StackedLeaves$Sightings" "bends" "[I"] ++ wsX60 ++ wsX40)
def wsX6_forget : List Cond := .code yX6_forget cX6_forget 1 (some .int) :: ([.fieldLink RX6 43 "StackedLeaves" "sightings" "LStackedLeaves$Sightings;", .methodLink RX6 81 yX4_empty, .instanceMethod yX4_empty, .selects RX4 yX4_empty yX4_empty, .initialized RX4, .code yX4_empty cX4_empty 2 (some .int), .fieldLink RX4 18 "StackedLeaves$Sightings" "size" "I"] ++ wsX60 ++ wsX40)
def wsX6_stackSuspect_r1 : List Cond := [Cond.fieldLink RX6 12 "StackedLeaves" "leaves" "LStackedLeaves$Leaves;", Cond.methodLink RX6 91 yX6_stackAll, Cond.instanceMethod yX6_stackAll, Cond.selects RX6 yX6_stackAll yX6_stackAll, Cond.initialized RX6, Cond.code yX6_stackAll cX6_stackAll 2 none, Cond.fieldLink RX6 50 "StackedLeaves" "pack" "LStackedLeaves$Pack;", Cond.methodLink RX6 201 yX3_stack, Cond.instanceMethod yX3_stack, Cond.selects RX3 yX3_stack yX3_stack, Cond.initialized RX3, Cond.code yX3_stack cX3_stack 7 none, Cond.fieldLink RX3 27 "StackedLeaves$Pack" "size" "I", Cond.fieldLink RX3 28 "StackedLeaves$Pack" "bearers" "I", Cond.fieldLink RX3 9 "StackedLeaves$Pack" "reach" "[I", Cond.fieldLink RX3 15 "StackedLeaves$Pack" "stiff" "[I", Cond.fieldLink RX3 18 "StackedLeaves$Pack" "strength" "[I", Cond.static yX6_holds, Cond.code yX6_holds cX6_holds 2 (some .boolean), Cond.methodLink RX3 35 yX2_nip, Cond.instanceMethod yX2_nip, Cond.selects RX2 yX2_nip yX2_nip, Cond.initialized RX2, Cond.code yX2_nip cX2_nip 3 (some .int)]
def wsX6_stackSuspect_r2 : List Cond := [Cond.methodLink RX2 39 Lib.Math.max.name, Cond.static Lib.Math.max.name, Cond.initialized "java/lang/Math", Cond.code Lib.Math.max.name Lib.Math.max.code 2 (some .int), Cond.methodLink RX2 32 yX2_number, Cond.instanceMethod yX2_number, Cond.selects RX2 yX2_number yX2_number, Cond.code yX2_number cX2_number 3 (some .int), Cond.fieldLink RX2 9 "StackedLeaves$Leaves" "numbers" "[I", Cond.methodLink RX3 39 yX2_number]
def wsX6_stackSuspect : List Cond := .code yX6_stackSuspect cX6_stackSuspect 3 none :: ((wsX6_stackSuspect_r1 ++ wsX6_stackSuspect_r2) ++ wsX60 ++ wsX20 ++ wsX30)
def wsX6_suspects_r1 : List Cond := [Cond.fieldLink RX6 12 "StackedLeaves" "leaves" "LStackedLeaves$Leaves;", Cond.fieldLink RX6 43 "StackedLeaves" "sightings" "LStackedLeaves$Sightings;", Cond.fieldLink RX6 50 "StackedLeaves" "pack" "LStackedLeaves$Pack;", Cond.methodLink RX6 107 yX2_isWhole, Cond.instanceMethod yX2_isWhole, Cond.selects RX2 yX2_isWhole yX2_isWhole, Cond.initialized RX2, Cond.code yX2_isWhole cX2_isWhole 2 (some .boolean), Cond.fieldLink RX2 19 "StackedLeaves$Leaves" "whole" "I", Cond.static yX6_holds, Cond.initialized RX6, Cond.code yX6_holds cX6_holds 2 (some .boolean), Cond.methodLink RX6 216 yX6_stackSuspect, Cond.instanceMethod yX6_stackSuspect, Cond.selects RX6 yX6_stackSuspect yX6_stackSuspect, Cond.code yX6_stackSuspect cX6_stackSuspect 3 none, Cond.methodLink RX6 91 yX6_stackAll, Cond.instanceMethod yX6_stackAll, Cond.selects RX6 yX6_stackAll yX6_stackAll, Cond.code yX6_stackAll cX6_stackAll 2 none, Cond.methodLink RX6 201 yX3_stack, Cond.instanceMethod yX3_stack, Cond.selects RX3 yX3_stack yX3_stack, Cond.initialized RX3]
def wsX6_suspects_r2 : List Cond := [Cond.code yX3_stack cX3_stack 7 none, Cond.fieldLink RX3 27 "StackedLeaves$Pack" "size" "I", Cond.fieldLink RX3 28 "StackedLeaves$Pack" "bearers" "I", Cond.fieldLink RX3 9 "StackedLeaves$Pack" "reach" "[I", Cond.fieldLink RX3 15 "StackedLeaves$Pack" "stiff" "[I", Cond.fieldLink RX3 18 "StackedLeaves$Pack" "strength" "[I", Cond.methodLink RX3 35 yX2_nip, Cond.instanceMethod yX2_nip, Cond.selects RX2 yX2_nip yX2_nip, Cond.code yX2_nip cX2_nip 3 (some .int), Cond.methodLink RX2 39 Lib.Math.max.name, Cond.static Lib.Math.max.name, Cond.initialized "java/lang/Math", Cond.code Lib.Math.max.name Lib.Math.max.code 2 (some .int), Cond.methodLink RX2 32 yX2_number, Cond.instanceMethod yX2_number, Cond.selects RX2 yX2_number yX2_number, Cond.code yX2_number cX2_number 3 (some .int), Cond.fieldLink RX2 9 "StackedLeaves$Leaves" "numbers" "[I", Cond.methodLink RX3 39 yX2_number, Cond.methodLink RX6 219 yX4_agreeWith, Cond.instanceMethod yX4_agreeWith, Cond.selects RX4 yX4_agreeWith yX4_agreeWith, Cond.initialized RX4]
def wsX6_suspects_r3 : List Cond := [Cond.code yX4_agreeWith cX4_agreeWith 3 (some .boolean), Cond.fieldLink RX4 18 "StackedLeaves$Sightings" "size" "I", Cond.fieldLink RX4 9 "StackedLeaves$Sightings" "loads" "[I", Cond.fieldLink RX4 15 "StackedLeaves$Sightings" "bends" "[I", Cond.methodLink RX4 22 yX3_cutBy, Cond.instanceMethod yX3_cutBy, Cond.selects RX3 yX3_cutBy yX3_cutBy, Cond.code yX3_cutBy cX3_cutBy 2 (some .int), Cond.methodLink RX3 51 yX3_press, Cond.instanceMethod yX3_press, Cond.selects RX3 yX3_press yX3_press, Cond.code yX3_press cX3_press 5 (some .boolean), Cond.fieldLink RX3 42 "StackedLeaves$Pack" "upper" "I", Cond.fieldLink RX3 45 "StackedLeaves$Pack" "lower" "I", Cond.fieldLink RX3 48 "StackedLeaves$Pack" "pressedStiff" "I", Cond.methodLink RX3 55 yX3_cut, Cond.instanceMethod yX3_cut, Cond.selects RX3 yX3_cut yX3_cut, Cond.code yX3_cut cX3_cut 1 (some .int)]
def wsX6_suspects : List Cond := .code yX6_suspects cX6_suspects 3 (some .int) :: ((wsX6_suspects_r1 ++ (wsX6_suspects_r2 ++ wsX6_suspects_r3)) ++ wsX60 ++ wsX20 ++ wsX30 ++ wsX40)
def wsX6_which_r1 : List Cond := [Cond.constant RX6 176 (-1000000), Cond.fieldLink RX6 12 "StackedLeaves" "leaves" "LStackedLeaves$Leaves;", Cond.constant RX6 183 (-2000000), Cond.methodLink RX6 177 yX6_suspects, Cond.instanceMethod yX6_suspects, Cond.selects RX6 yX6_suspects yX6_suspects, Cond.initialized RX6, Cond.code yX6_suspects cX6_suspects 3 (some .int), Cond.fieldLink RX6 43 "StackedLeaves" "sightings" "LStackedLeaves$Sightings;", Cond.fieldLink RX6 50 "StackedLeaves" "pack" "LStackedLeaves$Pack;", Cond.methodLink RX6 107 yX2_isWhole, Cond.instanceMethod yX2_isWhole, Cond.selects RX2 yX2_isWhole yX2_isWhole, Cond.initialized RX2, Cond.code yX2_isWhole cX2_isWhole 2 (some .boolean), Cond.fieldLink RX2 19 "StackedLeaves$Leaves" "whole" "I", Cond.static yX6_holds, Cond.code yX6_holds cX6_holds 2 (some .boolean), Cond.methodLink RX6 216 yX6_stackSuspect, Cond.instanceMethod yX6_stackSuspect, Cond.selects RX6 yX6_stackSuspect yX6_stackSuspect, Cond.code yX6_stackSuspect cX6_stackSuspect 3 none, Cond.methodLink RX6 91 yX6_stackAll, Cond.instanceMethod yX6_stackAll]
def wsX6_which_r2 : List Cond := [Cond.selects RX6 yX6_stackAll yX6_stackAll, Cond.code yX6_stackAll cX6_stackAll 2 none, Cond.methodLink RX6 201 yX3_stack, Cond.instanceMethod yX3_stack, Cond.selects RX3 yX3_stack yX3_stack, Cond.initialized RX3, Cond.code yX3_stack cX3_stack 7 none, Cond.fieldLink RX3 27 "StackedLeaves$Pack" "size" "I", Cond.fieldLink RX3 28 "StackedLeaves$Pack" "bearers" "I", Cond.fieldLink RX3 9 "StackedLeaves$Pack" "reach" "[I", Cond.fieldLink RX3 15 "StackedLeaves$Pack" "stiff" "[I", Cond.fieldLink RX3 18 "StackedLeaves$Pack" "strength" "[I", Cond.methodLink RX3 35 yX2_nip, Cond.instanceMethod yX2_nip, Cond.selects RX2 yX2_nip yX2_nip, Cond.code yX2_nip cX2_nip 3 (some .int), Cond.methodLink RX2 39 Lib.Math.max.name, Cond.static Lib.Math.max.name, Cond.initialized "java/lang/Math", Cond.code Lib.Math.max.name Lib.Math.max.code 2 (some .int), Cond.methodLink RX2 32 yX2_number, Cond.instanceMethod yX2_number, Cond.selects RX2 yX2_number yX2_number, Cond.code yX2_number cX2_number 3 (some .int)]
def wsX6_which_r3 : List Cond := [Cond.fieldLink RX2 9 "StackedLeaves$Leaves" "numbers" "[I", Cond.methodLink RX3 39 yX2_number, Cond.methodLink RX6 219 yX4_agreeWith, Cond.instanceMethod yX4_agreeWith, Cond.selects RX4 yX4_agreeWith yX4_agreeWith, Cond.initialized RX4, Cond.code yX4_agreeWith cX4_agreeWith 3 (some .boolean), Cond.fieldLink RX4 18 "StackedLeaves$Sightings" "size" "I", Cond.fieldLink RX4 9 "StackedLeaves$Sightings" "loads" "[I", Cond.fieldLink RX4 15 "StackedLeaves$Sightings" "bends" "[I", Cond.methodLink RX4 22 yX3_cutBy, Cond.instanceMethod yX3_cutBy, Cond.selects RX3 yX3_cutBy yX3_cutBy, Cond.code yX3_cutBy cX3_cutBy 2 (some .int), Cond.methodLink RX3 51 yX3_press, Cond.instanceMethod yX3_press, Cond.selects RX3 yX3_press yX3_press, Cond.code yX3_press cX3_press 5 (some .boolean), Cond.fieldLink RX3 42 "StackedLeaves$Pack" "upper" "I", Cond.fieldLink RX3 45 "StackedLeaves$Pack" "lower" "I", Cond.fieldLink RX3 48 "StackedLeaves$Pack" "pressedStiff" "I", Cond.methodLink RX3 55 yX3_cut, Cond.instanceMethod yX3_cut, Cond.selects RX3 yX3_cut yX3_cut]
def wsX6_which_r4 : List Cond := [Cond.code yX3_cut cX3_cut 1 (some .int), Cond.methodLink RX6 99 yJ6_bitCount_0f7a4, Cond.static yJ6_bitCount_0f7a4, Cond.initialized RJ6, Cond.code yJ6_bitCount_0f7a4 cJ6_bitCount_0f7a4 1 (some .int), Cond.constant RJ6 265 (1431655765), Cond.constant RJ6 266 (858993459), Cond.constant RJ6 267 (252645135), Cond.methodLink RX6 180 yX6_holds]
def wsX6_which : List Cond := .code yX6_which cX6_which 4 (some .int) :: ((wsX6_which_r1 ++ (wsX6_which_r2 ++ (wsX6_which_r3 ++ wsX6_which_r4))) ++ wsX60 ++ wsX20 ++ wsX30 ++ wsX40)
def wsX6_alikeUpTo : List Cond := .code yX6_alikeUpTo cX6_alikeUpTo 5 (some .int) :: ([.fieldLink RX6 54 "StackedLeaves" "cuts" "[I", .methodLink RX6 180 yX6_holds, .static yX6_holds, .initialized RX6, .code yX6_holds cX6_holds 2 (some .boolean)] ++ wsX60)
def wsX6_mostAlike_r1 : List Cond := [Cond.fieldLink RX6 12 "StackedLeaves" "leaves" "LStackedLeaves$Leaves;", Cond.fieldLink RX6 54 "StackedLeaves" "cuts" "[I", Cond.fieldLink RX6 50 "StackedLeaves" "pack" "LStackedLeaves$Pack;", Cond.methodLink RX6 208 Lib.Math.max.name, Cond.static Lib.Math.max.name, Cond.initialized "java/lang/Math", Cond.code Lib.Math.max.name Lib.Math.max.code 2 (some .int), Cond.methodLink RX6 180 yX6_holds, Cond.static yX6_holds, Cond.initialized RX6, Cond.code yX6_holds cX6_holds 2 (some .boolean), Cond.methodLink RX6 216 yX6_stackSuspect, Cond.instanceMethod yX6_stackSuspect, Cond.selects RX6 yX6_stackSuspect yX6_stackSuspect, Cond.code yX6_stackSuspect cX6_stackSuspect 3 none, Cond.methodLink RX6 91 yX6_stackAll, Cond.instanceMethod yX6_stackAll, Cond.selects RX6 yX6_stackAll yX6_stackAll, Cond.code yX6_stackAll cX6_stackAll 2 none, Cond.methodLink RX6 201 yX3_stack, Cond.instanceMethod yX3_stack, Cond.selects RX3 yX3_stack yX3_stack, Cond.initialized RX3, Cond.code yX3_stack cX3_stack 7 none]
def wsX6_mostAlike_r2 : List Cond := [Cond.fieldLink RX3 27 "StackedLeaves$Pack" "size" "I", Cond.fieldLink RX3 28 "StackedLeaves$Pack" "bearers" "I", Cond.fieldLink RX3 9 "StackedLeaves$Pack" "reach" "[I", Cond.fieldLink RX3 15 "StackedLeaves$Pack" "stiff" "[I", Cond.fieldLink RX3 18 "StackedLeaves$Pack" "strength" "[I", Cond.methodLink RX3 35 yX2_nip, Cond.instanceMethod yX2_nip, Cond.selects RX2 yX2_nip yX2_nip, Cond.initialized RX2, Cond.code yX2_nip cX2_nip 3 (some .int), Cond.methodLink RX2 39 Lib.Math.max.name, Cond.methodLink RX2 32 yX2_number, Cond.instanceMethod yX2_number, Cond.selects RX2 yX2_number yX2_number, Cond.code yX2_number cX2_number 3 (some .int), Cond.fieldLink RX2 9 "StackedLeaves$Leaves" "numbers" "[I", Cond.methodLink RX3 39 yX2_number, Cond.methodLink RX6 223 yX3_cutBy, Cond.instanceMethod yX3_cutBy, Cond.selects RX3 yX3_cutBy yX3_cutBy, Cond.code yX3_cutBy cX3_cutBy 2 (some .int), Cond.methodLink RX3 51 yX3_press, Cond.instanceMethod yX3_press, Cond.selects RX3 yX3_press yX3_press]
def wsX6_mostAlike_r3 : List Cond := [Cond.code yX3_press cX3_press 5 (some .boolean), Cond.fieldLink RX3 42 "StackedLeaves$Pack" "upper" "I", Cond.fieldLink RX3 45 "StackedLeaves$Pack" "lower" "I", Cond.fieldLink RX3 48 "StackedLeaves$Pack" "pressedStiff" "I", Cond.methodLink RX3 55 yX3_cut, Cond.instanceMethod yX3_cut, Cond.selects RX3 yX3_cut yX3_cut, Cond.code yX3_cut cX3_cut 1 (some .int), Cond.methodLink RX6 226 yX6_alikeUpTo, Cond.instanceMethod yX6_alikeUpTo, Cond.selects RX6 yX6_alikeUpTo yX6_alikeUpTo, Cond.code yX6_alikeUpTo cX6_alikeUpTo 5 (some .int)]
def wsX6_mostAlike : List Cond := .code yX6_mostAlike cX6_mostAlike 5 (some .int) :: ((wsX6_mostAlike_r1 ++ (wsX6_mostAlike_r2 ++ wsX6_mostAlike_r3)) ++ wsX60 ++ wsX20 ++ wsX30)
def wsX6_ask_r1 : List Cond := [Cond.methodLink RX6 177 yX6_suspects, Cond.instanceMethod yX6_suspects, Cond.selects RX6 yX6_suspects yX6_suspects, Cond.initialized RX6, Cond.code yX6_suspects cX6_suspects 3 (some .int), Cond.fieldLink RX6 12 "StackedLeaves" "leaves" "LStackedLeaves$Leaves;", Cond.fieldLink RX6 43 "StackedLeaves" "sightings" "LStackedLeaves$Sightings;", Cond.fieldLink RX6 50 "StackedLeaves" "pack" "LStackedLeaves$Pack;", Cond.methodLink RX6 107 yX2_isWhole, Cond.instanceMethod yX2_isWhole, Cond.selects RX2 yX2_isWhole yX2_isWhole, Cond.initialized RX2, Cond.code yX2_isWhole cX2_isWhole 2 (some .boolean), Cond.fieldLink RX2 19 "StackedLeaves$Leaves" "whole" "I", Cond.static yX6_holds, Cond.code yX6_holds cX6_holds 2 (some .boolean), Cond.methodLink RX6 216 yX6_stackSuspect, Cond.instanceMethod yX6_stackSuspect, Cond.selects RX6 yX6_stackSuspect yX6_stackSuspect, Cond.code yX6_stackSuspect cX6_stackSuspect 3 none, Cond.methodLink RX6 91 yX6_stackAll, Cond.instanceMethod yX6_stackAll, Cond.selects RX6 yX6_stackAll yX6_stackAll, Cond.code yX6_stackAll cX6_stackAll 2 none]
def wsX6_ask_r2 : List Cond := [Cond.methodLink RX6 201 yX3_stack, Cond.instanceMethod yX3_stack, Cond.selects RX3 yX3_stack yX3_stack, Cond.initialized RX3, Cond.code yX3_stack cX3_stack 7 none, Cond.fieldLink RX3 27 "StackedLeaves$Pack" "size" "I", Cond.fieldLink RX3 28 "StackedLeaves$Pack" "bearers" "I", Cond.fieldLink RX3 9 "StackedLeaves$Pack" "reach" "[I", Cond.fieldLink RX3 15 "StackedLeaves$Pack" "stiff" "[I", Cond.fieldLink RX3 18 "StackedLeaves$Pack" "strength" "[I", Cond.methodLink RX3 35 yX2_nip, Cond.instanceMethod yX2_nip, Cond.selects RX2 yX2_nip yX2_nip, Cond.code yX2_nip cX2_nip 3 (some .int), Cond.methodLink RX2 39 Lib.Math.max.name, Cond.static Lib.Math.max.name, Cond.initialized "java/lang/Math", Cond.code Lib.Math.max.name Lib.Math.max.code 2 (some .int), Cond.methodLink RX2 32 yX2_number, Cond.instanceMethod yX2_number, Cond.selects RX2 yX2_number yX2_number, Cond.code yX2_number cX2_number 3 (some .int), Cond.fieldLink RX2 9 "StackedLeaves$Leaves" "numbers" "[I", Cond.methodLink RX3 39 yX2_number]
def wsX6_ask_r3 : List Cond := [Cond.methodLink RX6 219 yX4_agreeWith, Cond.instanceMethod yX4_agreeWith, Cond.selects RX4 yX4_agreeWith yX4_agreeWith, Cond.initialized RX4, Cond.code yX4_agreeWith cX4_agreeWith 3 (some .boolean), Cond.fieldLink RX4 18 "StackedLeaves$Sightings" "size" "I", Cond.fieldLink RX4 9 "StackedLeaves$Sightings" "loads" "[I", Cond.fieldLink RX4 15 "StackedLeaves$Sightings" "bends" "[I", Cond.methodLink RX4 22 yX3_cutBy, Cond.instanceMethod yX3_cutBy, Cond.selects RX3 yX3_cutBy yX3_cutBy, Cond.code yX3_cutBy cX3_cutBy 2 (some .int), Cond.methodLink RX3 51 yX3_press, Cond.instanceMethod yX3_press, Cond.selects RX3 yX3_press yX3_press, Cond.code yX3_press cX3_press 5 (some .boolean), Cond.fieldLink RX3 42 "StackedLeaves$Pack" "upper" "I", Cond.fieldLink RX3 45 "StackedLeaves$Pack" "lower" "I", Cond.fieldLink RX3 48 "StackedLeaves$Pack" "pressedStiff" "I", Cond.methodLink RX3 55 yX3_cut, Cond.instanceMethod yX3_cut, Cond.selects RX3 yX3_cut yX3_cut, Cond.code yX3_cut cX3_cut 1 (some .int), Cond.methodLink RX6 99 yJ6_bitCount_0f7a4]
def wsX6_ask_r4 : List Cond := [Cond.static yJ6_bitCount_0f7a4, Cond.initialized RJ6, Cond.code yJ6_bitCount_0f7a4 cJ6_bitCount_0f7a4 1 (some .int), Cond.constant RJ6 265 (1431655765), Cond.constant RJ6 266 (858993459), Cond.constant RJ6 267 (252645135), Cond.methodLink RX6 184 yX6_mostAlike, Cond.instanceMethod yX6_mostAlike, Cond.selects RX6 yX6_mostAlike yX6_mostAlike, Cond.code yX6_mostAlike cX6_mostAlike 5 (some .int), Cond.fieldLink RX6 54 "StackedLeaves" "cuts" "[I", Cond.methodLink RX6 208 Lib.Math.max.name, Cond.methodLink RX6 180 yX6_holds, Cond.methodLink RX6 223 yX3_cutBy, Cond.methodLink RX6 226 yX6_alikeUpTo, Cond.instanceMethod yX6_alikeUpTo, Cond.selects RX6 yX6_alikeUpTo yX6_alikeUpTo, Cond.code yX6_alikeUpTo cX6_alikeUpTo 5 (some .int)]
def wsX6_ask : List Cond := .code yX6_ask cX6_ask 6 (some .int) :: ((wsX6_ask_r1 ++ (wsX6_ask_r2 ++ (wsX6_ask_r3 ++ wsX6_ask_r4))) ++ wsX60 ++ wsX20 ++ wsX30 ++ wsX40)
def wsX6_keep : List Cond := .code yX6_keep cX6_keep 2 (some .int) :: ([.fieldLink RX6 36 "StackedLeaves" "images" "LStackedLeaves$Images;", .fieldLink RX6 12 "StackedLeaves" "leaves" "LStackedLeaves$Leaves;", .methodLink RX6 187 yX1_put, .instanceMethod yX1_put, .selects RX1 yX1_put yX1_put, .initialized RX1, .code yX1_put cX1_put 3 none, .fieldLink RX1 11 "StackedLeaves$Images" "images" "[LStackedLeaves$Leaves;", .fieldLink RX1 22 "StackedLeaves$Images" "kept" "I", .methodLink RX1 18 yX2_become, .instanceMethod yX2_become, .selects RX2 yX2_become yX2_become, .initialized RX2, .code yX2_become cX2_become 2 none, .fieldLink RX2 9 "StackedLeaves$Leaves" "numbers" "[I", .methodLink RX2 22 arraycopyName, .native arraycopyName, .static arraycopyName, .initialized "java/lang/System", .fieldLink RX2 15 "StackedLeaves$Leaves" "size" "I", .fieldLink RX2 19 "StackedLeaves$Leaves" "whole" "I"] ++ wsX60 ++ wsX20 ++ wsX10)
def wsX6_back_r1 : List Cond := [Cond.fieldLink RX6 36 "StackedLeaves" "images" "LStackedLeaves$Images;", Cond.fieldLink RX6 12 "StackedLeaves" "leaves" "LStackedLeaves$Leaves;", Cond.fieldLink RX6 29 "StackedLeaves" "history" "LStackedLeaves$History;", Cond.methodLink RX6 190 yX1_getInto, Cond.instanceMethod yX1_getInto, Cond.selects RX1 yX1_getInto yX1_getInto, Cond.initialized RX1, Cond.code yX1_getInto cX1_getInto 3 (some .boolean), Cond.fieldLink RX1 22 "StackedLeaves$Images" "kept" "I", Cond.fieldLink RX1 11 "StackedLeaves$Images" "images" "[LStackedLeaves$Leaves;", Cond.static yX6_holds, Cond.initialized RX6, Cond.code yX6_holds cX6_holds 2 (some .boolean), Cond.methodLink RX1 18 yX2_become, Cond.instanceMethod yX2_become, Cond.selects RX2 yX2_become yX2_become, Cond.initialized RX2, Cond.code yX2_become cX2_become 2 none, Cond.fieldLink RX2 9 "StackedLeaves$Leaves" "numbers" "[I", Cond.methodLink RX2 22 arraycopyName, Cond.native arraycopyName, Cond.static arraycopyName, Cond.initialized "java/lang/System", Cond.fieldLink RX2 15 "StackedLeaves$Leaves" "size" "I"]
def wsX6_back_r2 : List Cond := [Cond.fieldLink RX2 19 "StackedLeaves$Leaves" "whole" "I", Cond.methodLink RX6 194 yX0_empty, Cond.instanceMethod yX0_empty, Cond.selects RX0 yX0_empty yX0_empty, Cond.initialized RX0, Cond.code yX0_empty cX0_empty 1 none, Cond.fieldLink RX0 26 "StackedLeaves$History" "size" "I"]
def wsX6_back : List Cond := .code yX6_back cX6_back 2 (some .int) :: ((wsX6_back_r1 ++ wsX6_back_r2) ++ wsX60 ++ wsX20 ++ wsX10 ++ wsX00)
def wsX6_count_r1 : List Cond := [Cond.fieldLink RX6 12 "StackedLeaves" "leaves" "LStackedLeaves$Leaves;", Cond.fieldLink RX6 43 "StackedLeaves" "sightings" "LStackedLeaves$Sightings;", Cond.fieldLink RX6 22 "StackedLeaves" "text" "LStackedLeaves$Text;", Cond.fieldLink RX6 29 "StackedLeaves" "history" "LStackedLeaves$History;", Cond.methodLink RX6 99 yJ6_bitCount_0f7a4, Cond.static yJ6_bitCount_0f7a4, Cond.initialized RJ6, Cond.code yJ6_bitCount_0f7a4 cJ6_bitCount_0f7a4 1 (some .int), Cond.constant RJ6 265 (1431655765), Cond.constant RJ6 266 (858993459), Cond.constant RJ6 267 (252645135), Cond.methodLink RX6 195 yX2_sum, Cond.instanceMethod yX2_sum, Cond.selects RX2 yX2_sum yX2_sum, Cond.initialized RX2, Cond.code yX2_sum cX2_sum 5 (some .int), Cond.fieldLink RX2 15 "StackedLeaves$Leaves" "size" "I", Cond.static yX6_holds, Cond.initialized RX6, Cond.code yX6_holds cX6_holds 2 (some .boolean), Cond.methodLink RX2 32 yX2_number, Cond.instanceMethod yX2_number, Cond.selects RX2 yX2_number yX2_number, Cond.code yX2_number cX2_number 3 (some .int)]
def wsX6_count_r2 : List Cond := [Cond.fieldLink RX2 9 "StackedLeaves$Leaves" "numbers" "[I", Cond.methodLink RX6 198 yX6_leaf, Cond.instanceMethod yX6_leaf, Cond.selects RX6 yX6_leaf yX6_leaf, Cond.code yX6_leaf cX6_leaf 3 (some .int), Cond.fieldLink RX6 50 "StackedLeaves" "pack" "LStackedLeaves$Pack;", Cond.methodLink RX6 104 yX2_exists, Cond.instanceMethod yX2_exists, Cond.selects RX2 yX2_exists yX2_exists, Cond.code yX2_exists cX2_exists 2 (some .boolean), Cond.methodLink RX6 116 yX2_number, Cond.methodLink RX6 107 yX2_isWhole, Cond.instanceMethod yX2_isWhole, Cond.selects RX2 yX2_isWhole yX2_isWhole, Cond.code yX2_isWhole cX2_isWhole 2 (some .boolean), Cond.fieldLink RX2 19 "StackedLeaves$Leaves" "whole" "I", Cond.methodLink RX6 129 yX2_nip, Cond.instanceMethod yX2_nip, Cond.selects RX2 yX2_nip yX2_nip, Cond.code yX2_nip cX2_nip 3 (some .int), Cond.methodLink RX2 39 Lib.Math.max.name, Cond.static Lib.Math.max.name, Cond.initialized "java/lang/Math", Cond.code Lib.Math.max.name Lib.Math.max.code 2 (some .int)]
def wsX6_count_r3 : List Cond := [Cond.methodLink RX6 91 yX6_stackAll, Cond.instanceMethod yX6_stackAll, Cond.selects RX6 yX6_stackAll yX6_stackAll, Cond.code yX6_stackAll cX6_stackAll 2 none, Cond.methodLink RX6 201 yX3_stack, Cond.instanceMethod yX3_stack, Cond.selects RX3 yX3_stack yX3_stack, Cond.initialized RX3, Cond.code yX3_stack cX3_stack 7 none, Cond.fieldLink RX3 27 "StackedLeaves$Pack" "size" "I", Cond.fieldLink RX3 28 "StackedLeaves$Pack" "bearers" "I", Cond.fieldLink RX3 9 "StackedLeaves$Pack" "reach" "[I", Cond.fieldLink RX3 15 "StackedLeaves$Pack" "stiff" "[I", Cond.fieldLink RX3 18 "StackedLeaves$Pack" "strength" "[I", Cond.methodLink RX3 35 yX2_nip, Cond.methodLink RX3 39 yX2_number]
def wsX6_count : List Cond := .code yX6_count cX6_count 2 (some .int) :: ((wsX6_count_r1 ++ (wsX6_count_r2 ++ wsX6_count_r3)) ++ wsX60 ++ wsX20 ++ wsX40 ++ wsX50 ++ wsX00 ++ wsX30)
def wsX7_init : List Cond := .code yX7_init cX7_init 1 none :: ([.methodLink RX7 1 objectInit, .instanceMethod objectInit, .code objectInit ⟨#[0xb1]⟩ 1 none, .arrayClass .int, .fieldLink RX7 7 "StackedLeavesModel" "now" "[I", .fieldLink RX7 13 "StackedLeavesModel" "draft" "[I", .fieldLink RX7 16 "StackedLeavesModel" "past" "[I", .fieldLink RX7 19 "StackedLeavesModel" "images" "[I", .arrayClass .boolean, .fieldLink RX7 22 "StackedLeavesModel" "kept" "[Z", .fieldLink RX7 26 "StackedLeavesModel" "factLoad" "[I", .fieldLink RX7 29 "StackedLeavesModel" "factBend" "[I", .fieldLink RX7 32 "StackedLeavesModel" "text" "[I", .fieldLink RX7 35 "StackedLeavesModel" "nip" "[I", .fieldLink RX7 38 "StackedLeavesModel" "reach" "[I", .fieldLink RX7 41 "StackedLeavesModel" "may" "[Z", .fieldLink RX7 44 "StackedLeavesModel" "bend" "[I"] ++ wsX70)
def wsX7_in : List Cond := .code yX7_in cX7_in 3 (some .boolean) :: ([])
def wsX7_has : List Cond := .code yX7_has cX7_has 2 (some .boolean) :: ([])
def wsX7_isLeaf : List Cond := .code yX7_isLeaf cX7_isLeaf 2 (some .boolean) :: ([.fieldLink RX7 7 "StackedLeavesModel" "now" "[I", .methodLink RX7 47 yX7_in, .static yX7_in, .initialized RX7, .code yX7_in cX7_in 3 (some .boolean)] ++ wsX70)
def wsX7_of : List Cond := .code yX7_of cX7_of 3 (some .int) :: ([.fieldLink RX7 7 "StackedLeavesModel" "now" "[I"] ++ wsX70)
def wsX7_isWhole : List Cond := .code yX7_isWhole cX7_isWhole 2 (some .boolean) :: ([.methodLink RX7 51 yX7_of, .instanceMethod yX7_of, .selects RX7 yX7_of yX7_of, .initialized RX7, .code yX7_of cX7_of 3 (some .int), .fieldLink RX7 7 "StackedLeavesModel" "now" "[I"] ++ wsX70)
def wsX7_all : List Cond := .code yX7_all cX7_all 1 (some .int) :: ([.fieldLink RX7 7 "StackedLeavesModel" "now" "[I"] ++ wsX70)
def wsX7_whole : List Cond := .code yX7_whole cX7_whole 3 (some .int) :: ([.fieldLink RX7 7 "StackedLeavesModel" "now" "[I", .methodLink RX7 55 yX7_isWhole, .instanceMethod yX7_isWhole, .selects RX7 yX7_isWhole yX7_isWhole, .initialized RX7, .code yX7_isWhole cX7_isWhole 2 (some .boolean), .methodLink RX7 51 yX7_of, .instanceMethod yX7_of, .selects RX7 yX7_of yX7_of, .code yX7_of cX7_of 3 (some .int)] ++ wsX70)
def wsX7_ones : List Cond := .code yX7_ones cX7_ones 3 (some .int) :: ([.methodLink RX7 59 yX7_has, .static yX7_has, .initialized RX7, .code yX7_has cX7_has 2 (some .boolean)])
def wsX7_type : List Cond := .code yX7_type cX7_type 2 (some .int) :: ([.fieldLink RX7 63 "StackedLeavesModel" "typed" "I", .fieldLink RX7 32 "StackedLeavesModel" "text" "[I", .methodLink RX7 47 yX7_in, .static yX7_in, .initialized RX7, .code yX7_in cX7_in 3 (some .boolean)] ++ wsX70)
def wsX7_clear : List Cond := .code yX7_clear cX7_clear 2 (some .int) :: ([.fieldLink RX7 63 "StackedLeavesModel" "typed" "I"] ++ wsX70)
def wsX7_letterAt : List Cond := .code yX7_letterAt cX7_letterAt 2 (some .int) :: ([.fieldLink RX7 63 "StackedLeavesModel" "typed" "I", .fieldLink RX7 32 "StackedLeavesModel" "text" "[I"] ++ wsX70)
def wsX7_isFigure : List Cond := .code yX7_isFigure cX7_isFigure 1 (some .boolean) :: ([.methodLink RX7 47 yX7_in, .static yX7_in, .initialized RX7, .code yX7_in cX7_in 3 (some .boolean)])
def wsX7_token : List Cond := .code yX7_token cX7_token 2 none :: ([.fieldLink RX7 67 "StackedLeavesModel" "at" "I", .fieldLink RX7 74 "StackedLeavesModel" "start" "I", .fieldLink RX7 80 "StackedLeavesModel" "sort" "I", .fieldLink RX7 83 "StackedLeavesModel" "value" "I", .fieldLink RX7 32 "StackedLeavesModel" "text" "[I", .methodLink RX7 70 yX7_letterAt, .instanceMethod yX7_letterAt, .selects RX7 yX7_letterAt yX7_letterAt, .initialized RX7, .code yX7_letterAt cX7_letterAt 2 (some .int), .fieldLink RX7 63 "StackedLeavesModel" "typed" "I", .methodLink RX7 77 yX7_isFigure, .static yX7_isFigure, .code yX7_isFigure cX7_isFigure 1 (some .boolean), .methodLink RX7 47 yX7_in, .static yX7_in, .code yX7_in cX7_in 3 (some .boolean)] ++ wsX70)
def wsX7_number : List Cond := .code yX7_number cX7_number 4 (some .boolean) :: ([.fieldLink RX7 13 "StackedLeavesModel" "draft" "[I", .fieldLink RX7 83 "StackedLeavesModel" "value" "I", .fieldLink RX7 80 "StackedLeavesModel" "sort" "I", .methodLink RX7 86 yX7_token, .instanceMethod yX7_token, .selects RX7 yX7_token yX7_token, .initialized RX7, .code yX7_token cX7_token 2 none, .fieldLink RX7 67 "StackedLeavesModel" "at" "I", .fieldLink RX7 74 "StackedLeavesModel" "start" "I", .fieldLink RX7 32 "StackedLeavesModel" "text" "[I", .methodLink RX7 70 yX7_letterAt, .instanceMethod yX7_letterAt, .selects RX7 yX7_letterAt yX7_letterAt, .code yX7_letterAt cX7_letterAt 2 (some .int), .fieldLink RX7 63 "StackedLeavesModel" "typed" "I", .methodLink RX7 77 yX7_isFigure, .static yX7_isFigure, .code yX7_isFigure cX7_isFigure 1 (some .boolean), .methodLink RX7 47 yX7_in, .static yX7_in, .code yX7_in cX7_in 3 (some .boolean)] ++ wsX70)
def wsX7_readsLeaf_r1 : List Cond := [Cond.fieldLink RX7 13 "StackedLeavesModel" "draft" "[I", Cond.fieldLink RX7 80 "StackedLeavesModel" "sort" "I", Cond.methodLink RX7 89 yX7_number, Cond.instanceMethod yX7_number, Cond.selects RX7 yX7_number yX7_number, Cond.initialized RX7, Cond.code yX7_number cX7_number 4 (some .boolean), Cond.fieldLink RX7 83 "StackedLeavesModel" "value" "I", Cond.methodLink RX7 86 yX7_token, Cond.instanceMethod yX7_token, Cond.selects RX7 yX7_token yX7_token, Cond.code yX7_token cX7_token 2 none, Cond.fieldLink RX7 67 "StackedLeavesModel" "at" "I", Cond.fieldLink RX7 74 "StackedLeavesModel" "start" "I", Cond.fieldLink RX7 32 "StackedLeavesModel" "text" "[I", Cond.methodLink RX7 70 yX7_letterAt, Cond.instanceMethod yX7_letterAt, Cond.selects RX7 yX7_letterAt yX7_letterAt, Cond.code yX7_letterAt cX7_letterAt 2 (some .int), Cond.fieldLink RX7 63 "StackedLeavesModel" "typed" "I", Cond.methodLink RX7 77 yX7_isFigure, Cond.static yX7_isFigure, Cond.code yX7_isFigure cX7_isFigure 1 (some .boolean), Cond.methodLink RX7 47 yX7_in]
def wsX7_readsLeaf_r2 : List Cond := [Cond.static yX7_in, Cond.code yX7_in cX7_in 3 (some .boolean)]
def wsX7_readsLeaf : List Cond := .code yX7_readsLeaf cX7_readsLeaf 4 (some .boolean) :: ((wsX7_readsLeaf_r1 ++ wsX7_readsLeaf_r2) ++ wsX70)
def wsX7_reads_r1 : List Cond := [Cond.fieldLink RX7 13 "StackedLeavesModel" "draft" "[I", Cond.fieldLink RX7 67 "StackedLeavesModel" "at" "I", Cond.fieldLink RX7 80 "StackedLeavesModel" "sort" "I", Cond.methodLink RX7 86 yX7_token, Cond.instanceMethod yX7_token, Cond.selects RX7 yX7_token yX7_token, Cond.initialized RX7, Cond.code yX7_token cX7_token 2 none, Cond.fieldLink RX7 74 "StackedLeavesModel" "start" "I", Cond.fieldLink RX7 83 "StackedLeavesModel" "value" "I", Cond.fieldLink RX7 32 "StackedLeavesModel" "text" "[I", Cond.methodLink RX7 70 yX7_letterAt, Cond.instanceMethod yX7_letterAt, Cond.selects RX7 yX7_letterAt yX7_letterAt, Cond.code yX7_letterAt cX7_letterAt 2 (some .int), Cond.fieldLink RX7 63 "StackedLeavesModel" "typed" "I", Cond.methodLink RX7 77 yX7_isFigure, Cond.static yX7_isFigure, Cond.code yX7_isFigure cX7_isFigure 1 (some .boolean), Cond.methodLink RX7 47 yX7_in, Cond.static yX7_in, Cond.code yX7_in cX7_in 3 (some .boolean), Cond.methodLink RX7 92 yX7_readsLeaf, Cond.instanceMethod yX7_readsLeaf]
def wsX7_reads_r2 : List Cond := [Cond.selects RX7 yX7_readsLeaf yX7_readsLeaf, Cond.code yX7_readsLeaf cX7_readsLeaf 4 (some .boolean), Cond.methodLink RX7 89 yX7_number, Cond.instanceMethod yX7_number, Cond.selects RX7 yX7_number yX7_number, Cond.code yX7_number cX7_number 4 (some .boolean)]
def wsX7_reads : List Cond := .code yX7_reads cX7_reads 2 (some .boolean) :: ((wsX7_reads_r1 ++ wsX7_reads_r2) ++ wsX70)
def wsX7_notes : List Cond := .code yX7_notes cX7_notes 2 none :: ([.fieldLink RX7 105 "StackedLeavesModel" "pasts" "I", .fieldLink RX7 16 "StackedLeavesModel" "past" "[I", .fieldLink RX7 7 "StackedLeavesModel" "now" "[I"] ++ wsX70)
def wsX7_tells_r1 : List Cond := [Cond.fieldLink RX7 74 "StackedLeavesModel" "start" "I", Cond.fieldLink RX7 7 "StackedLeavesModel" "now" "[I", Cond.fieldLink RX7 13 "StackedLeavesModel" "draft" "[I", Cond.fieldLink RX7 63 "StackedLeavesModel" "typed" "I", Cond.fieldLink RX7 102 "StackedLeavesModel" "facts" "I", Cond.fieldLink RX7 22 "StackedLeavesModel" "kept" "[Z", Cond.methodLink RX7 96 yX7_reads, Cond.instanceMethod yX7_reads, Cond.selects RX7 yX7_reads yX7_reads, Cond.initialized RX7, Cond.code yX7_reads cX7_reads 2 (some .boolean), Cond.fieldLink RX7 67 "StackedLeavesModel" "at" "I", Cond.fieldLink RX7 80 "StackedLeavesModel" "sort" "I", Cond.methodLink RX7 86 yX7_token, Cond.instanceMethod yX7_token, Cond.selects RX7 yX7_token yX7_token, Cond.code yX7_token cX7_token 2 none, Cond.fieldLink RX7 83 "StackedLeavesModel" "value" "I", Cond.fieldLink RX7 32 "StackedLeavesModel" "text" "[I", Cond.methodLink RX7 70 yX7_letterAt, Cond.instanceMethod yX7_letterAt, Cond.selects RX7 yX7_letterAt yX7_letterAt, Cond.code yX7_letterAt cX7_letterAt 2 (some .int), Cond.methodLink RX7 77 yX7_isFigure]
def wsX7_tells_r2 : List Cond := [Cond.static yX7_isFigure, Cond.code yX7_isFigure cX7_isFigure 1 (some .boolean), Cond.methodLink RX7 47 yX7_in, Cond.static yX7_in, Cond.code yX7_in cX7_in 3 (some .boolean), Cond.methodLink RX7 92 yX7_readsLeaf, Cond.instanceMethod yX7_readsLeaf, Cond.selects RX7 yX7_readsLeaf yX7_readsLeaf, Cond.code yX7_readsLeaf cX7_readsLeaf 4 (some .boolean), Cond.methodLink RX7 89 yX7_number, Cond.instanceMethod yX7_number, Cond.selects RX7 yX7_number yX7_number, Cond.code yX7_number cX7_number 4 (some .boolean), Cond.methodLink RX7 99 yX7_notes, Cond.instanceMethod yX7_notes, Cond.selects RX7 yX7_notes yX7_notes, Cond.code yX7_notes cX7_notes 2 none, Cond.fieldLink RX7 105 "StackedLeavesModel" "pasts" "I", Cond.fieldLink RX7 16 "StackedLeavesModel" "past" "[I"]
def wsX7_tells : List Cond := .code yX7_tells cX7_tells 2 (some .int) :: ((wsX7_tells_r1 ++ wsX7_tells_r2) ++ wsX70)
def wsX7_undo : List Cond := .code yX7_undo cX7_undo 2 (some .int) :: ([.fieldLink RX7 105 "StackedLeavesModel" "pasts" "I", .fieldLink RX7 7 "StackedLeavesModel" "now" "[I", .fieldLink RX7 16 "StackedLeavesModel" "past" "[I"] ++ wsX70)
def wsX7_reaches : List Cond := .code yX7_reaches cX7_reaches 6 none :: ([.fieldLink RX7 7 "StackedLeavesModel" "now" "[I", .fieldLink RX7 35 "StackedLeavesModel" "nip" "[I", .fieldLink RX7 38 "StackedLeavesModel" "reach" "[I", .methodLink RX7 59 yX7_has, .static yX7_has, .initialized RX7, .code yX7_has cX7_has 2 (some .boolean), .methodLink RX7 51 yX7_of, .instanceMethod yX7_of, .selects RX7 yX7_of yX7_of, .code yX7_of cX7_of 3 (some .int)] ++ wsX70)
def wsX7_bends : List Cond := .code yX7_bends cX7_bends 8 none :: ([.fieldLink RX7 112 "StackedLeavesModel" "above" "I", .fieldLink RX7 115 "StackedLeavesModel" "below" "I", .fieldLink RX7 118 "StackedLeavesModel" "rates" "I", .fieldLink RX7 121 "StackedLeavesModel" "isBent" "Z", .fieldLink RX7 7 "StackedLeavesModel" "now" "[I", .fieldLink RX7 38 "StackedLeavesModel" "reach" "[I", .methodLink RX7 108 yX7_reaches, .instanceMethod yX7_reaches, .selects RX7 yX7_reaches yX7_reaches, .initialized RX7, .code yX7_reaches cX7_reaches 6 none, .fieldLink RX7 35 "StackedLeavesModel" "nip" "[I", .methodLink RX7 59 yX7_has, .static yX7_has, .code yX7_has cX7_has 2 (some .boolean), .methodLink RX7 51 yX7_of, .instanceMethod yX7_of, .selects RX7 yX7_of yX7_of, .code yX7_of cX7_of 3 (some .int)] ++ wsX70)
def wsX7_bearsBy : List Cond := .code yX7_bearsBy cX7_bearsBy 4 (some .int) :: ([.fieldLink RX7 112 "StackedLeavesModel" "above" "I", .fieldLink RX7 38 "StackedLeavesModel" "reach" "[I", .fieldLink RX7 115 "StackedLeavesModel" "below" "I", .methodLink RX7 59 yX7_has, .static yX7_has, .initialized RX7, .code yX7_has cX7_has 2 (some .boolean), .methodLink RX7 51 yX7_of, .instanceMethod yX7_of, .selects RX7 yX7_of yX7_of, .code yX7_of cX7_of 3 (some .int), .fieldLink RX7 7 "StackedLeavesModel" "now" "[I"] ++ wsX70)
def wsX7_beyond : List Cond := .code yX7_beyond cX7_beyond 3 (some .int) :: ([.fieldLink RX7 115 "StackedLeavesModel" "below" "I", .methodLink RX7 125 yX7_bearsBy, .instanceMethod yX7_bearsBy, .selects RX7 yX7_bearsBy yX7_bearsBy, .initialized RX7, .code yX7_bearsBy cX7_bearsBy 4 (some .int), .fieldLink RX7 112 "StackedLeavesModel" "above" "I", .fieldLink RX7 38 "StackedLeavesModel" "reach" "[I", .methodLink RX7 59 yX7_has, .static yX7_has, .code yX7_has cX7_has 2 (some .boolean), .methodLink RX7 51 yX7_of, .instanceMethod yX7_of, .selects RX7 yX7_of yX7_of, .code yX7_of cX7_of 3 (some .int), .fieldLink RX7 7 "StackedLeavesModel" "now" "[I"] ++ wsX70)
def wsX7_breaking : List Cond := .code yX7_breaking cX7_breaking 5 (some .int) :: ([.fieldLink RX7 7 "StackedLeavesModel" "now" "[I", .methodLink RX7 59 yX7_has, .static yX7_has, .initialized RX7, .code yX7_has cX7_has 2 (some .boolean), .methodLink RX7 128 yX7_beyond, .instanceMethod yX7_beyond, .selects RX7 yX7_beyond yX7_beyond, .code yX7_beyond cX7_beyond 3 (some .int), .fieldLink RX7 115 "StackedLeavesModel" "below" "I", .methodLink RX7 125 yX7_bearsBy, .instanceMethod yX7_bearsBy, .selects RX7 yX7_bearsBy yX7_bearsBy, .code yX7_bearsBy cX7_bearsBy 4 (some .int), .fieldLink RX7 112 "StackedLeavesModel" "above" "I", .fieldLink RX7 38 "StackedLeavesModel" "reach" "[I", .methodLink RX7 51 yX7_of, .instanceMethod yX7_of, .selects RX7 yX7_of yX7_of, .code yX7_of cX7_of 3 (some .int)] ++ wsX70)
def wsX7_wholeBehind_r1 : List Cond := [Cond.methodLink RX7 131 yX7_whole, Cond.instanceMethod yX7_whole, Cond.selects RX7 yX7_whole yX7_whole, Cond.initialized RX7, Cond.code yX7_whole cX7_whole 3 (some .int), Cond.fieldLink RX7 7 "StackedLeavesModel" "now" "[I", Cond.methodLink RX7 55 yX7_isWhole, Cond.instanceMethod yX7_isWhole, Cond.selects RX7 yX7_isWhole yX7_isWhole, Cond.code yX7_isWhole cX7_isWhole 2 (some .boolean), Cond.methodLink RX7 51 yX7_of, Cond.instanceMethod yX7_of, Cond.selects RX7 yX7_of yX7_of, Cond.code yX7_of cX7_of 3 (some .int), Cond.methodLink RX7 135 yX7_all, Cond.instanceMethod yX7_all, Cond.selects RX7 yX7_all yX7_all, Cond.code yX7_all cX7_all 1 (some .int), Cond.methodLink RX7 138 yX7_bends, Cond.instanceMethod yX7_bends, Cond.selects RX7 yX7_bends yX7_bends, Cond.code yX7_bends cX7_bends 8 none, Cond.fieldLink RX7 112 "StackedLeavesModel" "above" "I", Cond.fieldLink RX7 115 "StackedLeavesModel" "below" "I"]
def wsX7_wholeBehind_r2 : List Cond := [Cond.fieldLink RX7 118 "StackedLeavesModel" "rates" "I", Cond.fieldLink RX7 121 "StackedLeavesModel" "isBent" "Z", Cond.fieldLink RX7 38 "StackedLeavesModel" "reach" "[I", Cond.methodLink RX7 108 yX7_reaches, Cond.instanceMethod yX7_reaches, Cond.selects RX7 yX7_reaches yX7_reaches, Cond.code yX7_reaches cX7_reaches 6 none, Cond.fieldLink RX7 35 "StackedLeavesModel" "nip" "[I", Cond.methodLink RX7 59 yX7_has, Cond.static yX7_has, Cond.code yX7_has cX7_has 2 (some .boolean), Cond.methodLink RX7 142 yX7_breaking, Cond.instanceMethod yX7_breaking, Cond.selects RX7 yX7_breaking yX7_breaking, Cond.code yX7_breaking cX7_breaking 5 (some .int), Cond.methodLink RX7 128 yX7_beyond, Cond.instanceMethod yX7_beyond, Cond.selects RX7 yX7_beyond yX7_beyond, Cond.code yX7_beyond cX7_beyond 3 (some .int), Cond.methodLink RX7 125 yX7_bearsBy, Cond.instanceMethod yX7_bearsBy, Cond.selects RX7 yX7_bearsBy yX7_bearsBy, Cond.code yX7_bearsBy cX7_bearsBy 4 (some .int)]
def wsX7_wholeBehind : List Cond := .code yX7_wholeBehind cX7_wholeBehind 5 (some .int) :: ((wsX7_wholeBehind_r1 ++ wsX7_wholeBehind_r2) ++ wsX70)
def wsX7_loads_r1 : List Cond := [Cond.fieldLink RX7 7 "StackedLeavesModel" "now" "[I", Cond.methodLink RX7 47 yX7_in, Cond.static yX7_in, Cond.initialized RX7, Cond.code yX7_in cX7_in 3 (some .boolean), Cond.methodLink RX7 99 yX7_notes, Cond.instanceMethod yX7_notes, Cond.selects RX7 yX7_notes yX7_notes, Cond.code yX7_notes cX7_notes 2 none, Cond.fieldLink RX7 105 "StackedLeavesModel" "pasts" "I", Cond.fieldLink RX7 16 "StackedLeavesModel" "past" "[I", Cond.methodLink RX7 131 yX7_whole, Cond.instanceMethod yX7_whole, Cond.selects RX7 yX7_whole yX7_whole, Cond.code yX7_whole cX7_whole 3 (some .int), Cond.methodLink RX7 55 yX7_isWhole, Cond.instanceMethod yX7_isWhole, Cond.selects RX7 yX7_isWhole yX7_isWhole, Cond.code yX7_isWhole cX7_isWhole 2 (some .boolean), Cond.methodLink RX7 51 yX7_of, Cond.instanceMethod yX7_of, Cond.selects RX7 yX7_of yX7_of, Cond.code yX7_of cX7_of 3 (some .int), Cond.methodLink RX7 145 yX7_ones]
def wsX7_loads_r2 : List Cond := [Cond.static yX7_ones, Cond.code yX7_ones cX7_ones 3 (some .int), Cond.methodLink RX7 59 yX7_has, Cond.static yX7_has, Cond.code yX7_has cX7_has 2 (some .boolean), Cond.methodLink RX7 148 yX7_wholeBehind, Cond.instanceMethod yX7_wholeBehind, Cond.selects RX7 yX7_wholeBehind yX7_wholeBehind, Cond.code yX7_wholeBehind cX7_wholeBehind 5 (some .int), Cond.methodLink RX7 135 yX7_all, Cond.instanceMethod yX7_all, Cond.selects RX7 yX7_all yX7_all, Cond.code yX7_all cX7_all 1 (some .int), Cond.methodLink RX7 138 yX7_bends, Cond.instanceMethod yX7_bends, Cond.selects RX7 yX7_bends yX7_bends, Cond.code yX7_bends cX7_bends 8 none, Cond.fieldLink RX7 112 "StackedLeavesModel" "above" "I", Cond.fieldLink RX7 115 "StackedLeavesModel" "below" "I", Cond.fieldLink RX7 118 "StackedLeavesModel" "rates" "I", Cond.fieldLink RX7 121 "StackedLeavesModel" "isBent" "Z", Cond.fieldLink RX7 38 "StackedLeavesModel" "reach" "[I", Cond.methodLink RX7 108 yX7_reaches, Cond.instanceMethod yX7_reaches]
def wsX7_loads_r3 : List Cond := [Cond.selects RX7 yX7_reaches yX7_reaches, Cond.code yX7_reaches cX7_reaches 6 none, Cond.fieldLink RX7 35 "StackedLeavesModel" "nip" "[I", Cond.methodLink RX7 142 yX7_breaking, Cond.instanceMethod yX7_breaking, Cond.selects RX7 yX7_breaking yX7_breaking, Cond.code yX7_breaking cX7_breaking 5 (some .int), Cond.methodLink RX7 128 yX7_beyond, Cond.instanceMethod yX7_beyond, Cond.selects RX7 yX7_beyond yX7_beyond, Cond.code yX7_beyond cX7_beyond 3 (some .int), Cond.methodLink RX7 125 yX7_bearsBy, Cond.instanceMethod yX7_bearsBy, Cond.selects RX7 yX7_bearsBy yX7_bearsBy, Cond.code yX7_bearsBy cX7_bearsBy 4 (some .int)]
def wsX7_loads : List Cond := .code yX7_loads cX7_loads 5 (some .int) :: ((wsX7_loads_r1 ++ (wsX7_loads_r2 ++ wsX7_loads_r3)) ++ wsX70)
def wsX7_breaks_r1 : List Cond := [Cond.fieldLink RX7 7 "StackedLeavesModel" "now" "[I", Cond.methodLink RX7 151 yX7_isLeaf, Cond.instanceMethod yX7_isLeaf, Cond.selects RX7 yX7_isLeaf yX7_isLeaf, Cond.initialized RX7, Cond.code yX7_isLeaf cX7_isLeaf 2 (some .boolean), Cond.methodLink RX7 47 yX7_in, Cond.static yX7_in, Cond.code yX7_in cX7_in 3 (some .boolean), Cond.methodLink RX7 55 yX7_isWhole, Cond.instanceMethod yX7_isWhole, Cond.selects RX7 yX7_isWhole yX7_isWhole, Cond.code yX7_isWhole cX7_isWhole 2 (some .boolean), Cond.methodLink RX7 51 yX7_of, Cond.instanceMethod yX7_of, Cond.selects RX7 yX7_of yX7_of, Cond.code yX7_of cX7_of 3 (some .int), Cond.methodLink RX7 99 yX7_notes, Cond.instanceMethod yX7_notes, Cond.selects RX7 yX7_notes yX7_notes, Cond.code yX7_notes cX7_notes 2 none, Cond.fieldLink RX7 105 "StackedLeavesModel" "pasts" "I", Cond.fieldLink RX7 16 "StackedLeavesModel" "past" "[I", Cond.methodLink RX7 131 yX7_whole]
def wsX7_breaks_r2 : List Cond := [Cond.instanceMethod yX7_whole, Cond.selects RX7 yX7_whole yX7_whole, Cond.code yX7_whole cX7_whole 3 (some .int), Cond.methodLink RX7 145 yX7_ones, Cond.static yX7_ones, Cond.code yX7_ones cX7_ones 3 (some .int), Cond.methodLink RX7 59 yX7_has, Cond.static yX7_has, Cond.code yX7_has cX7_has 2 (some .boolean)]
def wsX7_breaks : List Cond := .code yX7_breaks cX7_breaks 2 (some .int) :: ((wsX7_breaks_r1 ++ wsX7_breaks_r2) ++ wsX70)
def wsX7_mends_r1 : List Cond := [Cond.fieldLink RX7 7 "StackedLeavesModel" "now" "[I", Cond.methodLink RX7 151 yX7_isLeaf, Cond.instanceMethod yX7_isLeaf, Cond.selects RX7 yX7_isLeaf yX7_isLeaf, Cond.initialized RX7, Cond.code yX7_isLeaf cX7_isLeaf 2 (some .boolean), Cond.methodLink RX7 47 yX7_in, Cond.static yX7_in, Cond.code yX7_in cX7_in 3 (some .boolean), Cond.methodLink RX7 55 yX7_isWhole, Cond.instanceMethod yX7_isWhole, Cond.selects RX7 yX7_isWhole yX7_isWhole, Cond.code yX7_isWhole cX7_isWhole 2 (some .boolean), Cond.methodLink RX7 51 yX7_of, Cond.instanceMethod yX7_of, Cond.selects RX7 yX7_of yX7_of, Cond.code yX7_of cX7_of 3 (some .int), Cond.methodLink RX7 99 yX7_notes, Cond.instanceMethod yX7_notes, Cond.selects RX7 yX7_notes yX7_notes, Cond.code yX7_notes cX7_notes 2 none, Cond.fieldLink RX7 105 "StackedLeavesModel" "pasts" "I", Cond.fieldLink RX7 16 "StackedLeavesModel" "past" "[I", Cond.methodLink RX7 131 yX7_whole]
def wsX7_mends_r2 : List Cond := [Cond.instanceMethod yX7_whole, Cond.selects RX7 yX7_whole yX7_whole, Cond.code yX7_whole cX7_whole 3 (some .int), Cond.methodLink RX7 145 yX7_ones, Cond.static yX7_ones, Cond.code yX7_ones cX7_ones 3 (some .int), Cond.methodLink RX7 59 yX7_has, Cond.static yX7_has, Cond.code yX7_has cX7_has 2 (some .boolean)]
def wsX7_mends : List Cond := .code yX7_mends cX7_mends 2 (some .int) :: ((wsX7_mends_r1 ++ wsX7_mends_r2) ++ wsX70)
def wsX7_cambers : List Cond := .code yX7_cambers cX7_cambers 4 (some .int) :: ([.fieldLink RX7 7 "StackedLeavesModel" "now" "[I", .methodLink RX7 151 yX7_isLeaf, .instanceMethod yX7_isLeaf, .selects RX7 yX7_isLeaf yX7_isLeaf, .initialized RX7, .code yX7_isLeaf cX7_isLeaf 2 (some .boolean), .methodLink RX7 47 yX7_in, .static yX7_in, .code yX7_in cX7_in 3 (some .boolean), .methodLink RX7 51 yX7_of, .instanceMethod yX7_of, .selects RX7 yX7_of yX7_of, .code yX7_of cX7_of 3 (some .int), .methodLink RX7 99 yX7_notes, .instanceMethod yX7_notes, .selects RX7 yX7_notes yX7_notes, .code yX7_notes cX7_notes 2 none, .fieldLink RX7 105 "StackedLeavesModel" "pasts" "I", .fieldLink RX7 16 "StackedLeavesModel" "past" "[I"] ++ wsX70)
def wsX7_leaf_r1 : List Cond := [Cond.fieldLink RX7 35 "StackedLeavesModel" "nip" "[I", Cond.fieldLink RX7 38 "StackedLeavesModel" "reach" "[I", Cond.methodLink RX7 151 yX7_isLeaf, Cond.instanceMethod yX7_isLeaf, Cond.selects RX7 yX7_isLeaf yX7_isLeaf, Cond.initialized RX7, Cond.code yX7_isLeaf cX7_isLeaf 2 (some .boolean), Cond.fieldLink RX7 7 "StackedLeavesModel" "now" "[I", Cond.methodLink RX7 47 yX7_in, Cond.static yX7_in, Cond.code yX7_in cX7_in 3 (some .boolean), Cond.methodLink RX7 135 yX7_all, Cond.instanceMethod yX7_all, Cond.selects RX7 yX7_all yX7_all, Cond.code yX7_all cX7_all 1 (some .int), Cond.methodLink RX7 108 yX7_reaches, Cond.instanceMethod yX7_reaches, Cond.selects RX7 yX7_reaches yX7_reaches, Cond.code yX7_reaches cX7_reaches 6 none, Cond.methodLink RX7 59 yX7_has, Cond.static yX7_has, Cond.code yX7_has cX7_has 2 (some .boolean), Cond.methodLink RX7 51 yX7_of, Cond.instanceMethod yX7_of]
def wsX7_leaf_r2 : List Cond := [Cond.selects RX7 yX7_of yX7_of, Cond.code yX7_of cX7_of 3 (some .int)]
def wsX7_leaf : List Cond := .code yX7_leaf cX7_leaf 3 (some .int) :: ((wsX7_leaf_r1 ++ wsX7_leaf_r2) ++ wsX70)
def wsX7_common : List Cond := .code yX7_common cX7_common 5 (some .int) :: ([])
def wsX7_cutOf : List Cond := .code yX7_cutOf cX7_cutOf 1 (some .int) :: ([.fieldLink RX7 121 "StackedLeavesModel" "isBent" "Z", .fieldLink RX7 112 "StackedLeavesModel" "above" "I", .fieldLink RX7 115 "StackedLeavesModel" "below" "I"] ++ wsX70)
def wsX7_bend_r1 : List Cond := [Cond.fieldLink RX7 121 "StackedLeavesModel" "isBent" "Z", Cond.fieldLink RX7 112 "StackedLeavesModel" "above" "I", Cond.fieldLink RX7 115 "StackedLeavesModel" "below" "I", Cond.methodLink RX7 47 yX7_in, Cond.static yX7_in, Cond.initialized RX7, Cond.code yX7_in cX7_in 3 (some .boolean), Cond.methodLink RX7 135 yX7_all, Cond.instanceMethod yX7_all, Cond.selects RX7 yX7_all yX7_all, Cond.code yX7_all cX7_all 1 (some .int), Cond.fieldLink RX7 7 "StackedLeavesModel" "now" "[I", Cond.methodLink RX7 131 yX7_whole, Cond.instanceMethod yX7_whole, Cond.selects RX7 yX7_whole yX7_whole, Cond.code yX7_whole cX7_whole 3 (some .int), Cond.methodLink RX7 55 yX7_isWhole, Cond.instanceMethod yX7_isWhole, Cond.selects RX7 yX7_isWhole yX7_isWhole, Cond.code yX7_isWhole cX7_isWhole 2 (some .boolean), Cond.methodLink RX7 51 yX7_of, Cond.instanceMethod yX7_of, Cond.selects RX7 yX7_of yX7_of, Cond.code yX7_of cX7_of 3 (some .int)]
def wsX7_bend_r2 : List Cond := [Cond.methodLink RX7 138 yX7_bends, Cond.instanceMethod yX7_bends, Cond.selects RX7 yX7_bends yX7_bends, Cond.code yX7_bends cX7_bends 8 none, Cond.fieldLink RX7 118 "StackedLeavesModel" "rates" "I", Cond.fieldLink RX7 38 "StackedLeavesModel" "reach" "[I", Cond.methodLink RX7 108 yX7_reaches, Cond.instanceMethod yX7_reaches, Cond.selects RX7 yX7_reaches yX7_reaches, Cond.code yX7_reaches cX7_reaches 6 none, Cond.fieldLink RX7 35 "StackedLeavesModel" "nip" "[I", Cond.methodLink RX7 59 yX7_has, Cond.static yX7_has, Cond.code yX7_has cX7_has 2 (some .boolean), Cond.methodLink RX7 154 yX7_cutOf, Cond.instanceMethod yX7_cutOf, Cond.selects RX7 yX7_cutOf yX7_cutOf, Cond.code yX7_cutOf cX7_cutOf 1 (some .int), Cond.methodLink RX7 157 yX7_common, Cond.static yX7_common, Cond.code yX7_common cX7_common 5 (some .int)]
def wsX7_bend : List Cond := .code yX7_bend cX7_bend 4 (some .int) :: ((wsX7_bend_r1 ++ wsX7_bend_r2) ++ wsX70)
def wsX7_bears_r1 : List Cond := [Cond.fieldLink RX7 121 "StackedLeavesModel" "isBent" "Z", Cond.fieldLink RX7 115 "StackedLeavesModel" "below" "I", Cond.methodLink RX7 151 yX7_isLeaf, Cond.instanceMethod yX7_isLeaf, Cond.selects RX7 yX7_isLeaf yX7_isLeaf, Cond.initialized RX7, Cond.code yX7_isLeaf cX7_isLeaf 2 (some .boolean), Cond.fieldLink RX7 7 "StackedLeavesModel" "now" "[I", Cond.methodLink RX7 47 yX7_in, Cond.static yX7_in, Cond.code yX7_in cX7_in 3 (some .boolean), Cond.methodLink RX7 131 yX7_whole, Cond.instanceMethod yX7_whole, Cond.selects RX7 yX7_whole yX7_whole, Cond.code yX7_whole cX7_whole 3 (some .int), Cond.methodLink RX7 55 yX7_isWhole, Cond.instanceMethod yX7_isWhole, Cond.selects RX7 yX7_isWhole yX7_isWhole, Cond.code yX7_isWhole cX7_isWhole 2 (some .boolean), Cond.methodLink RX7 51 yX7_of, Cond.instanceMethod yX7_of, Cond.selects RX7 yX7_of yX7_of, Cond.code yX7_of cX7_of 3 (some .int), Cond.methodLink RX7 135 yX7_all]
def wsX7_bears_r2 : List Cond := [Cond.instanceMethod yX7_all, Cond.selects RX7 yX7_all yX7_all, Cond.code yX7_all cX7_all 1 (some .int), Cond.methodLink RX7 138 yX7_bends, Cond.instanceMethod yX7_bends, Cond.selects RX7 yX7_bends yX7_bends, Cond.code yX7_bends cX7_bends 8 none, Cond.fieldLink RX7 112 "StackedLeavesModel" "above" "I", Cond.fieldLink RX7 118 "StackedLeavesModel" "rates" "I", Cond.fieldLink RX7 38 "StackedLeavesModel" "reach" "[I", Cond.methodLink RX7 108 yX7_reaches, Cond.instanceMethod yX7_reaches, Cond.selects RX7 yX7_reaches yX7_reaches, Cond.code yX7_reaches cX7_reaches 6 none, Cond.fieldLink RX7 35 "StackedLeavesModel" "nip" "[I", Cond.methodLink RX7 59 yX7_has, Cond.static yX7_has, Cond.code yX7_has cX7_has 2 (some .boolean), Cond.methodLink RX7 125 yX7_bearsBy, Cond.instanceMethod yX7_bearsBy, Cond.selects RX7 yX7_bearsBy yX7_bearsBy, Cond.code yX7_bearsBy cX7_bearsBy 4 (some .int), Cond.methodLink RX7 157 yX7_common, Cond.static yX7_common]
def wsX7_bears_r3 : List Cond := [Cond.code yX7_common cX7_common 5 (some .int)]
def wsX7_bears : List Cond := .code yX7_bears cX7_bears 7 (some .int) :: ((wsX7_bears_r1 ++ (wsX7_bears_r2 ++ wsX7_bears_r3)) ++ wsX70)
def wsX7_rate_r1 : List Cond := [Cond.fieldLink RX7 121 "StackedLeavesModel" "isBent" "Z", Cond.fieldLink RX7 118 "StackedLeavesModel" "rates" "I", Cond.methodLink RX7 47 yX7_in, Cond.static yX7_in, Cond.initialized RX7, Cond.code yX7_in cX7_in 3 (some .boolean), Cond.methodLink RX7 135 yX7_all, Cond.instanceMethod yX7_all, Cond.selects RX7 yX7_all yX7_all, Cond.code yX7_all cX7_all 1 (some .int), Cond.fieldLink RX7 7 "StackedLeavesModel" "now" "[I", Cond.methodLink RX7 131 yX7_whole, Cond.instanceMethod yX7_whole, Cond.selects RX7 yX7_whole yX7_whole, Cond.code yX7_whole cX7_whole 3 (some .int), Cond.methodLink RX7 55 yX7_isWhole, Cond.instanceMethod yX7_isWhole, Cond.selects RX7 yX7_isWhole yX7_isWhole, Cond.code yX7_isWhole cX7_isWhole 2 (some .boolean), Cond.methodLink RX7 51 yX7_of, Cond.instanceMethod yX7_of, Cond.selects RX7 yX7_of yX7_of, Cond.code yX7_of cX7_of 3 (some .int), Cond.methodLink RX7 138 yX7_bends]
def wsX7_rate_r2 : List Cond := [Cond.instanceMethod yX7_bends, Cond.selects RX7 yX7_bends yX7_bends, Cond.code yX7_bends cX7_bends 8 none, Cond.fieldLink RX7 112 "StackedLeavesModel" "above" "I", Cond.fieldLink RX7 115 "StackedLeavesModel" "below" "I", Cond.fieldLink RX7 38 "StackedLeavesModel" "reach" "[I", Cond.methodLink RX7 108 yX7_reaches, Cond.instanceMethod yX7_reaches, Cond.selects RX7 yX7_reaches yX7_reaches, Cond.code yX7_reaches cX7_reaches 6 none, Cond.fieldLink RX7 35 "StackedLeavesModel" "nip" "[I", Cond.methodLink RX7 59 yX7_has, Cond.static yX7_has, Cond.code yX7_has cX7_has 2 (some .boolean)]
def wsX7_rate : List Cond := .code yX7_rate cX7_rate 2 (some .int) :: ((wsX7_rate_r1 ++ wsX7_rate_r2) ++ wsX70)
def wsX7_least_r1 : List Cond := [Cond.methodLink RX7 47 yX7_in, Cond.static yX7_in, Cond.initialized RX7, Cond.code yX7_in cX7_in 3 (some .boolean), Cond.methodLink RX7 131 yX7_whole, Cond.instanceMethod yX7_whole, Cond.selects RX7 yX7_whole yX7_whole, Cond.code yX7_whole cX7_whole 3 (some .int), Cond.fieldLink RX7 7 "StackedLeavesModel" "now" "[I", Cond.methodLink RX7 55 yX7_isWhole, Cond.instanceMethod yX7_isWhole, Cond.selects RX7 yX7_isWhole yX7_isWhole, Cond.code yX7_isWhole cX7_isWhole 2 (some .boolean), Cond.methodLink RX7 51 yX7_of, Cond.instanceMethod yX7_of, Cond.selects RX7 yX7_of yX7_of, Cond.code yX7_of cX7_of 3 (some .int), Cond.methodLink RX7 135 yX7_all, Cond.instanceMethod yX7_all, Cond.selects RX7 yX7_all yX7_all, Cond.code yX7_all cX7_all 1 (some .int), Cond.methodLink RX7 138 yX7_bends, Cond.instanceMethod yX7_bends, Cond.selects RX7 yX7_bends yX7_bends]
def wsX7_least_r2 : List Cond := [Cond.code yX7_bends cX7_bends 8 none, Cond.fieldLink RX7 112 "StackedLeavesModel" "above" "I", Cond.fieldLink RX7 115 "StackedLeavesModel" "below" "I", Cond.fieldLink RX7 118 "StackedLeavesModel" "rates" "I", Cond.fieldLink RX7 121 "StackedLeavesModel" "isBent" "Z", Cond.fieldLink RX7 38 "StackedLeavesModel" "reach" "[I", Cond.methodLink RX7 108 yX7_reaches, Cond.instanceMethod yX7_reaches, Cond.selects RX7 yX7_reaches yX7_reaches, Cond.code yX7_reaches cX7_reaches 6 none, Cond.fieldLink RX7 35 "StackedLeavesModel" "nip" "[I", Cond.methodLink RX7 59 yX7_has, Cond.static yX7_has, Cond.code yX7_has cX7_has 2 (some .boolean), Cond.methodLink RX7 142 yX7_breaking, Cond.instanceMethod yX7_breaking, Cond.selects RX7 yX7_breaking yX7_breaking, Cond.code yX7_breaking cX7_breaking 5 (some .int), Cond.methodLink RX7 128 yX7_beyond, Cond.instanceMethod yX7_beyond, Cond.selects RX7 yX7_beyond yX7_beyond, Cond.code yX7_beyond cX7_beyond 3 (some .int), Cond.methodLink RX7 125 yX7_bearsBy, Cond.instanceMethod yX7_bearsBy]
def wsX7_least_r3 : List Cond := [Cond.selects RX7 yX7_bearsBy yX7_bearsBy, Cond.code yX7_bearsBy cX7_bearsBy 4 (some .int), Cond.methodLink RX7 145 yX7_ones, Cond.static yX7_ones, Cond.code yX7_ones cX7_ones 3 (some .int), Cond.methodLink RX7 148 yX7_wholeBehind, Cond.instanceMethod yX7_wholeBehind, Cond.selects RX7 yX7_wholeBehind yX7_wholeBehind, Cond.code yX7_wholeBehind cX7_wholeBehind 5 (some .int)]
def wsX7_least : List Cond := .code yX7_least cX7_least 5 (some .int) :: ((wsX7_least_r1 ++ (wsX7_least_r2 ++ wsX7_least_r3)) ++ wsX70)
def wsX7_loadAt : List Cond := .code yX7_loadAt cX7_loadAt 4 (some .int) :: ([.fieldLink RX7 7 "StackedLeavesModel" "now" "[I", .fieldLink RX7 38 "StackedLeavesModel" "reach" "[I", .methodLink RX7 55 yX7_isWhole, .instanceMethod yX7_isWhole, .selects RX7 yX7_isWhole yX7_isWhole, .initialized RX7, .code yX7_isWhole cX7_isWhole 2 (some .boolean), .methodLink RX7 51 yX7_of, .instanceMethod yX7_of, .selects RX7 yX7_of yX7_of, .code yX7_of cX7_of 3 (some .int)] ++ wsX70)
def wsX7_knee_r1 : List Cond := [Cond.fieldLink RX7 7 "StackedLeavesModel" "now" "[I", Cond.fieldLink RX7 38 "StackedLeavesModel" "reach" "[I", Cond.methodLink RX7 135 yX7_all, Cond.instanceMethod yX7_all, Cond.selects RX7 yX7_all yX7_all, Cond.initialized RX7, Cond.code yX7_all cX7_all 1 (some .int), Cond.methodLink RX7 108 yX7_reaches, Cond.instanceMethod yX7_reaches, Cond.selects RX7 yX7_reaches yX7_reaches, Cond.code yX7_reaches cX7_reaches 6 none, Cond.fieldLink RX7 35 "StackedLeavesModel" "nip" "[I", Cond.methodLink RX7 59 yX7_has, Cond.static yX7_has, Cond.code yX7_has cX7_has 2 (some .boolean), Cond.methodLink RX7 51 yX7_of, Cond.instanceMethod yX7_of, Cond.selects RX7 yX7_of yX7_of, Cond.code yX7_of cX7_of 3 (some .int), Cond.methodLink RX7 55 yX7_isWhole, Cond.instanceMethod yX7_isWhole, Cond.selects RX7 yX7_isWhole yX7_isWhole, Cond.code yX7_isWhole cX7_isWhole 2 (some .boolean), Cond.methodLink RX7 160 yX7_loadAt]
def wsX7_knee_r2 : List Cond := [Cond.instanceMethod yX7_loadAt, Cond.selects RX7 yX7_loadAt yX7_loadAt, Cond.code yX7_loadAt cX7_loadAt 4 (some .int)]
def wsX7_knee : List Cond := .code yX7_knee cX7_knee 7 (some .int) :: ((wsX7_knee_r1 ++ wsX7_knee_r2) ++ wsX70)
def wsX7_isChoice_r1 : List Cond := [Cond.fieldLink RX7 112 "StackedLeavesModel" "above" "I", Cond.fieldLink RX7 115 "StackedLeavesModel" "below" "I", Cond.methodLink RX7 138 yX7_bends, Cond.instanceMethod yX7_bends, Cond.selects RX7 yX7_bends yX7_bends, Cond.initialized RX7, Cond.code yX7_bends cX7_bends 8 none, Cond.fieldLink RX7 118 "StackedLeavesModel" "rates" "I", Cond.fieldLink RX7 121 "StackedLeavesModel" "isBent" "Z", Cond.fieldLink RX7 7 "StackedLeavesModel" "now" "[I", Cond.fieldLink RX7 38 "StackedLeavesModel" "reach" "[I", Cond.methodLink RX7 108 yX7_reaches, Cond.instanceMethod yX7_reaches, Cond.selects RX7 yX7_reaches yX7_reaches, Cond.code yX7_reaches cX7_reaches 6 none, Cond.fieldLink RX7 35 "StackedLeavesModel" "nip" "[I", Cond.methodLink RX7 59 yX7_has, Cond.static yX7_has, Cond.code yX7_has cX7_has 2 (some .boolean), Cond.methodLink RX7 51 yX7_of, Cond.instanceMethod yX7_of, Cond.selects RX7 yX7_of yX7_of, Cond.code yX7_of cX7_of 3 (some .int), Cond.methodLink RX7 142 yX7_breaking]
def wsX7_isChoice_r2 : List Cond := [Cond.instanceMethod yX7_breaking, Cond.selects RX7 yX7_breaking yX7_breaking, Cond.code yX7_breaking cX7_breaking 5 (some .int), Cond.methodLink RX7 128 yX7_beyond, Cond.instanceMethod yX7_beyond, Cond.selects RX7 yX7_beyond yX7_beyond, Cond.code yX7_beyond cX7_beyond 3 (some .int), Cond.methodLink RX7 125 yX7_bearsBy, Cond.instanceMethod yX7_bearsBy, Cond.selects RX7 yX7_bearsBy yX7_bearsBy, Cond.code yX7_bearsBy cX7_bearsBy 4 (some .int)]
def wsX7_isChoice : List Cond := .code yX7_isChoice cX7_isChoice 4 (some .boolean) :: ((wsX7_isChoice_r1 ++ wsX7_isChoice_r2) ++ wsX70)
def wsX7_chosen_r1 : List Cond := [Cond.methodLink RX7 47 yX7_in, Cond.static yX7_in, Cond.initialized RX7, Cond.code yX7_in cX7_in 3 (some .boolean), Cond.methodLink RX7 131 yX7_whole, Cond.instanceMethod yX7_whole, Cond.selects RX7 yX7_whole yX7_whole, Cond.code yX7_whole cX7_whole 3 (some .int), Cond.fieldLink RX7 7 "StackedLeavesModel" "now" "[I", Cond.methodLink RX7 55 yX7_isWhole, Cond.instanceMethod yX7_isWhole, Cond.selects RX7 yX7_isWhole yX7_isWhole, Cond.code yX7_isWhole cX7_isWhole 2 (some .boolean), Cond.methodLink RX7 51 yX7_of, Cond.instanceMethod yX7_of, Cond.selects RX7 yX7_of yX7_of, Cond.code yX7_of cX7_of 3 (some .int), Cond.methodLink RX7 145 yX7_ones, Cond.static yX7_ones, Cond.code yX7_ones cX7_ones 3 (some .int), Cond.methodLink RX7 59 yX7_has, Cond.static yX7_has, Cond.code yX7_has cX7_has 2 (some .boolean), Cond.methodLink RX7 163 yX7_isChoice]
def wsX7_chosen_r2 : List Cond := [Cond.instanceMethod yX7_isChoice, Cond.selects RX7 yX7_isChoice yX7_isChoice, Cond.code yX7_isChoice cX7_isChoice 4 (some .boolean), Cond.fieldLink RX7 112 "StackedLeavesModel" "above" "I", Cond.fieldLink RX7 115 "StackedLeavesModel" "below" "I", Cond.methodLink RX7 138 yX7_bends, Cond.instanceMethod yX7_bends, Cond.selects RX7 yX7_bends yX7_bends, Cond.code yX7_bends cX7_bends 8 none, Cond.fieldLink RX7 118 "StackedLeavesModel" "rates" "I", Cond.fieldLink RX7 121 "StackedLeavesModel" "isBent" "Z", Cond.fieldLink RX7 38 "StackedLeavesModel" "reach" "[I", Cond.methodLink RX7 108 yX7_reaches, Cond.instanceMethod yX7_reaches, Cond.selects RX7 yX7_reaches yX7_reaches, Cond.code yX7_reaches cX7_reaches 6 none, Cond.fieldLink RX7 35 "StackedLeavesModel" "nip" "[I", Cond.methodLink RX7 142 yX7_breaking, Cond.instanceMethod yX7_breaking, Cond.selects RX7 yX7_breaking yX7_breaking, Cond.code yX7_breaking cX7_breaking 5 (some .int), Cond.methodLink RX7 128 yX7_beyond, Cond.instanceMethod yX7_beyond, Cond.selects RX7 yX7_beyond yX7_beyond]
def wsX7_chosen_r3 : List Cond := [Cond.code yX7_beyond cX7_beyond 3 (some .int), Cond.methodLink RX7 125 yX7_bearsBy, Cond.instanceMethod yX7_bearsBy, Cond.selects RX7 yX7_bearsBy yX7_bearsBy, Cond.code yX7_bearsBy cX7_bearsBy 4 (some .int)]
def wsX7_chosen : List Cond := .code yX7_chosen cX7_chosen 9 (some .int) :: ((wsX7_chosen_r1 ++ (wsX7_chosen_r2 ++ wsX7_chosen_r3)) ++ wsX70)
def wsX7_sees : List Cond := .code yX7_sees cX7_sees 3 (some .int) :: ([.fieldLink RX7 102 "StackedLeavesModel" "facts" "I", .fieldLink RX7 26 "StackedLeavesModel" "factLoad" "[I", .fieldLink RX7 29 "StackedLeavesModel" "factBend" "[I", .methodLink RX7 47 yX7_in, .static yX7_in, .initialized RX7, .code yX7_in cX7_in 3 (some .boolean)] ++ wsX70)
def wsX7_forget : List Cond := .code yX7_forget cX7_forget 2 (some .int) :: ([.fieldLink RX7 102 "StackedLeavesModel" "facts" "I"] ++ wsX70)
def wsX7_bendWithout_r1 : List Cond := [Cond.methodLink RX7 135 yX7_all, Cond.instanceMethod yX7_all, Cond.selects RX7 yX7_all yX7_all, Cond.initialized RX7, Cond.code yX7_all cX7_all 1 (some .int), Cond.fieldLink RX7 7 "StackedLeavesModel" "now" "[I", Cond.methodLink RX7 131 yX7_whole, Cond.instanceMethod yX7_whole, Cond.selects RX7 yX7_whole yX7_whole, Cond.code yX7_whole cX7_whole 3 (some .int), Cond.methodLink RX7 55 yX7_isWhole, Cond.instanceMethod yX7_isWhole, Cond.selects RX7 yX7_isWhole yX7_isWhole, Cond.code yX7_isWhole cX7_isWhole 2 (some .boolean), Cond.methodLink RX7 51 yX7_of, Cond.instanceMethod yX7_of, Cond.selects RX7 yX7_of yX7_of, Cond.code yX7_of cX7_of 3 (some .int), Cond.methodLink RX7 138 yX7_bends, Cond.instanceMethod yX7_bends, Cond.selects RX7 yX7_bends yX7_bends, Cond.code yX7_bends cX7_bends 8 none, Cond.fieldLink RX7 112 "StackedLeavesModel" "above" "I", Cond.fieldLink RX7 115 "StackedLeavesModel" "below" "I"]
def wsX7_bendWithout_r2 : List Cond := [Cond.fieldLink RX7 118 "StackedLeavesModel" "rates" "I", Cond.fieldLink RX7 121 "StackedLeavesModel" "isBent" "Z", Cond.fieldLink RX7 38 "StackedLeavesModel" "reach" "[I", Cond.methodLink RX7 108 yX7_reaches, Cond.instanceMethod yX7_reaches, Cond.selects RX7 yX7_reaches yX7_reaches, Cond.code yX7_reaches cX7_reaches 6 none, Cond.fieldLink RX7 35 "StackedLeavesModel" "nip" "[I", Cond.methodLink RX7 59 yX7_has, Cond.static yX7_has, Cond.code yX7_has cX7_has 2 (some .boolean), Cond.methodLink RX7 154 yX7_cutOf, Cond.instanceMethod yX7_cutOf, Cond.selects RX7 yX7_cutOf yX7_cutOf, Cond.code yX7_cutOf cX7_cutOf 1 (some .int)]
def wsX7_bendWithout : List Cond := .code yX7_bendWithout cX7_bendWithout 3 (some .int) :: ((wsX7_bendWithout_r1 ++ wsX7_bendWithout_r2) ++ wsX70)
def wsX7_isSo_r1 : List Cond := [Cond.fieldLink RX7 102 "StackedLeavesModel" "facts" "I", Cond.fieldLink RX7 26 "StackedLeavesModel" "factLoad" "[I", Cond.fieldLink RX7 29 "StackedLeavesModel" "factBend" "[I", Cond.methodLink RX7 55 yX7_isWhole, Cond.instanceMethod yX7_isWhole, Cond.selects RX7 yX7_isWhole yX7_isWhole, Cond.initialized RX7, Cond.code yX7_isWhole cX7_isWhole 2 (some .boolean), Cond.methodLink RX7 51 yX7_of, Cond.instanceMethod yX7_of, Cond.selects RX7 yX7_of yX7_of, Cond.code yX7_of cX7_of 3 (some .int), Cond.fieldLink RX7 7 "StackedLeavesModel" "now" "[I", Cond.methodLink RX7 166 yX7_bendWithout, Cond.instanceMethod yX7_bendWithout, Cond.selects RX7 yX7_bendWithout yX7_bendWithout, Cond.code yX7_bendWithout cX7_bendWithout 3 (some .int), Cond.methodLink RX7 135 yX7_all, Cond.instanceMethod yX7_all, Cond.selects RX7 yX7_all yX7_all, Cond.code yX7_all cX7_all 1 (some .int), Cond.methodLink RX7 131 yX7_whole, Cond.instanceMethod yX7_whole, Cond.selects RX7 yX7_whole yX7_whole]
def wsX7_isSo_r2 : List Cond := [Cond.code yX7_whole cX7_whole 3 (some .int), Cond.methodLink RX7 138 yX7_bends, Cond.instanceMethod yX7_bends, Cond.selects RX7 yX7_bends yX7_bends, Cond.code yX7_bends cX7_bends 8 none, Cond.fieldLink RX7 112 "StackedLeavesModel" "above" "I", Cond.fieldLink RX7 115 "StackedLeavesModel" "below" "I", Cond.fieldLink RX7 118 "StackedLeavesModel" "rates" "I", Cond.fieldLink RX7 121 "StackedLeavesModel" "isBent" "Z", Cond.fieldLink RX7 38 "StackedLeavesModel" "reach" "[I", Cond.methodLink RX7 108 yX7_reaches, Cond.instanceMethod yX7_reaches, Cond.selects RX7 yX7_reaches yX7_reaches, Cond.code yX7_reaches cX7_reaches 6 none, Cond.fieldLink RX7 35 "StackedLeavesModel" "nip" "[I", Cond.methodLink RX7 59 yX7_has, Cond.static yX7_has, Cond.code yX7_has cX7_has 2 (some .boolean), Cond.methodLink RX7 154 yX7_cutOf, Cond.instanceMethod yX7_cutOf, Cond.selects RX7 yX7_cutOf yX7_cutOf, Cond.code yX7_cutOf cX7_cutOf 1 (some .int)]
def wsX7_isSo : List Cond := .code yX7_isSo cX7_isSo 4 (some .boolean) :: ((wsX7_isSo_r1 ++ wsX7_isSo_r2) ++ wsX70)
def wsX7_many_r1 : List Cond := [Cond.fieldLink RX7 7 "StackedLeavesModel" "now" "[I", Cond.methodLink RX7 169 yX7_isSo, Cond.instanceMethod yX7_isSo, Cond.selects RX7 yX7_isSo yX7_isSo, Cond.initialized RX7, Cond.code yX7_isSo cX7_isSo 4 (some .boolean), Cond.fieldLink RX7 102 "StackedLeavesModel" "facts" "I", Cond.fieldLink RX7 26 "StackedLeavesModel" "factLoad" "[I", Cond.fieldLink RX7 29 "StackedLeavesModel" "factBend" "[I", Cond.methodLink RX7 55 yX7_isWhole, Cond.instanceMethod yX7_isWhole, Cond.selects RX7 yX7_isWhole yX7_isWhole, Cond.code yX7_isWhole cX7_isWhole 2 (some .boolean), Cond.methodLink RX7 51 yX7_of, Cond.instanceMethod yX7_of, Cond.selects RX7 yX7_of yX7_of, Cond.code yX7_of cX7_of 3 (some .int), Cond.methodLink RX7 166 yX7_bendWithout, Cond.instanceMethod yX7_bendWithout, Cond.selects RX7 yX7_bendWithout yX7_bendWithout, Cond.code yX7_bendWithout cX7_bendWithout 3 (some .int), Cond.methodLink RX7 135 yX7_all, Cond.instanceMethod yX7_all, Cond.selects RX7 yX7_all yX7_all]
def wsX7_many_r2 : List Cond := [Cond.code yX7_all cX7_all 1 (some .int), Cond.methodLink RX7 131 yX7_whole, Cond.instanceMethod yX7_whole, Cond.selects RX7 yX7_whole yX7_whole, Cond.code yX7_whole cX7_whole 3 (some .int), Cond.methodLink RX7 138 yX7_bends, Cond.instanceMethod yX7_bends, Cond.selects RX7 yX7_bends yX7_bends, Cond.code yX7_bends cX7_bends 8 none, Cond.fieldLink RX7 112 "StackedLeavesModel" "above" "I", Cond.fieldLink RX7 115 "StackedLeavesModel" "below" "I", Cond.fieldLink RX7 118 "StackedLeavesModel" "rates" "I", Cond.fieldLink RX7 121 "StackedLeavesModel" "isBent" "Z", Cond.fieldLink RX7 38 "StackedLeavesModel" "reach" "[I", Cond.methodLink RX7 108 yX7_reaches, Cond.instanceMethod yX7_reaches, Cond.selects RX7 yX7_reaches yX7_reaches, Cond.code yX7_reaches cX7_reaches 6 none, Cond.fieldLink RX7 35 "StackedLeavesModel" "nip" "[I", Cond.methodLink RX7 59 yX7_has, Cond.static yX7_has, Cond.code yX7_has cX7_has 2 (some .boolean), Cond.methodLink RX7 154 yX7_cutOf, Cond.instanceMethod yX7_cutOf]
def wsX7_many_r3 : List Cond := [Cond.selects RX7 yX7_cutOf yX7_cutOf, Cond.code yX7_cutOf cX7_cutOf 1 (some .int)]
def wsX7_many : List Cond := .code yX7_many cX7_many 3 (some .int) :: ((wsX7_many_r1 ++ (wsX7_many_r2 ++ wsX7_many_r3)) ++ wsX70)
def wsX7_which_r1 : List Cond := [Cond.constant RX7 172 (-1000000), Cond.constant RX7 173 (-2000000), Cond.fieldLink RX7 7 "StackedLeavesModel" "now" "[I", Cond.methodLink RX7 47 yX7_in, Cond.static yX7_in, Cond.initialized RX7, Cond.code yX7_in cX7_in 3 (some .boolean), Cond.methodLink RX7 169 yX7_isSo, Cond.instanceMethod yX7_isSo, Cond.selects RX7 yX7_isSo yX7_isSo, Cond.code yX7_isSo cX7_isSo 4 (some .boolean), Cond.fieldLink RX7 102 "StackedLeavesModel" "facts" "I", Cond.fieldLink RX7 26 "StackedLeavesModel" "factLoad" "[I", Cond.fieldLink RX7 29 "StackedLeavesModel" "factBend" "[I", Cond.methodLink RX7 55 yX7_isWhole, Cond.instanceMethod yX7_isWhole, Cond.selects RX7 yX7_isWhole yX7_isWhole, Cond.code yX7_isWhole cX7_isWhole 2 (some .boolean), Cond.methodLink RX7 51 yX7_of, Cond.instanceMethod yX7_of, Cond.selects RX7 yX7_of yX7_of, Cond.code yX7_of cX7_of 3 (some .int), Cond.methodLink RX7 166 yX7_bendWithout, Cond.instanceMethod yX7_bendWithout]
def wsX7_which_r2 : List Cond := [Cond.selects RX7 yX7_bendWithout yX7_bendWithout, Cond.code yX7_bendWithout cX7_bendWithout 3 (some .int), Cond.methodLink RX7 135 yX7_all, Cond.instanceMethod yX7_all, Cond.selects RX7 yX7_all yX7_all, Cond.code yX7_all cX7_all 1 (some .int), Cond.methodLink RX7 131 yX7_whole, Cond.instanceMethod yX7_whole, Cond.selects RX7 yX7_whole yX7_whole, Cond.code yX7_whole cX7_whole 3 (some .int), Cond.methodLink RX7 138 yX7_bends, Cond.instanceMethod yX7_bends, Cond.selects RX7 yX7_bends yX7_bends, Cond.code yX7_bends cX7_bends 8 none, Cond.fieldLink RX7 112 "StackedLeavesModel" "above" "I", Cond.fieldLink RX7 115 "StackedLeavesModel" "below" "I", Cond.fieldLink RX7 118 "StackedLeavesModel" "rates" "I", Cond.fieldLink RX7 121 "StackedLeavesModel" "isBent" "Z", Cond.fieldLink RX7 38 "StackedLeavesModel" "reach" "[I", Cond.methodLink RX7 108 yX7_reaches, Cond.instanceMethod yX7_reaches, Cond.selects RX7 yX7_reaches yX7_reaches, Cond.code yX7_reaches cX7_reaches 6 none, Cond.fieldLink RX7 35 "StackedLeavesModel" "nip" "[I"]
def wsX7_which_r3 : List Cond := [Cond.methodLink RX7 59 yX7_has, Cond.static yX7_has, Cond.code yX7_has cX7_has 2 (some .boolean), Cond.methodLink RX7 154 yX7_cutOf, Cond.instanceMethod yX7_cutOf, Cond.selects RX7 yX7_cutOf yX7_cutOf, Cond.code yX7_cutOf cX7_cutOf 1 (some .int), Cond.methodLink RX7 174 yX7_many, Cond.instanceMethod yX7_many, Cond.selects RX7 yX7_many yX7_many, Cond.code yX7_many cX7_many 3 (some .int)]
def wsX7_which : List Cond := .code yX7_which cX7_which 4 (some .int) :: ((wsX7_which_r1 ++ (wsX7_which_r2 ++ wsX7_which_r3)) ++ wsX70)
def wsX7_mostAlike_r1 : List Cond := [Cond.fieldLink RX7 7 "StackedLeavesModel" "now" "[I", Cond.fieldLink RX7 44 "StackedLeavesModel" "bend" "[I", Cond.fieldLink RX7 41 "StackedLeavesModel" "may" "[Z", Cond.methodLink RX7 166 yX7_bendWithout, Cond.instanceMethod yX7_bendWithout, Cond.selects RX7 yX7_bendWithout yX7_bendWithout, Cond.initialized RX7, Cond.code yX7_bendWithout cX7_bendWithout 3 (some .int), Cond.methodLink RX7 135 yX7_all, Cond.instanceMethod yX7_all, Cond.selects RX7 yX7_all yX7_all, Cond.code yX7_all cX7_all 1 (some .int), Cond.methodLink RX7 131 yX7_whole, Cond.instanceMethod yX7_whole, Cond.selects RX7 yX7_whole yX7_whole, Cond.code yX7_whole cX7_whole 3 (some .int), Cond.methodLink RX7 55 yX7_isWhole, Cond.instanceMethod yX7_isWhole, Cond.selects RX7 yX7_isWhole yX7_isWhole, Cond.code yX7_isWhole cX7_isWhole 2 (some .boolean), Cond.methodLink RX7 51 yX7_of, Cond.instanceMethod yX7_of, Cond.selects RX7 yX7_of yX7_of, Cond.code yX7_of cX7_of 3 (some .int)]
def wsX7_mostAlike_r2 : List Cond := [Cond.methodLink RX7 138 yX7_bends, Cond.instanceMethod yX7_bends, Cond.selects RX7 yX7_bends yX7_bends, Cond.code yX7_bends cX7_bends 8 none, Cond.fieldLink RX7 112 "StackedLeavesModel" "above" "I", Cond.fieldLink RX7 115 "StackedLeavesModel" "below" "I", Cond.fieldLink RX7 118 "StackedLeavesModel" "rates" "I", Cond.fieldLink RX7 121 "StackedLeavesModel" "isBent" "Z", Cond.fieldLink RX7 38 "StackedLeavesModel" "reach" "[I", Cond.methodLink RX7 108 yX7_reaches, Cond.instanceMethod yX7_reaches, Cond.selects RX7 yX7_reaches yX7_reaches, Cond.code yX7_reaches cX7_reaches 6 none, Cond.fieldLink RX7 35 "StackedLeavesModel" "nip" "[I", Cond.methodLink RX7 59 yX7_has, Cond.static yX7_has, Cond.code yX7_has cX7_has 2 (some .boolean), Cond.methodLink RX7 154 yX7_cutOf, Cond.instanceMethod yX7_cutOf, Cond.selects RX7 yX7_cutOf yX7_cutOf, Cond.code yX7_cutOf cX7_cutOf 1 (some .int)]
def wsX7_mostAlike : List Cond := .code yX7_mostAlike cX7_mostAlike 6 (some .int) :: ((wsX7_mostAlike_r1 ++ wsX7_mostAlike_r2) ++ wsX70)
def wsX7_ask_r1 : List Cond := [Cond.fieldLink RX7 7 "StackedLeavesModel" "now" "[I", Cond.fieldLink RX7 41 "StackedLeavesModel" "may" "[Z", Cond.methodLink RX7 174 yX7_many, Cond.instanceMethod yX7_many, Cond.selects RX7 yX7_many yX7_many, Cond.initialized RX7, Cond.code yX7_many cX7_many 3 (some .int), Cond.methodLink RX7 169 yX7_isSo, Cond.instanceMethod yX7_isSo, Cond.selects RX7 yX7_isSo yX7_isSo, Cond.code yX7_isSo cX7_isSo 4 (some .boolean), Cond.fieldLink RX7 102 "StackedLeavesModel" "facts" "I", Cond.fieldLink RX7 26 "StackedLeavesModel" "factLoad" "[I", Cond.fieldLink RX7 29 "StackedLeavesModel" "factBend" "[I", Cond.methodLink RX7 55 yX7_isWhole, Cond.instanceMethod yX7_isWhole, Cond.selects RX7 yX7_isWhole yX7_isWhole, Cond.code yX7_isWhole cX7_isWhole 2 (some .boolean), Cond.methodLink RX7 51 yX7_of, Cond.instanceMethod yX7_of, Cond.selects RX7 yX7_of yX7_of, Cond.code yX7_of cX7_of 3 (some .int), Cond.methodLink RX7 166 yX7_bendWithout, Cond.instanceMethod yX7_bendWithout]
def wsX7_ask_r2 : List Cond := [Cond.selects RX7 yX7_bendWithout yX7_bendWithout, Cond.code yX7_bendWithout cX7_bendWithout 3 (some .int), Cond.methodLink RX7 135 yX7_all, Cond.instanceMethod yX7_all, Cond.selects RX7 yX7_all yX7_all, Cond.code yX7_all cX7_all 1 (some .int), Cond.methodLink RX7 131 yX7_whole, Cond.instanceMethod yX7_whole, Cond.selects RX7 yX7_whole yX7_whole, Cond.code yX7_whole cX7_whole 3 (some .int), Cond.methodLink RX7 138 yX7_bends, Cond.instanceMethod yX7_bends, Cond.selects RX7 yX7_bends yX7_bends, Cond.code yX7_bends cX7_bends 8 none, Cond.fieldLink RX7 112 "StackedLeavesModel" "above" "I", Cond.fieldLink RX7 115 "StackedLeavesModel" "below" "I", Cond.fieldLink RX7 118 "StackedLeavesModel" "rates" "I", Cond.fieldLink RX7 121 "StackedLeavesModel" "isBent" "Z", Cond.fieldLink RX7 38 "StackedLeavesModel" "reach" "[I", Cond.methodLink RX7 108 yX7_reaches, Cond.instanceMethod yX7_reaches, Cond.selects RX7 yX7_reaches yX7_reaches, Cond.code yX7_reaches cX7_reaches 6 none, Cond.fieldLink RX7 35 "StackedLeavesModel" "nip" "[I"]
def wsX7_ask_r3 : List Cond := [Cond.methodLink RX7 59 yX7_has, Cond.static yX7_has, Cond.code yX7_has cX7_has 2 (some .boolean), Cond.methodLink RX7 154 yX7_cutOf, Cond.instanceMethod yX7_cutOf, Cond.selects RX7 yX7_cutOf yX7_cutOf, Cond.code yX7_cutOf cX7_cutOf 1 (some .int), Cond.methodLink RX7 177 yX7_mostAlike, Cond.instanceMethod yX7_mostAlike, Cond.selects RX7 yX7_mostAlike yX7_mostAlike, Cond.code yX7_mostAlike cX7_mostAlike 6 (some .int), Cond.fieldLink RX7 44 "StackedLeavesModel" "bend" "[I"]
def wsX7_ask : List Cond := .code yX7_ask cX7_ask 5 (some .int) :: ((wsX7_ask_r1 ++ (wsX7_ask_r2 ++ wsX7_ask_r3)) ++ wsX70)
def wsX7_keep : List Cond := .code yX7_keep cX7_keep 3 (some .int) :: ([.fieldLink RX7 19 "StackedLeavesModel" "images" "[I", .fieldLink RX7 7 "StackedLeavesModel" "now" "[I", .fieldLink RX7 22 "StackedLeavesModel" "kept" "[Z", .methodLink RX7 47 yX7_in, .static yX7_in, .initialized RX7, .code yX7_in cX7_in 3 (some .boolean)] ++ wsX70)
def wsX7_back : List Cond := .code yX7_back cX7_back 3 (some .int) :: ([.fieldLink RX7 22 "StackedLeavesModel" "kept" "[Z", .fieldLink RX7 7 "StackedLeavesModel" "now" "[I", .fieldLink RX7 19 "StackedLeavesModel" "images" "[I", .fieldLink RX7 105 "StackedLeavesModel" "pasts" "I", .methodLink RX7 47 yX7_in, .static yX7_in, .initialized RX7, .code yX7_in cX7_in 3 (some .boolean)] ++ wsX70)
def wsX7_count_r1 : List Cond := [Cond.fieldLink RX7 7 "StackedLeavesModel" "now" "[I", Cond.fieldLink RX7 38 "StackedLeavesModel" "reach" "[I", Cond.fieldLink RX7 102 "StackedLeavesModel" "facts" "I", Cond.fieldLink RX7 63 "StackedLeavesModel" "typed" "I", Cond.fieldLink RX7 105 "StackedLeavesModel" "pasts" "I", Cond.methodLink RX7 55 yX7_isWhole, Cond.instanceMethod yX7_isWhole, Cond.selects RX7 yX7_isWhole yX7_isWhole, Cond.initialized RX7, Cond.code yX7_isWhole cX7_isWhole 2 (some .boolean), Cond.methodLink RX7 51 yX7_of, Cond.instanceMethod yX7_of, Cond.selects RX7 yX7_of yX7_of, Cond.code yX7_of cX7_of 3 (some .int), Cond.methodLink RX7 131 yX7_whole, Cond.instanceMethod yX7_whole, Cond.selects RX7 yX7_whole yX7_whole, Cond.code yX7_whole cX7_whole 3 (some .int), Cond.methodLink RX7 145 yX7_ones, Cond.static yX7_ones, Cond.code yX7_ones cX7_ones 3 (some .int), Cond.methodLink RX7 59 yX7_has, Cond.static yX7_has, Cond.code yX7_has cX7_has 2 (some .boolean)]
def wsX7_count_r2 : List Cond := [Cond.methodLink RX7 135 yX7_all, Cond.instanceMethod yX7_all, Cond.selects RX7 yX7_all yX7_all, Cond.code yX7_all cX7_all 1 (some .int), Cond.methodLink RX7 108 yX7_reaches, Cond.instanceMethod yX7_reaches, Cond.selects RX7 yX7_reaches yX7_reaches, Cond.code yX7_reaches cX7_reaches 6 none, Cond.fieldLink RX7 35 "StackedLeavesModel" "nip" "[I"]
def wsX7_count : List Cond := .code yX7_count cX7_count 5 (some .int) :: ((wsX7_count_r1 ++ wsX7_count_r2) ++ wsX70)
def wsJ9_max_7cf53 : List Cond := .code yJ9_max_7cf53 cJ9_max_7cf53 2 (some .int) :: ([])
def wsJ9_min_7cf53 : List Cond := .code yJ9_min_7cf53 cJ9_min_7cf53 2 (some .int) :: ([])
def wsL_law_r1 : List Cond := [Cond.classLink RL 7 RX6, Cond.instantiable RX6 8, Cond.initialized RX6, Cond.classLink RL 10 RX7, Cond.instantiable RX7 23, Cond.initialized RX7, Cond.methodLink RL 9 yX6_init, Cond.instanceMethod yX6_init, Cond.code yX6_init cX6_init 1 none, Cond.methodLink RX6 3 objectInit, Cond.instanceMethod objectInit, Cond.code objectInit ⟨#[0xb1]⟩ 1 none, Cond.classLink RX6 9 RX2, Cond.instantiable RX2 3, Cond.initialized RX2, Cond.fieldLink RX6 12 "StackedLeaves" "leaves" "LStackedLeaves$Leaves;", Cond.fieldLink RX6 16 "StackedLeaves" "draft" "LStackedLeaves$Leaves;", Cond.classLink RX6 19 RX5, Cond.instantiable RX5 2, Cond.initialized RX5, Cond.fieldLink RX6 22 "StackedLeaves" "text" "LStackedLeaves$Text;", Cond.classLink RX6 26 RX0, Cond.instantiable RX0 3, Cond.initialized RX0]
def wsL_law_r2 : List Cond := [Cond.fieldLink RX6 29 "StackedLeaves" "history" "LStackedLeaves$History;", Cond.classLink RX6 33 RX1, Cond.instantiable RX1 2, Cond.initialized RX1, Cond.fieldLink RX6 36 "StackedLeaves" "images" "LStackedLeaves$Images;", Cond.classLink RX6 40 RX4, Cond.instantiable RX4 3, Cond.initialized RX4, Cond.fieldLink RX6 43 "StackedLeaves" "sightings" "LStackedLeaves$Sightings;", Cond.classLink RX6 47 RX3, Cond.instantiable RX3 8, Cond.initialized RX3, Cond.fieldLink RX6 50 "StackedLeaves" "pack" "LStackedLeaves$Pack;", Cond.arrayClass .int, Cond.fieldLink RX6 54 "StackedLeaves" "cuts" "[I", Cond.methodLink RX6 11 yX2_init, Cond.instanceMethod yX2_init, Cond.code yX2_init cX2_init 1 none, Cond.methodLink RX2 3 objectInit, Cond.fieldLink RX2 9 "StackedLeaves$Leaves" "numbers" "[I", Cond.fieldLink RX2 15 "StackedLeaves$Leaves" "size" "I", Cond.fieldLink RX2 19 "StackedLeaves$Leaves" "whole" "I", Cond.instanceMethod yX5_init, Cond.code yX5_init cX5_init 1 none]
def wsL_law_r3 : List Cond := [Cond.methodLink RX5 3 objectInit, Cond.arrayClass .char, Cond.fieldLink RX5 9 "StackedLeaves$Text" "letters" "[C", Cond.methodLink RX6 28 yX0_init, Cond.instanceMethod yX0_init, Cond.code yX0_init cX0_init 2 none, Cond.methodLink RX0 3 objectInit, Cond.classLink RX0 9 RX2, Cond.fieldLink RX0 11 "StackedLeaves$History" "ring" "[LStackedLeaves$Leaves;", Cond.methodLink RX0 17 yX2_init, Cond.methodLink RX6 35 yX1_init, Cond.instanceMethod yX1_init, Cond.code yX1_init cX1_init 2 none, Cond.methodLink RX1 3 objectInit, Cond.classLink RX1 9 RX2, Cond.fieldLink RX1 11 "StackedLeaves$Images" "images" "[LStackedLeaves$Leaves;", Cond.methodLink RX1 17 yX2_init, Cond.instanceMethod yX4_init, Cond.code yX4_init cX4_init 1 none, Cond.methodLink RX4 3 objectInit, Cond.fieldLink RX4 9 "StackedLeaves$Sightings" "loads" "[I", Cond.fieldLink RX4 15 "StackedLeaves$Sightings" "bends" "[I", Cond.instanceMethod yX3_init, Cond.code yX3_init cX3_init 1 none]
def wsL_law_r4 : List Cond := [Cond.methodLink RX3 3 objectInit, Cond.fieldLink RX3 9 "StackedLeaves$Pack" "reach" "[I", Cond.fieldLink RX3 15 "StackedLeaves$Pack" "stiff" "[I", Cond.fieldLink RX3 18 "StackedLeaves$Pack" "strength" "[I", Cond.methodLink RL 12 yX7_init, Cond.instanceMethod yX7_init, Cond.code yX7_init cX7_init 1 none, Cond.methodLink RX7 1 objectInit, Cond.fieldLink RX7 7 "StackedLeavesModel" "now" "[I", Cond.fieldLink RX7 13 "StackedLeavesModel" "draft" "[I", Cond.fieldLink RX7 16 "StackedLeavesModel" "past" "[I", Cond.fieldLink RX7 19 "StackedLeavesModel" "images" "[I", Cond.arrayClass .boolean, Cond.fieldLink RX7 22 "StackedLeavesModel" "kept" "[Z", Cond.fieldLink RX7 26 "StackedLeavesModel" "factLoad" "[I", Cond.fieldLink RX7 29 "StackedLeavesModel" "factBend" "[I", Cond.fieldLink RX7 32 "StackedLeavesModel" "text" "[I", Cond.fieldLink RX7 35 "StackedLeavesModel" "nip" "[I", Cond.fieldLink RX7 38 "StackedLeavesModel" "reach" "[I", Cond.fieldLink RX7 41 "StackedLeavesModel" "may" "[Z", Cond.fieldLink RX7 44 "StackedLeavesModel" "bend" "[I", Cond.methodLink RL 13 yX6_type, Cond.instanceMethod yX6_type, Cond.selects RX6 yX6_type yX6_type]
def wsL_law_r5 : List Cond := [Cond.code yX6_type cX6_type 2 (some .int), Cond.methodLink RX6 58 yX5_append, Cond.instanceMethod yX5_append, Cond.selects RX5 yX5_append yX5_append, Cond.code yX5_append cX5_append 2 (some .boolean), Cond.fieldLink RX5 15 "StackedLeaves$Text" "size" "I", Cond.methodLink RL 17 yX7_type, Cond.instanceMethod yX7_type, Cond.selects RX7 yX7_type yX7_type, Cond.code yX7_type cX7_type 2 (some .int), Cond.fieldLink RX7 63 "StackedLeavesModel" "typed" "I", Cond.methodLink RX7 47 yX7_in, Cond.static yX7_in, Cond.code yX7_in cX7_in 3 (some .boolean), Cond.methodLink RL 18 yX6_clear, Cond.instanceMethod yX6_clear, Cond.selects RX6 yX6_clear yX6_clear, Cond.code yX6_clear cX6_clear 1 (some .int), Cond.methodLink RX6 66 yX5_empty, Cond.instanceMethod yX5_empty, Cond.selects RX5 yX5_empty yX5_empty, Cond.code yX5_empty cX5_empty 2 (some .int), Cond.methodLink RL 22 yX7_clear, Cond.instanceMethod yX7_clear]
def wsL_law_r6 : List Cond := [Cond.selects RX7 yX7_clear yX7_clear, Cond.code yX7_clear cX7_clear 2 (some .int), Cond.methodLink RL 23 yX6_tells, Cond.instanceMethod yX6_tells, Cond.selects RX6 yX6_tells yX6_tells, Cond.code yX6_tells cX6_tells 2 (some .int), Cond.methodLink RX6 70 yX5_readInto, Cond.instanceMethod yX5_readInto, Cond.selects RX5 yX5_readInto yX5_readInto, Cond.code yX5_readInto cX5_readInto 6 (some .int), Cond.methodLink RX5 19 yX2_empty, Cond.instanceMethod yX2_empty, Cond.selects RX2 yX2_empty yX2_empty, Cond.code yX2_empty cX2_empty 1 none, Cond.methodLink RX5 24 yX5_behindBlanks, Cond.instanceMethod yX5_behindBlanks, Cond.selects RX5 yX5_behindBlanks yX5_behindBlanks, Cond.code yX5_behindBlanks cX5_behindBlanks 3 (some .int), Cond.methodLink RX5 28 yX5_tokenEnd, Cond.instanceMethod yX5_tokenEnd, Cond.selects RX5 yX5_tokenEnd yX5_tokenEnd, Cond.code yX5_tokenEnd cX5_tokenEnd 3 (some .int), Cond.methodLink RX5 36 yX5_isFigure, Cond.instanceMethod yX5_isFigure]
def wsL_law_r7 : List Cond := [Cond.selects RX5 yX5_isFigure yX5_isFigure, Cond.code yX5_isFigure cX5_isFigure 2 (some .boolean), Cond.methodLink RX5 31 yX5_takesToken, Cond.instanceMethod yX5_takesToken, Cond.selects RX5 yX5_takesToken yX5_takesToken, Cond.code yX5_takesToken cX5_takesToken 7 (some .boolean), Cond.methodLink RX5 40 yX2_appendWhole, Cond.instanceMethod yX2_appendWhole, Cond.selects RX2 yX2_appendWhole yX2_appendWhole, Cond.code yX2_appendWhole cX2_appendWhole 1 none, Cond.methodLink RX5 43 yX5_numberAt, Cond.instanceMethod yX5_numberAt, Cond.selects RX5 yX5_numberAt yX5_numberAt, Cond.code yX5_numberAt cX5_numberAt 7 (some .int), Cond.methodLink RX5 51 yX2_mostOfNext, Cond.instanceMethod yX2_mostOfNext, Cond.selects RX2 yX2_mostOfNext yX2_mostOfNext, Cond.code yX2_mostOfNext cX2_mostOfNext 2 (some .int), Cond.methodLink RX2 32 yX2_number, Cond.instanceMethod yX2_number, Cond.selects RX2 yX2_number yX2_number, Cond.code yX2_number cX2_number 3 (some .int), Cond.methodLink RX5 54 yX2_put, Cond.instanceMethod yX2_put]
def wsL_law_r8 : List Cond := [Cond.selects RX2 yX2_put yX2_put, Cond.code yX2_put cX2_put 4 none, Cond.methodLink RX6 74 yX0_push, Cond.instanceMethod yX0_push, Cond.selects RX0 yX0_push yX0_push, Cond.code yX0_push cX0_push 2 none, Cond.fieldLink RX0 18 "StackedLeaves$History" "next" "I", Cond.fieldLink RX0 26 "StackedLeaves$History" "size" "I", Cond.methodLink RX0 29 Lib.Math.min.name, Cond.static Lib.Math.min.name, Cond.initialized "java/lang/Math", Cond.code Lib.Math.min.name Lib.Math.min.code 2 (some .int), Cond.methodLink RX0 22 yX2_become, Cond.instanceMethod yX2_become, Cond.selects RX2 yX2_become yX2_become, Cond.code yX2_become cX2_become 2 none, Cond.methodLink RX2 22 arraycopyName, Cond.native arraycopyName, Cond.static arraycopyName, Cond.initialized "java/lang/System", Cond.methodLink RX6 78 yX2_become, Cond.methodLink RX6 81 yX4_empty, Cond.instanceMethod yX4_empty, Cond.selects RX4 yX4_empty yX4_empty]
def wsL_law_r9 : List Cond := [Cond.code yX4_empty cX4_empty 2 (some .int), Cond.fieldLink RX4 18 "StackedLeaves$Sightings" "size" "I", Cond.methodLink RX6 82 yX1_empty, Cond.instanceMethod yX1_empty, Cond.selects RX1 yX1_empty yX1_empty, Cond.code yX1_empty cX1_empty 1 none, Cond.fieldLink RX1 22 "StackedLeaves$Images" "kept" "I", Cond.methodLink RL 26 yX7_tells, Cond.instanceMethod yX7_tells, Cond.selects RX7 yX7_tells yX7_tells, Cond.code yX7_tells cX7_tells 2 (some .int), Cond.fieldLink RX7 74 "StackedLeavesModel" "start" "I", Cond.fieldLink RX7 102 "StackedLeavesModel" "facts" "I", Cond.methodLink RX7 96 yX7_reads, Cond.instanceMethod yX7_reads, Cond.selects RX7 yX7_reads yX7_reads, Cond.code yX7_reads cX7_reads 2 (some .boolean), Cond.fieldLink RX7 67 "StackedLeavesModel" "at" "I", Cond.fieldLink RX7 80 "StackedLeavesModel" "sort" "I", Cond.methodLink RX7 86 yX7_token, Cond.instanceMethod yX7_token, Cond.selects RX7 yX7_token yX7_token, Cond.code yX7_token cX7_token 2 none, Cond.fieldLink RX7 83 "StackedLeavesModel" "value" "I"]
def wsL_law_r10 : List Cond := [Cond.methodLink RX7 70 yX7_letterAt, Cond.instanceMethod yX7_letterAt, Cond.selects RX7 yX7_letterAt yX7_letterAt, Cond.code yX7_letterAt cX7_letterAt 2 (some .int), Cond.methodLink RX7 77 yX7_isFigure, Cond.static yX7_isFigure, Cond.code yX7_isFigure cX7_isFigure 1 (some .boolean), Cond.methodLink RX7 92 yX7_readsLeaf, Cond.instanceMethod yX7_readsLeaf, Cond.selects RX7 yX7_readsLeaf yX7_readsLeaf, Cond.code yX7_readsLeaf cX7_readsLeaf 4 (some .boolean), Cond.methodLink RX7 89 yX7_number, Cond.instanceMethod yX7_number, Cond.selects RX7 yX7_number yX7_number, Cond.code yX7_number cX7_number 4 (some .boolean), Cond.methodLink RX7 99 yX7_notes, Cond.instanceMethod yX7_notes, Cond.selects RX7 yX7_notes yX7_notes, Cond.code yX7_notes cX7_notes 2 none, Cond.fieldLink RX7 105 "StackedLeavesModel" "pasts" "I", Cond.methodLink RL 27 yX6_loads, Cond.instanceMethod yX6_loads, Cond.selects RX6 yX6_loads yX6_loads, Cond.code yX6_loads cX6_loads 4 (some .int)]
def wsL_law_r11 : List Cond := [Cond.methodLink RX6 85 yX6_isLoad, Cond.static yX6_isLoad, Cond.code yX6_isLoad cX6_isLoad 1 (some .boolean), Cond.methodLink RX6 91 yX6_stackAll, Cond.instanceMethod yX6_stackAll, Cond.selects RX6 yX6_stackAll yX6_stackAll, Cond.code yX6_stackAll cX6_stackAll 2 none, Cond.methodLink RX6 201 yX3_stack, Cond.instanceMethod yX3_stack, Cond.selects RX3 yX3_stack yX3_stack, Cond.code yX3_stack cX3_stack 7 none, Cond.fieldLink RX3 27 "StackedLeaves$Pack" "size" "I", Cond.fieldLink RX3 28 "StackedLeaves$Pack" "bearers" "I", Cond.static yX6_holds, Cond.code yX6_holds cX6_holds 2 (some .boolean), Cond.methodLink RX3 35 yX2_nip, Cond.instanceMethod yX2_nip, Cond.selects RX2 yX2_nip yX2_nip, Cond.code yX2_nip cX2_nip 3 (some .int), Cond.methodLink RX2 39 Lib.Math.max.name, Cond.static Lib.Math.max.name, Cond.code Lib.Math.max.name Lib.Math.max.code 2 (some .int), Cond.methodLink RX3 39 yX2_number, Cond.methodLink RX6 95 yX3_wholeAfter]
def wsL_law_r12 : List Cond := [Cond.instanceMethod yX3_wholeAfter, Cond.selects RX3 yX3_wholeAfter yX3_wholeAfter, Cond.code yX3_wholeAfter cX3_wholeAfter 4 (some .int), Cond.methodLink RX3 71 yX3_firstToBreak, Cond.instanceMethod yX3_firstToBreak, Cond.selects RX3 yX3_firstToBreak yX3_firstToBreak, Cond.code yX3_firstToBreak cX3_firstToBreak 5 (some .int), Cond.methodLink RX3 51 yX3_press, Cond.instanceMethod yX3_press, Cond.selects RX3 yX3_press yX3_press, Cond.code yX3_press cX3_press 5 (some .boolean), Cond.fieldLink RX3 42 "StackedLeaves$Pack" "upper" "I", Cond.fieldLink RX3 45 "StackedLeaves$Pack" "lower" "I", Cond.fieldLink RX3 48 "StackedLeaves$Pack" "pressedStiff" "I", Cond.methodLink RX3 68 yX3_excess, Cond.instanceMethod yX3_excess, Cond.selects RX3 yX3_excess yX3_excess, Cond.code yX3_excess cX3_excess 2 (some .int), Cond.methodLink RX3 64 yX3_borne, Cond.instanceMethod yX3_borne, Cond.selects RX3 yX3_borne yX3_borne, Cond.code yX3_borne cX3_borne 2 (some .int), Cond.methodLink RX3 59 Lib.Math.max.name, Cond.methodLink RX6 99 yJ6_bitCount_0f7a4]
def wsL_law_r13 : List Cond := [Cond.static yJ6_bitCount_0f7a4, Cond.initialized RJ6, Cond.code yJ6_bitCount_0f7a4 cJ6_bitCount_0f7a4 1 (some .int), Cond.constant RJ6 265 (1431655765), Cond.constant RJ6 266 (858993459), Cond.constant RJ6 267 (252645135), Cond.methodLink RL 30 yX7_loads, Cond.instanceMethod yX7_loads, Cond.selects RX7 yX7_loads yX7_loads, Cond.code yX7_loads cX7_loads 5 (some .int), Cond.methodLink RX7 131 yX7_whole, Cond.instanceMethod yX7_whole, Cond.selects RX7 yX7_whole yX7_whole, Cond.code yX7_whole cX7_whole 3 (some .int), Cond.methodLink RX7 55 yX7_isWhole, Cond.instanceMethod yX7_isWhole, Cond.selects RX7 yX7_isWhole yX7_isWhole, Cond.code yX7_isWhole cX7_isWhole 2 (some .boolean), Cond.methodLink RX7 51 yX7_of, Cond.instanceMethod yX7_of, Cond.selects RX7 yX7_of yX7_of, Cond.code yX7_of cX7_of 3 (some .int), Cond.methodLink RX7 145 yX7_ones, Cond.static yX7_ones]
def wsL_law_r14 : List Cond := [Cond.code yX7_ones cX7_ones 3 (some .int), Cond.methodLink RX7 59 yX7_has, Cond.static yX7_has, Cond.code yX7_has cX7_has 2 (some .boolean), Cond.methodLink RX7 148 yX7_wholeBehind, Cond.instanceMethod yX7_wholeBehind, Cond.selects RX7 yX7_wholeBehind yX7_wholeBehind, Cond.code yX7_wholeBehind cX7_wholeBehind 5 (some .int), Cond.methodLink RX7 135 yX7_all, Cond.instanceMethod yX7_all, Cond.selects RX7 yX7_all yX7_all, Cond.code yX7_all cX7_all 1 (some .int), Cond.methodLink RX7 138 yX7_bends, Cond.instanceMethod yX7_bends, Cond.selects RX7 yX7_bends yX7_bends, Cond.code yX7_bends cX7_bends 8 none, Cond.fieldLink RX7 112 "StackedLeavesModel" "above" "I", Cond.fieldLink RX7 115 "StackedLeavesModel" "below" "I", Cond.fieldLink RX7 118 "StackedLeavesModel" "rates" "I", Cond.fieldLink RX7 121 "StackedLeavesModel" "isBent" "Z", Cond.methodLink RX7 108 yX7_reaches, Cond.instanceMethod yX7_reaches, Cond.selects RX7 yX7_reaches yX7_reaches, Cond.code yX7_reaches cX7_reaches 6 none]
def wsL_law_r15 : List Cond := [Cond.methodLink RX7 142 yX7_breaking, Cond.instanceMethod yX7_breaking, Cond.selects RX7 yX7_breaking yX7_breaking, Cond.code yX7_breaking cX7_breaking 5 (some .int), Cond.methodLink RX7 128 yX7_beyond, Cond.instanceMethod yX7_beyond, Cond.selects RX7 yX7_beyond yX7_beyond, Cond.code yX7_beyond cX7_beyond 3 (some .int), Cond.methodLink RX7 125 yX7_bearsBy, Cond.instanceMethod yX7_bearsBy, Cond.selects RX7 yX7_bearsBy yX7_bearsBy, Cond.code yX7_bearsBy cX7_bearsBy 4 (some .int), Cond.methodLink RL 31 yX6_breaks, Cond.instanceMethod yX6_breaks, Cond.selects RX6 yX6_breaks yX6_breaks, Cond.code yX6_breaks cX6_breaks 2 (some .int), Cond.methodLink RX6 104 yX2_exists, Cond.instanceMethod yX2_exists, Cond.selects RX2 yX2_exists yX2_exists, Cond.code yX2_exists cX2_exists 2 (some .boolean), Cond.methodLink RX6 107 yX2_isWhole, Cond.instanceMethod yX2_isWhole, Cond.selects RX2 yX2_isWhole yX2_isWhole, Cond.code yX2_isWhole cX2_isWhole 2 (some .boolean)]
def wsL_law_r16 : List Cond := [Cond.methodLink RL 34 yX7_breaks, Cond.instanceMethod yX7_breaks, Cond.selects RX7 yX7_breaks yX7_breaks, Cond.code yX7_breaks cX7_breaks 2 (some .int), Cond.methodLink RX7 151 yX7_isLeaf, Cond.instanceMethod yX7_isLeaf, Cond.selects RX7 yX7_isLeaf yX7_isLeaf, Cond.code yX7_isLeaf cX7_isLeaf 2 (some .boolean), Cond.methodLink RL 35 yX6_mends, Cond.instanceMethod yX6_mends, Cond.selects RX6 yX6_mends yX6_mends, Cond.code yX6_mends cX6_mends 2 (some .int), Cond.methodLink RL 38 yX7_mends, Cond.instanceMethod yX7_mends, Cond.selects RX7 yX7_mends yX7_mends, Cond.code yX7_mends cX7_mends 2 (some .int), Cond.methodLink RL 39 yX6_cambers, Cond.instanceMethod yX6_cambers, Cond.selects RX6 yX6_cambers yX6_cambers, Cond.code yX6_cambers cX6_cambers 4 (some .int), Cond.fieldLink RX6 110 "StackedLeaves" "LEAST_NUMBER" "[I", Cond.fieldLink RX6 113 "StackedLeaves" "MOST_NUMBER" "[I", Cond.methodLink RX6 116 yX2_number, Cond.methodLink RX6 120 yX2_put]
def wsL_law_r17 : List Cond := [Cond.methodLink RL 43 yX7_cambers, Cond.instanceMethod yX7_cambers, Cond.selects RX7 yX7_cambers yX7_cambers, Cond.code yX7_cambers cX7_cambers 4 (some .int), Cond.methodLink RL 44 yX6_undo, Cond.instanceMethod yX6_undo, Cond.selects RX6 yX6_undo yX6_undo, Cond.code yX6_undo cX6_undo 1 (some .int), Cond.methodLink RX6 124 yX0_popInto, Cond.instanceMethod yX0_popInto, Cond.selects RX0 yX0_popInto yX0_popInto, Cond.code yX0_popInto cX0_popInto 2 (some .boolean), Cond.methodLink RL 47 yX7_undo, Cond.instanceMethod yX7_undo, Cond.selects RX7 yX7_undo yX7_undo, Cond.code yX7_undo cX7_undo 2 (some .int), Cond.methodLink RL 48 yX6_leaf, Cond.instanceMethod yX6_leaf, Cond.selects RX6 yX6_leaf yX6_leaf, Cond.code yX6_leaf cX6_leaf 3 (some .int), Cond.methodLink RX6 129 yX2_nip, Cond.methodLink RL 51 yX7_leaf, Cond.instanceMethod yX7_leaf, Cond.selects RX7 yX7_leaf yX7_leaf]
def wsL_law_r18 : List Cond := [Cond.code yX7_leaf cX7_leaf 3 (some .int), Cond.methodLink RL 52 yX6_bend, Cond.instanceMethod yX6_bend, Cond.selects RX6 yX6_bend yX6_bend, Cond.code yX6_bend cX6_bend 3 (some .int), Cond.methodLink RX6 135 yX3_press, Cond.methodLink RX6 138 yX3_cut, Cond.instanceMethod yX3_cut, Cond.selects RX3 yX3_cut yX3_cut, Cond.code yX3_cut cX3_cut 1 (some .int), Cond.methodLink RX6 147 yX6_partInLowestTerms, Cond.static yX6_partInLowestTerms, Cond.code yX6_partInLowestTerms cX6_partInLowestTerms 4 (some .int), Cond.methodLink RX6 205 yX6_greatestDivisor, Cond.static yX6_greatestDivisor, Cond.code yX6_greatestDivisor cX6_greatestDivisor 6 (some .int), Cond.methodLink RX6 208 Lib.Math.max.name, Cond.methodLink RL 55 yX7_bend, Cond.instanceMethod yX7_bend, Cond.selects RX7 yX7_bend yX7_bend, Cond.code yX7_bend cX7_bend 4 (some .int), Cond.methodLink RX7 154 yX7_cutOf, Cond.instanceMethod yX7_cutOf, Cond.selects RX7 yX7_cutOf yX7_cutOf]
def wsL_law_r19 : List Cond := [Cond.code yX7_cutOf cX7_cutOf 1 (some .int), Cond.methodLink RX7 157 yX7_common, Cond.static yX7_common, Cond.code yX7_common cX7_common 5 (some .int), Cond.methodLink RL 56 yX6_bears, Cond.instanceMethod yX6_bears, Cond.selects RX6 yX6_bears yX6_bears, Cond.code yX6_bears cX6_bears 4 (some .int), Cond.methodLink RX6 151 yX3_excess, Cond.methodLink RX6 154 yX3_borne, Cond.methodLink RL 60 yX7_bears, Cond.instanceMethod yX7_bears, Cond.selects RX7 yX7_bears yX7_bears, Cond.code yX7_bears cX7_bears 7 (some .int), Cond.methodLink RL 61 yX6_rate, Cond.instanceMethod yX6_rate, Cond.selects RX6 yX6_rate yX6_rate, Cond.code yX6_rate cX6_rate 2 (some .int), Cond.methodLink RL 64 yX7_rate, Cond.instanceMethod yX7_rate, Cond.selects RX7 yX7_rate yX7_rate, Cond.code yX7_rate cX7_rate 2 (some .int), Cond.methodLink RL 65 yX6_least, Cond.instanceMethod yX6_least]
def wsL_law_r20 : List Cond := [Cond.selects RX6 yX6_least yX6_least, Cond.code yX6_least cX6_least 3 (some .int), Cond.methodLink RX6 160 yX3_leastTooMuch, Cond.instanceMethod yX3_leastTooMuch, Cond.selects RX3 yX3_leastTooMuch yX3_leastTooMuch, Cond.code yX3_leastTooMuch cX3_leastTooMuch 5 (some .int), Cond.methodLink RX6 163 yX3_firstToBreak, Cond.methodLink RL 68 yX7_least, Cond.instanceMethod yX7_least, Cond.selects RX7 yX7_least yX7_least, Cond.code yX7_least cX7_least 5 (some .int), Cond.methodLink RL 69 yX6_knee, Cond.instanceMethod yX6_knee, Cond.selects RX6 yX6_knee yX6_knee, Cond.code yX6_knee cX6_knee 6 (some .int), Cond.methodLink RX6 166 yX3_loadAt, Cond.instanceMethod yX3_loadAt, Cond.selects RX3 yX3_loadAt yX3_loadAt, Cond.code yX3_loadAt cX3_loadAt 4 (some .int), Cond.methodLink RL 72 yX7_knee, Cond.instanceMethod yX7_knee, Cond.selects RX7 yX7_knee yX7_knee, Cond.code yX7_knee cX7_knee 7 (some .int), Cond.methodLink RX7 160 yX7_loadAt]
def wsL_law_r21 : List Cond := [Cond.instanceMethod yX7_loadAt, Cond.selects RX7 yX7_loadAt yX7_loadAt, Cond.code yX7_loadAt cX7_loadAt 4 (some .int), Cond.methodLink RL 73 yX6_chosen, Cond.instanceMethod yX6_chosen, Cond.selects RX6 yX6_chosen yX6_chosen, Cond.code yX6_chosen cX6_chosen 5 (some .int), Cond.methodLink RX6 169 yX6_fewestThatHold, Cond.instanceMethod yX6_fewestThatHold, Cond.selects RX6 yX6_fewestThatHold yX6_fewestThatHold, Cond.code yX6_fewestThatHold cX6_fewestThatHold 7 (some .int), Cond.methodLink RX6 213 yX3_bearsWithin, Cond.instanceMethod yX3_bearsWithin, Cond.selects RX3 yX3_bearsWithin yX3_bearsWithin, Cond.code yX3_bearsWithin cX3_bearsWithin 3 (some .boolean), Cond.methodLink RL 76 yX7_chosen, Cond.instanceMethod yX7_chosen, Cond.selects RX7 yX7_chosen yX7_chosen, Cond.code yX7_chosen cX7_chosen 9 (some .int), Cond.methodLink RX7 163 yX7_isChoice, Cond.instanceMethod yX7_isChoice, Cond.selects RX7 yX7_isChoice yX7_isChoice, Cond.code yX7_isChoice cX7_isChoice 4 (some .boolean), Cond.methodLink RL 77 yX6_sees]
def wsL_law_r22 : List Cond := [Cond.instanceMethod yX6_sees, Cond.selects RX6 yX6_sees yX6_sees, Cond.code yX6_sees cX6_sees 3 (some .int), Cond.methodLink RX6 172 yX4_append, Cond.instanceMethod yX4_append, Cond.selects RX4 yX4_append yX4_append, Cond.code yX4_append cX4_append 3 (some .boolean), Cond.methodLink RL 80 yX7_sees, Cond.instanceMethod yX7_sees, Cond.selects RX7 yX7_sees yX7_sees, Cond.code yX7_sees cX7_sees 3 (some .int), Cond.methodLink RL 81 yX6_forget, Cond.instanceMethod yX6_forget, Cond.selects RX6 yX6_forget yX6_forget, Cond.code yX6_forget cX6_forget 1 (some .int), Cond.methodLink RL 84 yX7_forget, Cond.instanceMethod yX7_forget, Cond.selects RX7 yX7_forget yX7_forget, Cond.code yX7_forget cX7_forget 2 (some .int), Cond.methodLink RL 85 yX6_which, Cond.instanceMethod yX6_which, Cond.selects RX6 yX6_which yX6_which, Cond.code yX6_which cX6_which 4 (some .int), Cond.constant RX6 176 (-1000000)]
def wsL_law_r23 : List Cond := [Cond.constant RX6 183 (-2000000), Cond.methodLink RX6 177 yX6_suspects, Cond.instanceMethod yX6_suspects, Cond.selects RX6 yX6_suspects yX6_suspects, Cond.code yX6_suspects cX6_suspects 3 (some .int), Cond.methodLink RX6 216 yX6_stackSuspect, Cond.instanceMethod yX6_stackSuspect, Cond.selects RX6 yX6_stackSuspect yX6_stackSuspect, Cond.code yX6_stackSuspect cX6_stackSuspect 3 none, Cond.methodLink RX6 219 yX4_agreeWith, Cond.instanceMethod yX4_agreeWith, Cond.selects RX4 yX4_agreeWith yX4_agreeWith, Cond.code yX4_agreeWith cX4_agreeWith 3 (some .boolean), Cond.methodLink RX4 22 yX3_cutBy, Cond.instanceMethod yX3_cutBy, Cond.selects RX3 yX3_cutBy yX3_cutBy, Cond.code yX3_cutBy cX3_cutBy 2 (some .int), Cond.methodLink RX3 55 yX3_cut, Cond.methodLink RX6 180 yX6_holds, Cond.methodLink RL 88 yX7_which, Cond.instanceMethod yX7_which, Cond.selects RX7 yX7_which yX7_which, Cond.code yX7_which cX7_which 4 (some .int), Cond.constant RX7 172 (-1000000)]
def wsL_law_r24 : List Cond := [Cond.constant RX7 173 (-2000000), Cond.methodLink RX7 169 yX7_isSo, Cond.instanceMethod yX7_isSo, Cond.selects RX7 yX7_isSo yX7_isSo, Cond.code yX7_isSo cX7_isSo 4 (some .boolean), Cond.methodLink RX7 166 yX7_bendWithout, Cond.instanceMethod yX7_bendWithout, Cond.selects RX7 yX7_bendWithout yX7_bendWithout, Cond.code yX7_bendWithout cX7_bendWithout 3 (some .int), Cond.methodLink RX7 174 yX7_many, Cond.instanceMethod yX7_many, Cond.selects RX7 yX7_many yX7_many, Cond.code yX7_many cX7_many 3 (some .int), Cond.methodLink RL 89 yX6_ask, Cond.instanceMethod yX6_ask, Cond.selects RX6 yX6_ask yX6_ask, Cond.code yX6_ask cX6_ask 6 (some .int), Cond.methodLink RX6 184 yX6_mostAlike, Cond.instanceMethod yX6_mostAlike, Cond.selects RX6 yX6_mostAlike yX6_mostAlike, Cond.code yX6_mostAlike cX6_mostAlike 5 (some .int), Cond.methodLink RX6 223 yX3_cutBy, Cond.methodLink RX6 226 yX6_alikeUpTo, Cond.instanceMethod yX6_alikeUpTo]
def wsL_law_r25 : List Cond := [Cond.selects RX6 yX6_alikeUpTo yX6_alikeUpTo, Cond.code yX6_alikeUpTo cX6_alikeUpTo 5 (some .int), Cond.methodLink RL 92 yX7_ask, Cond.instanceMethod yX7_ask, Cond.selects RX7 yX7_ask yX7_ask, Cond.code yX7_ask cX7_ask 5 (some .int), Cond.methodLink RX7 177 yX7_mostAlike, Cond.instanceMethod yX7_mostAlike, Cond.selects RX7 yX7_mostAlike yX7_mostAlike, Cond.code yX7_mostAlike cX7_mostAlike 6 (some .int), Cond.methodLink RL 93 yX6_keep, Cond.instanceMethod yX6_keep, Cond.selects RX6 yX6_keep yX6_keep, Cond.code yX6_keep cX6_keep 2 (some .int), Cond.methodLink RX6 187 yX1_put, Cond.instanceMethod yX1_put, Cond.selects RX1 yX1_put yX1_put, Cond.code yX1_put cX1_put 3 none, Cond.methodLink RX1 18 yX2_become, Cond.methodLink RL 96 yX7_keep, Cond.instanceMethod yX7_keep, Cond.selects RX7 yX7_keep yX7_keep, Cond.code yX7_keep cX7_keep 3 (some .int), Cond.methodLink RL 97 yX6_back]
def wsL_law_r26 : List Cond := [Cond.instanceMethod yX6_back, Cond.selects RX6 yX6_back yX6_back, Cond.code yX6_back cX6_back 2 (some .int), Cond.methodLink RX6 190 yX1_getInto, Cond.instanceMethod yX1_getInto, Cond.selects RX1 yX1_getInto yX1_getInto, Cond.code yX1_getInto cX1_getInto 3 (some .boolean), Cond.methodLink RX6 194 yX0_empty, Cond.instanceMethod yX0_empty, Cond.selects RX0 yX0_empty yX0_empty, Cond.code yX0_empty cX0_empty 1 none, Cond.methodLink RL 100 yX7_back, Cond.instanceMethod yX7_back, Cond.selects RX7 yX7_back yX7_back, Cond.code yX7_back cX7_back 3 (some .int), Cond.methodLink RL 101 yX6_count, Cond.instanceMethod yX6_count, Cond.selects RX6 yX6_count yX6_count, Cond.code yX6_count cX6_count 2 (some .int), Cond.methodLink RX6 195 yX2_sum, Cond.instanceMethod yX2_sum, Cond.selects RX2 yX2_sum yX2_sum, Cond.code yX2_sum cX2_sum 5 (some .int), Cond.methodLink RX6 198 yX6_leaf]
def wsL_law_r27 : List Cond := [Cond.methodLink RL 104 yX7_count, Cond.instanceMethod yX7_count, Cond.selects RX7 yX7_count yX7_count, Cond.code yX7_count cX7_count 5 (some .int)]
def wsL_law : List Cond := (wsL_law_r1 ++ (wsL_law_r2 ++ (wsL_law_r3 ++ (wsL_law_r4 ++ (wsL_law_r5 ++ (wsL_law_r6 ++ (wsL_law_r7 ++ (wsL_law_r8 ++ (wsL_law_r9 ++ (wsL_law_r10 ++ (wsL_law_r11 ++ (wsL_law_r12 ++ (wsL_law_r13 ++ (wsL_law_r14 ++ (wsL_law_r15 ++ (wsL_law_r16 ++ (wsL_law_r17 ++ (wsL_law_r18 ++ (wsL_law_r19 ++ (wsL_law_r20 ++ (wsL_law_r21 ++ (wsL_law_r22 ++ (wsL_law_r23 ++ (wsL_law_r24 ++ (wsL_law_r25 ++ (wsL_law_r26 ++ wsL_law_r27)))))))))))))))))))))))))) ++ wsX60 ++ wsX70 ++ wsX20 ++ wsX50 ++ wsX00 ++ wsX10 ++ wsX40 ++ wsX30 ++ ([] : List Cond)
theorem inlX0 : ∀ w ∈ wsX00, w ∈ wsL_law := fun _ h => List.mem_append_left _ (List.mem_append_left _ (List.mem_append_left _ (List.mem_append_left _ (List.mem_append_right _ h))))
theorem inlX1 : ∀ w ∈ wsX10, w ∈ wsL_law := fun _ h => List.mem_append_left _ (List.mem_append_left _ (List.mem_append_left _ (List.mem_append_right _ h)))
theorem inlX2 : ∀ w ∈ wsX20, w ∈ wsL_law := fun _ h => List.mem_append_left _ (List.mem_append_left _ (List.mem_append_left _ (List.mem_append_left _ (List.mem_append_left _ (List.mem_append_left _ (List.mem_append_right _ h))))))
theorem inlX3 : ∀ w ∈ wsX30, w ∈ wsL_law := fun _ h => List.mem_append_left _ (List.mem_append_right _ h)
theorem inlX4 : ∀ w ∈ wsX40, w ∈ wsL_law := fun _ h => List.mem_append_left _ (List.mem_append_left _ (List.mem_append_right _ h))
theorem inlX5 : ∀ w ∈ wsX50, w ∈ wsL_law := fun _ h => List.mem_append_left _ (List.mem_append_left _ (List.mem_append_left _ (List.mem_append_left _ (List.mem_append_left _ (List.mem_append_right _ h)))))
theorem inlX6 : ∀ w ∈ wsX60, w ∈ wsL_law := fun _ h => List.mem_append_left _ (List.mem_append_left _ (List.mem_append_left _ (List.mem_append_left _ (List.mem_append_left _ (List.mem_append_left _ (List.mem_append_left _ (List.mem_append_left _ (List.mem_append_right _ h))))))))
theorem inlX7 : ∀ w ∈ wsX70, w ∈ wsL_law := fun _ h => List.mem_append_left _ (List.mem_append_left _ (List.mem_append_left _ (List.mem_append_left _ (List.mem_append_left _ (List.mem_append_left _ (List.mem_append_left _ (List.mem_append_right _ h)))))))
abbrev vwCl : List vw_C := [(RX0, TX0, 3), (RX1, TX1, 2), (RX2, TX2, 3), (RX3, TX3, 8), (RX4, TX4, 3), (RX5, TX5, 2), (RX6, TX6, 8), (RX7, TX7, 23)]
end
section
set_option maxRecDepth 20000 in
theorem ggX0_init_X2_init : GoodIn wsX0_init wsX2_init := goodIn_r _ [10, 11, 2, 3, 12, 13, 14, 15, 19, 20, 21] (by decide +kernel) (by decide +kernel)
set_option maxRecDepth 20000 in
theorem gX0_init_X2_init : GoodIn wsX0_init (wsX2_init) := ggX0_init_X2_init
theorem dX0_init_0 : decode cX0_init 0 = .ok (.aload_n 0, 1) := by decide +kernel
theorem dX0_init_1 : decode cX0_init 1 = .ok (.invokespecial 3, 3) := by decide +kernel
theorem dX0_init_4 : decode cX0_init 4 = .ok (.aload_n 0, 1) := by decide +kernel
theorem dX0_init_5 : decode cX0_init 5 = .ok (.bipush 6, 2) := by decide +kernel
theorem dX0_init_7 : decode cX0_init 7 = .ok (.anewarray 9, 3) := by decide +kernel
theorem dX0_init_10 : decode cX0_init 10 = .ok (.putfield 11, 3) := by decide +kernel
theorem dX0_init_13 : decode cX0_init 13 = .ok (.iconst 0, 1) := by decide +kernel
theorem dX0_init_14 : decode cX0_init 14 = .ok (.istore_n 1, 1) := by decide +kernel
theorem dX0_init_15 : decode cX0_init 15 = .ok (.iload_n 1, 1) := by decide +kernel
theorem dX0_init_16 : decode cX0_init 16 = .ok (.bipush 6, 2) := by decide +kernel
theorem dX0_init_18 : decode cX0_init 18 = .ok (.if_icmp .ge 22, 3) := by decide +kernel
theorem dX0_init_21 : decode cX0_init 21 = .ok (.aload_n 0, 1) := by decide +kernel
theorem dX0_init_22 : decode cX0_init 22 = .ok (.getfield 11, 3) := by decide +kernel
theorem dX0_init_25 : decode cX0_init 25 = .ok (.iload_n 1, 1) := by decide +kernel
theorem dX0_init_26 : decode cX0_init 26 = .ok (.new 9, 3) := by decide +kernel
theorem dX0_init_29 : decode cX0_init 29 = .ok (.dup, 1) := by decide +kernel
theorem dX0_init_30 : decode cX0_init 30 = .ok (.invokespecial 17, 3) := by decide +kernel
theorem dX0_init_33 : decode cX0_init 33 = .ok (.aastore, 1) := by decide +kernel
theorem dX0_init_34 : decode cX0_init 34 = .ok (.iinc 1 1, 3) := by decide +kernel
theorem dX0_init_37 : decode cX0_init 37 = .ok (.goto (-22), 3) := by decide +kernel
theorem dX0_init_40 : decode cX0_init 40 = .ok (.return_, 1) := by decide +kernel
set_option maxRecDepth 20000 in
theorem ggX0_push_X2_become : GoodIn wsX0_push wsX2_become := goodIn_r _ [12, 13, 14, 15, 16, 17, 18, 19, 23, 24, 25] (by decide +kernel) (by decide +kernel)
set_option maxRecDepth 20000 in
theorem gX0_push_X2_become : GoodIn wsX0_push (wsV RX0 22 RX2 yX2_become wsX2_become) := goodIn_app (goodIn_of _ (by decide +kernel)) ggX0_push_X2_become
theorem dX0_push_0 : decode cX0_push 0 = .ok (.aload_n 0, 1) := by decide +kernel
theorem dX0_push_1 : decode cX0_push 1 = .ok (.getfield 11, 3) := by decide +kernel
theorem dX0_push_4 : decode cX0_push 4 = .ok (.aload_n 0, 1) := by decide +kernel
theorem dX0_push_5 : decode cX0_push 5 = .ok (.getfield 18, 3) := by decide +kernel
theorem dX0_push_8 : decode cX0_push 8 = .ok (.aaload, 1) := by decide +kernel
theorem dX0_push_9 : decode cX0_push 9 = .ok (.aload_n 1, 1) := by decide +kernel
theorem dX0_push_10 : decode cX0_push 10 = .ok (.invokevirtual 22, 3) := by decide +kernel
theorem dX0_push_13 : decode cX0_push 13 = .ok (.aload_n 0, 1) := by decide +kernel
theorem dX0_push_14 : decode cX0_push 14 = .ok (.aload_n 0, 1) := by decide +kernel
theorem dX0_push_15 : decode cX0_push 15 = .ok (.getfield 18, 3) := by decide +kernel
theorem dX0_push_18 : decode cX0_push 18 = .ok (.iconst 5, 1) := by decide +kernel
theorem dX0_push_19 : decode cX0_push 19 = .ok (.if_icmp .ne 7, 3) := by decide +kernel
theorem dX0_push_22 : decode cX0_push 22 = .ok (.iconst 0, 1) := by decide +kernel
theorem dX0_push_23 : decode cX0_push 23 = .ok (.goto 9, 3) := by decide +kernel
theorem dX0_push_26 : decode cX0_push 26 = .ok (.aload_n 0, 1) := by decide +kernel
theorem dX0_push_27 : decode cX0_push 27 = .ok (.getfield 18, 3) := by decide +kernel
theorem dX0_push_30 : decode cX0_push 30 = .ok (.iconst 1, 1) := by decide +kernel
theorem dX0_push_31 : decode cX0_push 31 = .ok (.iadd, 1) := by decide +kernel
theorem dX0_push_32 : decode cX0_push 32 = .ok (.putfield 18, 3) := by decide +kernel
theorem dX0_push_35 : decode cX0_push 35 = .ok (.aload_n 0, 1) := by decide +kernel
theorem dX0_push_36 : decode cX0_push 36 = .ok (.aload_n 0, 1) := by decide +kernel
theorem dX0_push_37 : decode cX0_push 37 = .ok (.getfield 26, 3) := by decide +kernel
theorem dX0_push_40 : decode cX0_push 40 = .ok (.iconst 1, 1) := by decide +kernel
theorem dX0_push_41 : decode cX0_push 41 = .ok (.iadd, 1) := by decide +kernel
theorem dX0_push_42 : decode cX0_push 42 = .ok (.bipush 6, 2) := by decide +kernel
theorem dX0_push_44 : decode cX0_push 44 = .ok (.invokestatic 29, 3) := by decide +kernel
theorem dX0_push_47 : decode cX0_push 47 = .ok (.putfield 26, 3) := by decide +kernel
theorem dX0_push_50 : decode cX0_push 50 = .ok (.return_, 1) := by decide +kernel
set_option maxRecDepth 20000 in
theorem ggX0_popInto_X2_become : GoodIn wsX0_popInto wsX2_become := goodIn_r _ [8, 9, 10, 11, 12, 13, 14, 15, 19, 20, 21] (by decide +kernel) (by decide +kernel)
set_option maxRecDepth 20000 in
theorem gX0_popInto_X2_become : GoodIn wsX0_popInto (wsV RX0 22 RX2 yX2_become wsX2_become) := goodIn_app (goodIn_of _ (by decide +kernel)) ggX0_popInto_X2_become
theorem dX0_popInto_0 : decode cX0_popInto 0 = .ok (.aload_n 0, 1) := by decide +kernel
theorem dX0_popInto_1 : decode cX0_popInto 1 = .ok (.getfield 26, 3) := by decide +kernel
theorem dX0_popInto_4 : decode cX0_popInto 4 = .ok (.ifCond .ne 5, 3) := by decide +kernel
theorem dX0_popInto_7 : decode cX0_popInto 7 = .ok (.iconst 0, 1) := by decide +kernel
theorem dX0_popInto_8 : decode cX0_popInto 8 = .ok (.ireturn, 1) := by decide +kernel
theorem dX0_popInto_9 : decode cX0_popInto 9 = .ok (.aload_n 0, 1) := by decide +kernel
theorem dX0_popInto_10 : decode cX0_popInto 10 = .ok (.aload_n 0, 1) := by decide +kernel
theorem dX0_popInto_11 : decode cX0_popInto 11 = .ok (.getfield 18, 3) := by decide +kernel
theorem dX0_popInto_14 : decode cX0_popInto 14 = .ok (.ifCond .ne 7, 3) := by decide +kernel
theorem dX0_popInto_17 : decode cX0_popInto 17 = .ok (.iconst 5, 1) := by decide +kernel
theorem dX0_popInto_18 : decode cX0_popInto 18 = .ok (.goto 9, 3) := by decide +kernel
theorem dX0_popInto_21 : decode cX0_popInto 21 = .ok (.aload_n 0, 1) := by decide +kernel
theorem dX0_popInto_22 : decode cX0_popInto 22 = .ok (.getfield 18, 3) := by decide +kernel
theorem dX0_popInto_25 : decode cX0_popInto 25 = .ok (.iconst 1, 1) := by decide +kernel
theorem dX0_popInto_26 : decode cX0_popInto 26 = .ok (.isub, 1) := by decide +kernel
theorem dX0_popInto_27 : decode cX0_popInto 27 = .ok (.putfield 18, 3) := by decide +kernel
theorem dX0_popInto_30 : decode cX0_popInto 30 = .ok (.aload_n 0, 1) := by decide +kernel
theorem dX0_popInto_31 : decode cX0_popInto 31 = .ok (.dup, 1) := by decide +kernel
theorem dX0_popInto_32 : decode cX0_popInto 32 = .ok (.getfield 26, 3) := by decide +kernel
theorem dX0_popInto_35 : decode cX0_popInto 35 = .ok (.iconst 1, 1) := by decide +kernel
theorem dX0_popInto_36 : decode cX0_popInto 36 = .ok (.isub, 1) := by decide +kernel
theorem dX0_popInto_37 : decode cX0_popInto 37 = .ok (.putfield 26, 3) := by decide +kernel
theorem dX0_popInto_40 : decode cX0_popInto 40 = .ok (.aload_n 1, 1) := by decide +kernel
theorem dX0_popInto_41 : decode cX0_popInto 41 = .ok (.aload_n 0, 1) := by decide +kernel
theorem dX0_popInto_42 : decode cX0_popInto 42 = .ok (.getfield 11, 3) := by decide +kernel
theorem dX0_popInto_45 : decode cX0_popInto 45 = .ok (.aload_n 0, 1) := by decide +kernel
theorem dX0_popInto_46 : decode cX0_popInto 46 = .ok (.getfield 18, 3) := by decide +kernel
theorem dX0_popInto_49 : decode cX0_popInto 49 = .ok (.aaload, 1) := by decide +kernel
theorem dX0_popInto_50 : decode cX0_popInto 50 = .ok (.invokevirtual 22, 3) := by decide +kernel
theorem dX0_popInto_53 : decode cX0_popInto 53 = .ok (.iconst 1, 1) := by decide +kernel
theorem dX0_popInto_54 : decode cX0_popInto 54 = .ok (.ireturn, 1) := by decide +kernel
theorem dX0_empty_0 : decode cX0_empty 0 = .ok (.aload_n 0, 1) := by decide +kernel
theorem dX0_empty_1 : decode cX0_empty 1 = .ok (.iconst 0, 1) := by decide +kernel
theorem dX0_empty_2 : decode cX0_empty 2 = .ok (.putfield 26, 3) := by decide +kernel
theorem dX0_empty_5 : decode cX0_empty 5 = .ok (.return_, 1) := by decide +kernel
set_option maxRecDepth 20000 in
theorem ggX1_init_X2_init : GoodIn wsX1_init wsX2_init := goodIn_r _ [10, 11, 2, 3, 12, 13, 14, 15, 18, 19, 20] (by decide +kernel) (by decide +kernel)
set_option maxRecDepth 20000 in
theorem gX1_init_X2_init : GoodIn wsX1_init (wsX2_init) := ggX1_init_X2_init
theorem dX1_init_0 : decode cX1_init 0 = .ok (.aload_n 0, 1) := by decide +kernel
theorem dX1_init_1 : decode cX1_init 1 = .ok (.invokespecial 3, 3) := by decide +kernel
theorem dX1_init_4 : decode cX1_init 4 = .ok (.aload_n 0, 1) := by decide +kernel
theorem dX1_init_5 : decode cX1_init 5 = .ok (.iconst 2, 1) := by decide +kernel
theorem dX1_init_6 : decode cX1_init 6 = .ok (.anewarray 9, 3) := by decide +kernel
theorem dX1_init_9 : decode cX1_init 9 = .ok (.putfield 11, 3) := by decide +kernel
theorem dX1_init_12 : decode cX1_init 12 = .ok (.iconst 0, 1) := by decide +kernel
theorem dX1_init_13 : decode cX1_init 13 = .ok (.istore_n 1, 1) := by decide +kernel
theorem dX1_init_14 : decode cX1_init 14 = .ok (.iload_n 1, 1) := by decide +kernel
theorem dX1_init_15 : decode cX1_init 15 = .ok (.iconst 2, 1) := by decide +kernel
theorem dX1_init_16 : decode cX1_init 16 = .ok (.if_icmp .ge 22, 3) := by decide +kernel
theorem dX1_init_19 : decode cX1_init 19 = .ok (.aload_n 0, 1) := by decide +kernel
theorem dX1_init_20 : decode cX1_init 20 = .ok (.getfield 11, 3) := by decide +kernel
theorem dX1_init_23 : decode cX1_init 23 = .ok (.iload_n 1, 1) := by decide +kernel
theorem dX1_init_24 : decode cX1_init 24 = .ok (.new 9, 3) := by decide +kernel
theorem dX1_init_27 : decode cX1_init 27 = .ok (.dup, 1) := by decide +kernel
theorem dX1_init_28 : decode cX1_init 28 = .ok (.invokespecial 17, 3) := by decide +kernel
theorem dX1_init_31 : decode cX1_init 31 = .ok (.aastore, 1) := by decide +kernel
theorem dX1_init_32 : decode cX1_init 32 = .ok (.iinc 1 1, 3) := by decide +kernel
theorem dX1_init_35 : decode cX1_init 35 = .ok (.goto (-21), 3) := by decide +kernel
theorem dX1_init_38 : decode cX1_init 38 = .ok (.return_, 1) := by decide +kernel
set_option maxRecDepth 20000 in
theorem ggX1_put_X2_become : GoodIn wsX1_put wsX2_become := goodIn_r _ [7, 8, 9, 10, 11, 12, 13, 14, 17, 18, 19] (by decide +kernel) (by decide +kernel)
set_option maxRecDepth 20000 in
theorem gX1_put_X2_become : GoodIn wsX1_put (wsV RX1 18 RX2 yX2_become wsX2_become) := goodIn_app (goodIn_of _ (by decide +kernel)) ggX1_put_X2_become
theorem dX1_put_0 : decode cX1_put 0 = .ok (.aload_n 0, 1) := by decide +kernel
theorem dX1_put_1 : decode cX1_put 1 = .ok (.getfield 11, 3) := by decide +kernel
theorem dX1_put_4 : decode cX1_put 4 = .ok (.iload_n 1, 1) := by decide +kernel
theorem dX1_put_5 : decode cX1_put 5 = .ok (.aaload, 1) := by decide +kernel
theorem dX1_put_6 : decode cX1_put 6 = .ok (.aload_n 2, 1) := by decide +kernel
theorem dX1_put_7 : decode cX1_put 7 = .ok (.invokevirtual 18, 3) := by decide +kernel
theorem dX1_put_10 : decode cX1_put 10 = .ok (.aload_n 0, 1) := by decide +kernel
theorem dX1_put_11 : decode cX1_put 11 = .ok (.dup, 1) := by decide +kernel
theorem dX1_put_12 : decode cX1_put 12 = .ok (.getfield 22, 3) := by decide +kernel
theorem dX1_put_15 : decode cX1_put 15 = .ok (.iconst 1, 1) := by decide +kernel
theorem dX1_put_16 : decode cX1_put 16 = .ok (.iload_n 1, 1) := by decide +kernel
theorem dX1_put_17 : decode cX1_put 17 = .ok (.ishl, 1) := by decide +kernel
theorem dX1_put_18 : decode cX1_put 18 = .ok (.ior, 1) := by decide +kernel
theorem dX1_put_19 : decode cX1_put 19 = .ok (.putfield 22, 3) := by decide +kernel
theorem dX1_put_22 : decode cX1_put 22 = .ok (.return_, 1) := by decide +kernel
set_option maxRecDepth 20000 in
theorem ggX1_getInto_X6_holds : GoodIn wsX1_getInto wsX6_holds := goodIn_r _ [5] (by decide +kernel) (by decide +kernel)
set_option maxRecDepth 20000 in
theorem gX1_getInto_X6_holds_n26 : GoodIn wsX1_getInto (wsX6_holds) := ggX1_getInto_X6_holds
set_option maxRecDepth 20000 in
theorem ggX1_getInto_X2_become : GoodIn wsX1_getInto wsX2_become := goodIn_r _ [10, 11, 12, 13, 14, 15, 16, 17, 20, 21, 22] (by decide +kernel) (by decide +kernel)
set_option maxRecDepth 20000 in
theorem gX1_getInto_X2_become : GoodIn wsX1_getInto (wsV RX1 18 RX2 yX2_become wsX2_become) := goodIn_app (goodIn_of _ (by decide +kernel)) ggX1_getInto_X2_become
theorem dX1_getInto_0 : decode cX1_getInto 0 = .ok (.aload_n 0, 1) := by decide +kernel
theorem dX1_getInto_1 : decode cX1_getInto 1 = .ok (.getfield 22, 3) := by decide +kernel
theorem dX1_getInto_4 : decode cX1_getInto 4 = .ok (.iload_n 1, 1) := by decide +kernel
theorem dX1_getInto_5 : decode cX1_getInto 5 = .ok (.invokestatic 26, 3) := by decide +kernel
theorem dX1_getInto_8 : decode cX1_getInto 8 = .ok (.ifCond .ne 5, 3) := by decide +kernel
theorem dX1_getInto_11 : decode cX1_getInto 11 = .ok (.iconst 0, 1) := by decide +kernel
theorem dX1_getInto_12 : decode cX1_getInto 12 = .ok (.ireturn, 1) := by decide +kernel
theorem dX1_getInto_13 : decode cX1_getInto 13 = .ok (.aload_n 2, 1) := by decide +kernel
theorem dX1_getInto_14 : decode cX1_getInto 14 = .ok (.aload_n 0, 1) := by decide +kernel
theorem dX1_getInto_15 : decode cX1_getInto 15 = .ok (.getfield 11, 3) := by decide +kernel
theorem dX1_getInto_18 : decode cX1_getInto 18 = .ok (.iload_n 1, 1) := by decide +kernel
theorem dX1_getInto_19 : decode cX1_getInto 19 = .ok (.aaload, 1) := by decide +kernel
theorem dX1_getInto_20 : decode cX1_getInto 20 = .ok (.invokevirtual 18, 3) := by decide +kernel
theorem dX1_getInto_23 : decode cX1_getInto 23 = .ok (.iconst 1, 1) := by decide +kernel
theorem dX1_getInto_24 : decode cX1_getInto 24 = .ok (.ireturn, 1) := by decide +kernel
theorem dX1_empty_0 : decode cX1_empty 0 = .ok (.aload_n 0, 1) := by decide +kernel
theorem dX1_empty_1 : decode cX1_empty 1 = .ok (.iconst 0, 1) := by decide +kernel
theorem dX1_empty_2 : decode cX1_empty 2 = .ok (.putfield 22, 3) := by decide +kernel
theorem dX1_empty_5 : decode cX1_empty 5 = .ok (.return_, 1) := by decide +kernel
theorem dX2_init_0 : decode cX2_init 0 = .ok (.aload_n 0, 1) := by decide +kernel
theorem dX2_init_1 : decode cX2_init 1 = .ok (.invokespecial 3, 3) := by decide +kernel
theorem dX2_init_4 : decode cX2_init 4 = .ok (.aload_n 0, 1) := by decide +kernel
theorem dX2_init_5 : decode cX2_init 5 = .ok (.bipush 32, 2) := by decide +kernel
theorem dX2_init_7 : decode cX2_init 7 = .ok (.newarray .int, 2) := by decide +kernel
theorem dX2_init_9 : decode cX2_init 9 = .ok (.putfield 9, 3) := by decide +kernel
theorem dX2_init_12 : decode cX2_init 12 = .ok (.aload_n 0, 1) := by decide +kernel
theorem dX2_init_13 : decode cX2_init 13 = .ok (.iconst 1, 1) := by decide +kernel
theorem dX2_init_14 : decode cX2_init 14 = .ok (.putfield 15, 3) := by decide +kernel
theorem dX2_init_17 : decode cX2_init 17 = .ok (.aload_n 0, 1) := by decide +kernel
theorem dX2_init_18 : decode cX2_init 18 = .ok (.iconst 1, 1) := by decide +kernel
theorem dX2_init_19 : decode cX2_init 19 = .ok (.putfield 19, 3) := by decide +kernel
theorem dX2_init_22 : decode cX2_init 22 = .ok (.aload_n 0, 1) := by decide +kernel
theorem dX2_init_23 : decode cX2_init 23 = .ok (.getfield 9, 3) := by decide +kernel
theorem dX2_init_26 : decode cX2_init 26 = .ok (.iconst 0, 1) := by decide +kernel
theorem dX2_init_27 : decode cX2_init 27 = .ok (.iconst 1, 1) := by decide +kernel
theorem dX2_init_28 : decode cX2_init 28 = .ok (.iastore, 1) := by decide +kernel
theorem dX2_init_29 : decode cX2_init 29 = .ok (.aload_n 0, 1) := by decide +kernel
theorem dX2_init_30 : decode cX2_init 30 = .ok (.getfield 9, 3) := by decide +kernel
theorem dX2_init_33 : decode cX2_init 33 = .ok (.bipush 8, 2) := by decide +kernel
theorem dX2_init_35 : decode cX2_init 35 = .ok (.iconst 1, 1) := by decide +kernel
theorem dX2_init_36 : decode cX2_init 36 = .ok (.iastore, 1) := by decide +kernel
theorem dX2_init_37 : decode cX2_init 37 = .ok (.aload_n 0, 1) := by decide +kernel
theorem dX2_init_38 : decode cX2_init 38 = .ok (.getfield 9, 3) := by decide +kernel
theorem dX2_init_41 : decode cX2_init 41 = .ok (.bipush 16, 2) := by decide +kernel
theorem dX2_init_43 : decode cX2_init 43 = .ok (.iconst 0, 1) := by decide +kernel
theorem dX2_init_44 : decode cX2_init 44 = .ok (.iastore, 1) := by decide +kernel
theorem dX2_init_45 : decode cX2_init 45 = .ok (.aload_n 0, 1) := by decide +kernel
theorem dX2_init_46 : decode cX2_init 46 = .ok (.getfield 9, 3) := by decide +kernel
theorem dX2_init_49 : decode cX2_init 49 = .ok (.bipush 24, 2) := by decide +kernel
theorem dX2_init_51 : decode cX2_init 51 = .ok (.bipush 99, 2) := by decide +kernel
theorem dX2_init_53 : decode cX2_init 53 = .ok (.iastore, 1) := by decide +kernel
theorem dX2_init_54 : decode cX2_init 54 = .ok (.return_, 1) := by decide +kernel
theorem dX2_become_0 : decode cX2_become 0 = .ok (.aload_n 1, 1) := by decide +kernel
theorem dX2_become_1 : decode cX2_become 1 = .ok (.getfield 9, 3) := by decide +kernel
theorem dX2_become_4 : decode cX2_become 4 = .ok (.iconst 0, 1) := by decide +kernel
theorem dX2_become_5 : decode cX2_become 5 = .ok (.aload_n 0, 1) := by decide +kernel
theorem dX2_become_6 : decode cX2_become 6 = .ok (.getfield 9, 3) := by decide +kernel
theorem dX2_become_9 : decode cX2_become 9 = .ok (.iconst 0, 1) := by decide +kernel
theorem dX2_become_10 : decode cX2_become 10 = .ok (.bipush 32, 2) := by decide +kernel
theorem dX2_become_12 : decode cX2_become 12 = .ok (.invokestatic 22, 3) := by decide +kernel
theorem dX2_become_15 : decode cX2_become 15 = .ok (.aload_n 0, 1) := by decide +kernel
theorem dX2_become_16 : decode cX2_become 16 = .ok (.aload_n 1, 1) := by decide +kernel
theorem dX2_become_17 : decode cX2_become 17 = .ok (.getfield 15, 3) := by decide +kernel
theorem dX2_become_20 : decode cX2_become 20 = .ok (.putfield 15, 3) := by decide +kernel
theorem dX2_become_23 : decode cX2_become 23 = .ok (.aload_n 0, 1) := by decide +kernel
theorem dX2_become_24 : decode cX2_become 24 = .ok (.aload_n 1, 1) := by decide +kernel
theorem dX2_become_25 : decode cX2_become 25 = .ok (.getfield 19, 3) := by decide +kernel
theorem dX2_become_28 : decode cX2_become 28 = .ok (.putfield 19, 3) := by decide +kernel
theorem dX2_become_31 : decode cX2_become 31 = .ok (.return_, 1) := by decide +kernel
theorem dX2_empty_0 : decode cX2_empty 0 = .ok (.aload_n 0, 1) := by decide +kernel
theorem dX2_empty_1 : decode cX2_empty 1 = .ok (.iconst 0, 1) := by decide +kernel
theorem dX2_empty_2 : decode cX2_empty 2 = .ok (.putfield 15, 3) := by decide +kernel
theorem dX2_empty_5 : decode cX2_empty 5 = .ok (.aload_n 0, 1) := by decide +kernel
theorem dX2_empty_6 : decode cX2_empty 6 = .ok (.iconst 0, 1) := by decide +kernel
theorem dX2_empty_7 : decode cX2_empty 7 = .ok (.putfield 19, 3) := by decide +kernel
theorem dX2_empty_10 : decode cX2_empty 10 = .ok (.return_, 1) := by decide +kernel
theorem dX2_appendWhole_0 : decode cX2_appendWhole 0 = .ok (.aload_n 0, 1) := by decide +kernel
theorem dX2_appendWhole_1 : decode cX2_appendWhole 1 = .ok (.getfield 15, 3) := by decide +kernel
theorem dX2_appendWhole_4 : decode cX2_appendWhole 4 = .ok (.bipush 8, 2) := by decide +kernel
theorem dX2_appendWhole_6 : decode cX2_appendWhole 6 = .ok (.if_icmp .ge 28, 3) := by decide +kernel
theorem dX2_appendWhole_9 : decode cX2_appendWhole 9 = .ok (.aload_n 0, 1) := by decide +kernel
theorem dX2_appendWhole_10 : decode cX2_appendWhole 10 = .ok (.dup, 1) := by decide +kernel
theorem dX2_appendWhole_11 : decode cX2_appendWhole 11 = .ok (.getfield 19, 3) := by decide +kernel
theorem dX2_appendWhole_14 : decode cX2_appendWhole 14 = .ok (.iconst 1, 1) := by decide +kernel
theorem dX2_appendWhole_15 : decode cX2_appendWhole 15 = .ok (.aload_n 0, 1) := by decide +kernel
theorem dX2_appendWhole_16 : decode cX2_appendWhole 16 = .ok (.getfield 15, 3) := by decide +kernel
theorem dX2_appendWhole_19 : decode cX2_appendWhole 19 = .ok (.ishl, 1) := by decide +kernel
theorem dX2_appendWhole_20 : decode cX2_appendWhole 20 = .ok (.ior, 1) := by decide +kernel
theorem dX2_appendWhole_21 : decode cX2_appendWhole 21 = .ok (.putfield 19, 3) := by decide +kernel
theorem dX2_appendWhole_24 : decode cX2_appendWhole 24 = .ok (.aload_n 0, 1) := by decide +kernel
theorem dX2_appendWhole_25 : decode cX2_appendWhole 25 = .ok (.dup, 1) := by decide +kernel
theorem dX2_appendWhole_26 : decode cX2_appendWhole 26 = .ok (.getfield 15, 3) := by decide +kernel
theorem dX2_appendWhole_29 : decode cX2_appendWhole 29 = .ok (.iconst 1, 1) := by decide +kernel
theorem dX2_appendWhole_30 : decode cX2_appendWhole 30 = .ok (.iadd, 1) := by decide +kernel
theorem dX2_appendWhole_31 : decode cX2_appendWhole 31 = .ok (.putfield 15, 3) := by decide +kernel
theorem dX2_appendWhole_34 : decode cX2_appendWhole 34 = .ok (.return_, 1) := by decide +kernel
theorem dX2_exists_0 : decode cX2_exists 0 = .ok (.iload_n 1, 1) := by decide +kernel
theorem dX2_exists_1 : decode cX2_exists 1 = .ok (.ifCond .lt 15, 3) := by decide +kernel
theorem dX2_exists_4 : decode cX2_exists 4 = .ok (.iload_n 1, 1) := by decide +kernel
theorem dX2_exists_5 : decode cX2_exists 5 = .ok (.aload_n 0, 1) := by decide +kernel
theorem dX2_exists_6 : decode cX2_exists 6 = .ok (.getfield 15, 3) := by decide +kernel
theorem dX2_exists_9 : decode cX2_exists 9 = .ok (.if_icmp .ge 7, 3) := by decide +kernel
theorem dX2_exists_12 : decode cX2_exists 12 = .ok (.iconst 1, 1) := by decide +kernel
theorem dX2_exists_13 : decode cX2_exists 13 = .ok (.goto 4, 3) := by decide +kernel
theorem dX2_exists_16 : decode cX2_exists 16 = .ok (.iconst 0, 1) := by decide +kernel
theorem dX2_exists_17 : decode cX2_exists 17 = .ok (.ireturn, 1) := by decide +kernel
set_option maxRecDepth 20000 in
theorem ggX2_isWhole_X6_holds : GoodIn wsX2_isWhole wsX6_holds := goodIn_r _ [4] (by decide +kernel) (by decide +kernel)
set_option maxRecDepth 20000 in
theorem gX2_isWhole_X6_holds_n28 : GoodIn wsX2_isWhole (wsX6_holds) := ggX2_isWhole_X6_holds
theorem dX2_isWhole_0 : decode cX2_isWhole 0 = .ok (.aload_n 0, 1) := by decide +kernel
theorem dX2_isWhole_1 : decode cX2_isWhole 1 = .ok (.getfield 19, 3) := by decide +kernel
theorem dX2_isWhole_4 : decode cX2_isWhole 4 = .ok (.iload_n 1, 1) := by decide +kernel
theorem dX2_isWhole_5 : decode cX2_isWhole 5 = .ok (.invokestatic 28, 3) := by decide +kernel
theorem dX2_isWhole_8 : decode cX2_isWhole 8 = .ok (.ireturn, 1) := by decide +kernel
theorem dX2_number_0 : decode cX2_number 0 = .ok (.aload_n 0, 1) := by decide +kernel
theorem dX2_number_1 : decode cX2_number 1 = .ok (.getfield 9, 3) := by decide +kernel
theorem dX2_number_4 : decode cX2_number 4 = .ok (.iload_n 1, 1) := by decide +kernel
theorem dX2_number_5 : decode cX2_number 5 = .ok (.bipush 8, 2) := by decide +kernel
theorem dX2_number_7 : decode cX2_number 7 = .ok (.imul, 1) := by decide +kernel
theorem dX2_number_8 : decode cX2_number 8 = .ok (.iload_n 2, 1) := by decide +kernel
theorem dX2_number_9 : decode cX2_number 9 = .ok (.iadd, 1) := by decide +kernel
theorem dX2_number_10 : decode cX2_number 10 = .ok (.iaload, 1) := by decide +kernel
theorem dX2_number_11 : decode cX2_number 11 = .ok (.ireturn, 1) := by decide +kernel
theorem dX2_put_0 : decode cX2_put 0 = .ok (.aload_n 0, 1) := by decide +kernel
theorem dX2_put_1 : decode cX2_put 1 = .ok (.getfield 9, 3) := by decide +kernel
theorem dX2_put_4 : decode cX2_put 4 = .ok (.iload_n 1, 1) := by decide +kernel
theorem dX2_put_5 : decode cX2_put 5 = .ok (.bipush 8, 2) := by decide +kernel
theorem dX2_put_7 : decode cX2_put 7 = .ok (.imul, 1) := by decide +kernel
theorem dX2_put_8 : decode cX2_put 8 = .ok (.iload_n 2, 1) := by decide +kernel
theorem dX2_put_9 : decode cX2_put 9 = .ok (.iadd, 1) := by decide +kernel
theorem dX2_put_10 : decode cX2_put 10 = .ok (.iload_n 3, 1) := by decide +kernel
theorem dX2_put_11 : decode cX2_put 11 = .ok (.iastore, 1) := by decide +kernel
theorem dX2_put_12 : decode cX2_put 12 = .ok (.return_, 1) := by decide +kernel
set_option maxRecDepth 20000 in
theorem ggX2_mostOfNext_X2_number : GoodIn wsX2_mostOfNext wsX2_number := goodIn_r _ [6, 7, 8, 9, 10] (by decide +kernel) (by decide +kernel)
set_option maxRecDepth 20000 in
theorem gX2_mostOfNext_X2_number : GoodIn wsX2_mostOfNext (wsV RX2 32 RX2 yX2_number wsX2_number) := goodIn_app (goodIn_of _ (by decide +kernel)) ggX2_mostOfNext_X2_number
theorem dX2_mostOfNext_0 : decode cX2_mostOfNext 0 = .ok (.iload_n 1, 1) := by decide +kernel
theorem dX2_mostOfNext_1 : decode cX2_mostOfNext 1 = .ok (.ifCond .ne 24, 3) := by decide +kernel
theorem dX2_mostOfNext_4 : decode cX2_mostOfNext 4 = .ok (.aload_n 0, 1) := by decide +kernel
theorem dX2_mostOfNext_5 : decode cX2_mostOfNext 5 = .ok (.getfield 15, 3) := by decide +kernel
theorem dX2_mostOfNext_8 : decode cX2_mostOfNext 8 = .ok (.ifCond .le 17, 3) := by decide +kernel
theorem dX2_mostOfNext_11 : decode cX2_mostOfNext 11 = .ok (.aload_n 0, 1) := by decide +kernel
theorem dX2_mostOfNext_12 : decode cX2_mostOfNext 12 = .ok (.iconst 0, 1) := by decide +kernel
theorem dX2_mostOfNext_13 : decode cX2_mostOfNext 13 = .ok (.aload_n 0, 1) := by decide +kernel
theorem dX2_mostOfNext_14 : decode cX2_mostOfNext 14 = .ok (.getfield 15, 3) := by decide +kernel
theorem dX2_mostOfNext_17 : decode cX2_mostOfNext 17 = .ok (.iconst 1, 1) := by decide +kernel
theorem dX2_mostOfNext_18 : decode cX2_mostOfNext 18 = .ok (.isub, 1) := by decide +kernel
theorem dX2_mostOfNext_19 : decode cX2_mostOfNext 19 = .ok (.invokevirtual 32, 3) := by decide +kernel
theorem dX2_mostOfNext_22 : decode cX2_mostOfNext 22 = .ok (.goto 8, 3) := by decide +kernel
theorem dX2_mostOfNext_25 : decode cX2_mostOfNext 25 = .ok (.getstatic 36, 3) := by decide +kernel
theorem dX2_mostOfNext_28 : decode cX2_mostOfNext 28 = .ok (.iload_n 1, 1) := by decide +kernel
theorem dX2_mostOfNext_29 : decode cX2_mostOfNext 29 = .ok (.iaload, 1) := by decide +kernel
theorem dX2_mostOfNext_30 : decode cX2_mostOfNext 30 = .ok (.ireturn, 1) := by decide +kernel
set_option maxRecDepth 20000 in
theorem ggX2_nip_X2_number : GoodIn wsX2_nip wsX2_number := goodIn_r _ [9, 10, 11, 12, 13] (by decide +kernel) (by decide +kernel)
set_option maxRecDepth 20000 in
theorem gX2_nip_X2_number : GoodIn wsX2_nip (wsV RX2 32 RX2 yX2_number wsX2_number) := goodIn_app (goodIn_of _ (by decide +kernel)) ggX2_nip_X2_number
theorem dX2_nip_0 : decode cX2_nip 0 = .ok (.iload_n 1, 1) := by decide +kernel
theorem dX2_nip_1 : decode cX2_nip 1 = .ok (.ifCond .ge 7, 3) := by decide +kernel
theorem dX2_nip_4 : decode cX2_nip 4 = .ok (.iconst 0, 1) := by decide +kernel
theorem dX2_nip_5 : decode cX2_nip 5 = .ok (.goto 20, 3) := by decide +kernel
theorem dX2_nip_8 : decode cX2_nip 8 = .ok (.iconst 0, 1) := by decide +kernel
theorem dX2_nip_9 : decode cX2_nip 9 = .ok (.aload_n 0, 1) := by decide +kernel
theorem dX2_nip_10 : decode cX2_nip 10 = .ok (.iconst 2, 1) := by decide +kernel
theorem dX2_nip_11 : decode cX2_nip 11 = .ok (.iload_n 1, 1) := by decide +kernel
theorem dX2_nip_12 : decode cX2_nip 12 = .ok (.invokevirtual 32, 3) := by decide +kernel
theorem dX2_nip_15 : decode cX2_nip 15 = .ok (.aload_n 0, 1) := by decide +kernel
theorem dX2_nip_16 : decode cX2_nip 16 = .ok (.iconst 2, 1) := by decide +kernel
theorem dX2_nip_17 : decode cX2_nip 17 = .ok (.iload_n 2, 1) := by decide +kernel
theorem dX2_nip_18 : decode cX2_nip 18 = .ok (.invokevirtual 32, 3) := by decide +kernel
theorem dX2_nip_21 : decode cX2_nip 21 = .ok (.isub, 1) := by decide +kernel
theorem dX2_nip_22 : decode cX2_nip 22 = .ok (.invokestatic 39, 3) := by decide +kernel
theorem dX2_nip_25 : decode cX2_nip 25 = .ok (.ireturn, 1) := by decide +kernel
set_option maxRecDepth 20000 in
theorem ggX2_sum_X6_holds : GoodIn wsX2_sum wsX6_holds := goodIn_r _ [4] (by decide +kernel) (by decide +kernel)
set_option maxRecDepth 20000 in
theorem gX2_sum_X6_holds_n28 : GoodIn wsX2_sum (wsX6_holds) := ggX2_sum_X6_holds
set_option maxRecDepth 20000 in
theorem ggX2_sum_X2_number : GoodIn wsX2_sum wsX2_number := goodIn_r _ [9, 10, 11, 12, 13] (by decide +kernel) (by decide +kernel)
set_option maxRecDepth 20000 in
theorem gX2_sum_X2_number : GoodIn wsX2_sum (wsV RX2 32 RX2 yX2_number wsX2_number) := goodIn_app (goodIn_of _ (by decide +kernel)) ggX2_sum_X2_number
theorem dX2_sum_0 : decode cX2_sum 0 = .ok (.iconst 0, 1) := by decide +kernel
theorem dX2_sum_1 : decode cX2_sum 1 = .ok (.istore_n 3, 1) := by decide +kernel
theorem dX2_sum_2 : decode cX2_sum 2 = .ok (.iconst 0, 1) := by decide +kernel
theorem dX2_sum_3 : decode cX2_sum 3 = .ok (.istore 4, 2) := by decide +kernel
theorem dX2_sum_5 : decode cX2_sum 5 = .ok (.iload 4, 2) := by decide +kernel
theorem dX2_sum_7 : decode cX2_sum 7 = .ok (.aload_n 0, 1) := by decide +kernel
theorem dX2_sum_8 : decode cX2_sum 8 = .ok (.getfield 15, 3) := by decide +kernel
theorem dX2_sum_11 : decode cX2_sum 11 = .ok (.if_icmp .ge 28, 3) := by decide +kernel
theorem dX2_sum_14 : decode cX2_sum 14 = .ok (.iload_n 2, 1) := by decide +kernel
theorem dX2_sum_15 : decode cX2_sum 15 = .ok (.iload 4, 2) := by decide +kernel
theorem dX2_sum_17 : decode cX2_sum 17 = .ok (.invokestatic 28, 3) := by decide +kernel
theorem dX2_sum_20 : decode cX2_sum 20 = .ok (.ifCond .eq 13, 3) := by decide +kernel
theorem dX2_sum_23 : decode cX2_sum 23 = .ok (.iload_n 3, 1) := by decide +kernel
theorem dX2_sum_24 : decode cX2_sum 24 = .ok (.aload_n 0, 1) := by decide +kernel
theorem dX2_sum_25 : decode cX2_sum 25 = .ok (.iload_n 1, 1) := by decide +kernel
theorem dX2_sum_26 : decode cX2_sum 26 = .ok (.iload 4, 2) := by decide +kernel
theorem dX2_sum_28 : decode cX2_sum 28 = .ok (.invokevirtual 32, 3) := by decide +kernel
theorem dX2_sum_31 : decode cX2_sum 31 = .ok (.iadd, 1) := by decide +kernel
theorem dX2_sum_32 : decode cX2_sum 32 = .ok (.istore_n 3, 1) := by decide +kernel
theorem dX2_sum_33 : decode cX2_sum 33 = .ok (.iinc 4 1, 3) := by decide +kernel
theorem dX2_sum_36 : decode cX2_sum 36 = .ok (.goto (-31), 3) := by decide +kernel
theorem dX2_sum_39 : decode cX2_sum 39 = .ok (.iload_n 3, 1) := by decide +kernel
theorem dX2_sum_40 : decode cX2_sum 40 = .ok (.ireturn, 1) := by decide +kernel
theorem dX3_init_0 : decode cX3_init 0 = .ok (.aload_n 0, 1) := by decide +kernel
theorem dX3_init_1 : decode cX3_init 1 = .ok (.invokespecial 3, 3) := by decide +kernel
theorem dX3_init_4 : decode cX3_init 4 = .ok (.aload_n 0, 1) := by decide +kernel
theorem dX3_init_5 : decode cX3_init 5 = .ok (.bipush 8, 2) := by decide +kernel
theorem dX3_init_7 : decode cX3_init 7 = .ok (.newarray .int, 2) := by decide +kernel
theorem dX3_init_9 : decode cX3_init 9 = .ok (.putfield 9, 3) := by decide +kernel
theorem dX3_init_12 : decode cX3_init 12 = .ok (.aload_n 0, 1) := by decide +kernel
theorem dX3_init_13 : decode cX3_init 13 = .ok (.bipush 8, 2) := by decide +kernel
theorem dX3_init_15 : decode cX3_init 15 = .ok (.newarray .int, 2) := by decide +kernel
theorem dX3_init_17 : decode cX3_init 17 = .ok (.putfield 15, 3) := by decide +kernel
theorem dX3_init_20 : decode cX3_init 20 = .ok (.aload_n 0, 1) := by decide +kernel
theorem dX3_init_21 : decode cX3_init 21 = .ok (.bipush 8, 2) := by decide +kernel
theorem dX3_init_23 : decode cX3_init 23 = .ok (.newarray .int, 2) := by decide +kernel
theorem dX3_init_25 : decode cX3_init 25 = .ok (.putfield 18, 3) := by decide +kernel
theorem dX3_init_28 : decode cX3_init 28 = .ok (.return_, 1) := by decide +kernel
set_option maxRecDepth 20000 in
theorem ggX3_stack_X6_holds : GoodIn wsX3_stack wsX6_holds := goodIn_r _ [8] (by decide +kernel) (by decide +kernel)
set_option maxRecDepth 20000 in
theorem gX3_stack_X6_holds_n31 : GoodIn wsX3_stack (wsX6_holds) := ggX3_stack_X6_holds
set_option maxRecDepth 20000 in
theorem ggX3_stack_X2_nip : GoodIn wsX3_stack wsX2_nip := goodIn_r _ [13, 14, 15, 16, 17, 18, 19, 20, 12, 21, 22, 24, 25, 26] (by decide +kernel) (by decide +kernel)
set_option maxRecDepth 20000 in
theorem gX3_stack_X2_nip : GoodIn wsX3_stack (wsV RX3 35 RX2 yX2_nip wsX2_nip) := goodIn_app (goodIn_of _ (by decide +kernel)) ggX3_stack_X2_nip
set_option maxRecDepth 20000 in
theorem ggX3_stack_X2_number : GoodIn wsX3_stack wsX2_number := goodIn_r _ [21, 22, 24, 25, 26] (by decide +kernel) (by decide +kernel)
set_option maxRecDepth 20000 in
theorem gX3_stack_X2_number : GoodIn wsX3_stack (wsV RX3 39 RX2 yX2_number wsX2_number) := goodIn_app (goodIn_of _ (by decide +kernel)) ggX3_stack_X2_number
theorem dX3_stack_0 : decode cX3_stack 0 = .ok (.aload_n 0, 1) := by decide +kernel
theorem dX3_stack_1 : decode cX3_stack 1 = .ok (.aload_n 1, 1) := by decide +kernel
theorem dX3_stack_2 : decode cX3_stack 2 = .ok (.getfield 21, 3) := by decide +kernel
theorem dX3_stack_5 : decode cX3_stack 5 = .ok (.putfield 27, 3) := by decide +kernel
theorem dX3_stack_8 : decode cX3_stack 8 = .ok (.aload_n 0, 1) := by decide +kernel
theorem dX3_stack_9 : decode cX3_stack 9 = .ok (.iload_n 2, 1) := by decide +kernel
theorem dX3_stack_10 : decode cX3_stack 10 = .ok (.iload_n 3, 1) := by decide +kernel
theorem dX3_stack_11 : decode cX3_stack 11 = .ok (.iand, 1) := by decide +kernel
theorem dX3_stack_12 : decode cX3_stack 12 = .ok (.putfield 28, 3) := by decide +kernel
theorem dX3_stack_15 : decode cX3_stack 15 = .ok (.iconst (-1), 1) := by decide +kernel
theorem dX3_stack_16 : decode cX3_stack 16 = .ok (.istore 4, 2) := by decide +kernel
theorem dX3_stack_18 : decode cX3_stack 18 = .ok (.iconst 0, 1) := by decide +kernel
theorem dX3_stack_19 : decode cX3_stack 19 = .ok (.istore 5, 2) := by decide +kernel
theorem dX3_stack_21 : decode cX3_stack 21 = .ok (.iconst 0, 1) := by decide +kernel
theorem dX3_stack_22 : decode cX3_stack 22 = .ok (.istore 6, 2) := by decide +kernel
theorem dX3_stack_24 : decode cX3_stack 24 = .ok (.iload 6, 2) := by decide +kernel
theorem dX3_stack_26 : decode cX3_stack 26 = .ok (.aload_n 0, 1) := by decide +kernel
theorem dX3_stack_27 : decode cX3_stack 27 = .ok (.getfield 27, 3) := by decide +kernel
theorem dX3_stack_30 : decode cX3_stack 30 = .ok (.if_icmp .ge 72, 3) := by decide +kernel
theorem dX3_stack_33 : decode cX3_stack 33 = .ok (.iload_n 2, 1) := by decide +kernel
theorem dX3_stack_34 : decode cX3_stack 34 = .ok (.iload 6, 2) := by decide +kernel
theorem dX3_stack_36 : decode cX3_stack 36 = .ok (.invokestatic 31, 3) := by decide +kernel
theorem dX3_stack_39 : decode cX3_stack 39 = .ok (.ifCond .eq 20, 3) := by decide +kernel
theorem dX3_stack_42 : decode cX3_stack 42 = .ok (.iload 5, 2) := by decide +kernel
theorem dX3_stack_44 : decode cX3_stack 44 = .ok (.aload_n 1, 1) := by decide +kernel
theorem dX3_stack_45 : decode cX3_stack 45 = .ok (.iload 4, 2) := by decide +kernel
theorem dX3_stack_47 : decode cX3_stack 47 = .ok (.iload 6, 2) := by decide +kernel
theorem dX3_stack_49 : decode cX3_stack 49 = .ok (.invokevirtual 35, 3) := by decide +kernel
theorem dX3_stack_52 : decode cX3_stack 52 = .ok (.iadd, 1) := by decide +kernel
theorem dX3_stack_53 : decode cX3_stack 53 = .ok (.istore 5, 2) := by decide +kernel
theorem dX3_stack_55 : decode cX3_stack 55 = .ok (.iload 6, 2) := by decide +kernel
theorem dX3_stack_57 : decode cX3_stack 57 = .ok (.istore 4, 2) := by decide +kernel
theorem dX3_stack_59 : decode cX3_stack 59 = .ok (.aload_n 0, 1) := by decide +kernel
theorem dX3_stack_60 : decode cX3_stack 60 = .ok (.getfield 9, 3) := by decide +kernel
theorem dX3_stack_63 : decode cX3_stack 63 = .ok (.iload 6, 2) := by decide +kernel
theorem dX3_stack_65 : decode cX3_stack 65 = .ok (.iload 5, 2) := by decide +kernel
theorem dX3_stack_67 : decode cX3_stack 67 = .ok (.iastore, 1) := by decide +kernel
theorem dX3_stack_68 : decode cX3_stack 68 = .ok (.aload_n 0, 1) := by decide +kernel
theorem dX3_stack_69 : decode cX3_stack 69 = .ok (.getfield 15, 3) := by decide +kernel
theorem dX3_stack_72 : decode cX3_stack 72 = .ok (.iload 6, 2) := by decide +kernel
theorem dX3_stack_74 : decode cX3_stack 74 = .ok (.aload_n 1, 1) := by decide +kernel
theorem dX3_stack_75 : decode cX3_stack 75 = .ok (.iconst 1, 1) := by decide +kernel
theorem dX3_stack_76 : decode cX3_stack 76 = .ok (.iload 6, 2) := by decide +kernel
theorem dX3_stack_78 : decode cX3_stack 78 = .ok (.invokevirtual 39, 3) := by decide +kernel
theorem dX3_stack_81 : decode cX3_stack 81 = .ok (.iastore, 1) := by decide +kernel
theorem dX3_stack_82 : decode cX3_stack 82 = .ok (.aload_n 0, 1) := by decide +kernel
theorem dX3_stack_83 : decode cX3_stack 83 = .ok (.getfield 18, 3) := by decide +kernel
theorem dX3_stack_86 : decode cX3_stack 86 = .ok (.iload 6, 2) := by decide +kernel
theorem dX3_stack_88 : decode cX3_stack 88 = .ok (.aload_n 1, 1) := by decide +kernel
theorem dX3_stack_89 : decode cX3_stack 89 = .ok (.iconst 3, 1) := by decide +kernel
theorem dX3_stack_90 : decode cX3_stack 90 = .ok (.iload 6, 2) := by decide +kernel
theorem dX3_stack_92 : decode cX3_stack 92 = .ok (.invokevirtual 39, 3) := by decide +kernel
theorem dX3_stack_95 : decode cX3_stack 95 = .ok (.iastore, 1) := by decide +kernel
theorem dX3_stack_96 : decode cX3_stack 96 = .ok (.iinc 6 1, 3) := by decide +kernel
theorem dX3_stack_99 : decode cX3_stack 99 = .ok (.goto (-75), 3) := by decide +kernel
theorem dX3_stack_102 : decode cX3_stack 102 = .ok (.return_, 1) := by decide +kernel
set_option maxRecDepth 20000 in
theorem ggX3_press_X6_holds : GoodIn wsX3_press wsX6_holds := goodIn_r _ [10] (by decide +kernel) (by decide +kernel)
set_option maxRecDepth 20000 in
theorem gX3_press_X6_holds_n31 : GoodIn wsX3_press (wsX6_holds) := ggX3_press_X6_holds
theorem dX3_press_0 : decode cX3_press 0 = .ok (.iconst 0, 1) := by decide +kernel
theorem dX3_press_1 : decode cX3_press 1 = .ok (.istore_n 2, 1) := by decide +kernel
theorem dX3_press_2 : decode cX3_press 2 = .ok (.iconst 0, 1) := by decide +kernel
theorem dX3_press_3 : decode cX3_press 3 = .ok (.istore_n 3, 1) := by decide +kernel
theorem dX3_press_4 : decode cX3_press 4 = .ok (.iconst 0, 1) := by decide +kernel
theorem dX3_press_5 : decode cX3_press 5 = .ok (.istore 4, 2) := by decide +kernel
theorem dX3_press_7 : decode cX3_press 7 = .ok (.iload 4, 2) := by decide +kernel
theorem dX3_press_9 : decode cX3_press 9 = .ok (.aload_n 0, 1) := by decide +kernel
theorem dX3_press_10 : decode cX3_press 10 = .ok (.getfield 27, 3) := by decide +kernel
theorem dX3_press_13 : decode cX3_press 13 = .ok (.if_icmp .ge 64, 3) := by decide +kernel
theorem dX3_press_16 : decode cX3_press 16 = .ok (.aload_n 0, 1) := by decide +kernel
theorem dX3_press_17 : decode cX3_press 17 = .ok (.getfield 28, 3) := by decide +kernel
theorem dX3_press_20 : decode cX3_press 20 = .ok (.iload 4, 2) := by decide +kernel
theorem dX3_press_22 : decode cX3_press 22 = .ok (.invokestatic 31, 3) := by decide +kernel
theorem dX3_press_25 : decode cX3_press 25 = .ok (.ifCond .eq 46, 3) := by decide +kernel
theorem dX3_press_28 : decode cX3_press 28 = .ok (.iload_n 2, 1) := by decide +kernel
theorem dX3_press_29 : decode cX3_press 29 = .ok (.aload_n 0, 1) := by decide +kernel
theorem dX3_press_30 : decode cX3_press 30 = .ok (.getfield 9, 3) := by decide +kernel
theorem dX3_press_33 : decode cX3_press 33 = .ok (.iload 4, 2) := by decide +kernel
theorem dX3_press_35 : decode cX3_press 35 = .ok (.iaload, 1) := by decide +kernel
theorem dX3_press_36 : decode cX3_press 36 = .ok (.imul, 1) := by decide +kernel
theorem dX3_press_37 : decode cX3_press 37 = .ok (.iload_n 3, 1) := by decide +kernel
theorem dX3_press_38 : decode cX3_press 38 = .ok (.isub, 1) := by decide +kernel
theorem dX3_press_39 : decode cX3_press 39 = .ok (.iload_n 1, 1) := by decide +kernel
theorem dX3_press_40 : decode cX3_press 40 = .ok (.if_icmp .ge 31, 3) := by decide +kernel
theorem dX3_press_43 : decode cX3_press 43 = .ok (.iload_n 2, 1) := by decide +kernel
theorem dX3_press_44 : decode cX3_press 44 = .ok (.aload_n 0, 1) := by decide +kernel
theorem dX3_press_45 : decode cX3_press 45 = .ok (.getfield 15, 3) := by decide +kernel
theorem dX3_press_48 : decode cX3_press 48 = .ok (.iload 4, 2) := by decide +kernel
theorem dX3_press_50 : decode cX3_press 50 = .ok (.iaload, 1) := by decide +kernel
theorem dX3_press_51 : decode cX3_press 51 = .ok (.iadd, 1) := by decide +kernel
theorem dX3_press_52 : decode cX3_press 52 = .ok (.istore_n 2, 1) := by decide +kernel
theorem dX3_press_53 : decode cX3_press 53 = .ok (.iload_n 3, 1) := by decide +kernel
theorem dX3_press_54 : decode cX3_press 54 = .ok (.aload_n 0, 1) := by decide +kernel
theorem dX3_press_55 : decode cX3_press 55 = .ok (.getfield 15, 3) := by decide +kernel
theorem dX3_press_58 : decode cX3_press 58 = .ok (.iload 4, 2) := by decide +kernel
theorem dX3_press_60 : decode cX3_press 60 = .ok (.iaload, 1) := by decide +kernel
theorem dX3_press_61 : decode cX3_press 61 = .ok (.aload_n 0, 1) := by decide +kernel
theorem dX3_press_62 : decode cX3_press 62 = .ok (.getfield 9, 3) := by decide +kernel
theorem dX3_press_65 : decode cX3_press 65 = .ok (.iload 4, 2) := by decide +kernel
theorem dX3_press_67 : decode cX3_press 67 = .ok (.iaload, 1) := by decide +kernel
theorem dX3_press_68 : decode cX3_press 68 = .ok (.imul, 1) := by decide +kernel
theorem dX3_press_69 : decode cX3_press 69 = .ok (.iadd, 1) := by decide +kernel
theorem dX3_press_70 : decode cX3_press 70 = .ok (.istore_n 3, 1) := by decide +kernel
theorem dX3_press_71 : decode cX3_press 71 = .ok (.iinc 4 1, 3) := by decide +kernel
theorem dX3_press_74 : decode cX3_press 74 = .ok (.goto (-67), 3) := by decide +kernel
theorem dX3_press_77 : decode cX3_press 77 = .ok (.aload_n 0, 1) := by decide +kernel
theorem dX3_press_78 : decode cX3_press 78 = .ok (.iload_n 1, 1) := by decide +kernel
theorem dX3_press_79 : decode cX3_press 79 = .ok (.iload_n 3, 1) := by decide +kernel
theorem dX3_press_80 : decode cX3_press 80 = .ok (.iadd, 1) := by decide +kernel
theorem dX3_press_81 : decode cX3_press 81 = .ok (.putfield 42, 3) := by decide +kernel
theorem dX3_press_84 : decode cX3_press 84 = .ok (.aload_n 0, 1) := by decide +kernel
theorem dX3_press_85 : decode cX3_press 85 = .ok (.iload_n 1, 1) := by decide +kernel
theorem dX3_press_86 : decode cX3_press 86 = .ok (.ifCond .ne 7, 3) := by decide +kernel
theorem dX3_press_89 : decode cX3_press 89 = .ok (.iconst 1, 1) := by decide +kernel
theorem dX3_press_90 : decode cX3_press 90 = .ok (.goto 4, 3) := by decide +kernel
theorem dX3_press_93 : decode cX3_press 93 = .ok (.iload_n 2, 1) := by decide +kernel
theorem dX3_press_94 : decode cX3_press 94 = .ok (.putfield 45, 3) := by decide +kernel
theorem dX3_press_97 : decode cX3_press 97 = .ok (.aload_n 0, 1) := by decide +kernel
theorem dX3_press_98 : decode cX3_press 98 = .ok (.iload_n 2, 1) := by decide +kernel
theorem dX3_press_99 : decode cX3_press 99 = .ok (.putfield 48, 3) := by decide +kernel
theorem dX3_press_102 : decode cX3_press 102 = .ok (.aload_n 0, 1) := by decide +kernel
theorem dX3_press_103 : decode cX3_press 103 = .ok (.getfield 45, 3) := by decide +kernel
theorem dX3_press_106 : decode cX3_press 106 = .ok (.ifCond .le 7, 3) := by decide +kernel
theorem dX3_press_109 : decode cX3_press 109 = .ok (.iconst 1, 1) := by decide +kernel
theorem dX3_press_110 : decode cX3_press 110 = .ok (.goto 4, 3) := by decide +kernel
theorem dX3_press_113 : decode cX3_press 113 = .ok (.iconst 0, 1) := by decide +kernel
theorem dX3_press_114 : decode cX3_press 114 = .ok (.ireturn, 1) := by decide +kernel
theorem dX3_cut_0 : decode cX3_cut 0 = .ok (.aload_n 0, 1) := by decide +kernel
theorem dX3_cut_1 : decode cX3_cut 1 = .ok (.getfield 45, 3) := by decide +kernel
theorem dX3_cut_4 : decode cX3_cut 4 = .ok (.ifCond .le 15, 3) := by decide +kernel
theorem dX3_cut_7 : decode cX3_cut 7 = .ok (.aload_n 0, 1) := by decide +kernel
theorem dX3_cut_8 : decode cX3_cut 8 = .ok (.getfield 42, 3) := by decide +kernel
theorem dX3_cut_11 : decode cX3_cut 11 = .ok (.aload_n 0, 1) := by decide +kernel
theorem dX3_cut_12 : decode cX3_cut 12 = .ok (.getfield 45, 3) := by decide +kernel
theorem dX3_cut_15 : decode cX3_cut 15 = .ok (.idiv, 1) := by decide +kernel
theorem dX3_cut_16 : decode cX3_cut 16 = .ok (.goto 5, 3) := by decide +kernel
theorem dX3_cut_19 : decode cX3_cut 19 = .ok (.bipush (-9), 2) := by decide +kernel
theorem dX3_cut_21 : decode cX3_cut 21 = .ok (.ireturn, 1) := by decide +kernel
set_option maxRecDepth 20000 in
theorem ggX3_cutBy_X3_press : GoodIn wsX3_cutBy wsX3_press := goodIn_r _ [5, 6, 7, 8, 9, 10, 11, 12, 13, 14, 15, 20, 21, 22, 23, 24, 25, 26, 27] (by decide +kernel) (by decide +kernel)
set_option maxRecDepth 20000 in
theorem gX3_cutBy_X3_press : GoodIn wsX3_cutBy (wsV RX3 51 RX3 yX3_press wsX3_press) := goodIn_app (goodIn_of _ (by decide +kernel)) ggX3_cutBy_X3_press
set_option maxRecDepth 20000 in
theorem ggX3_cutBy_X3_cut : GoodIn wsX3_cutBy wsX3_cut := goodIn_r _ [19, 11, 10, 20, 21, 22, 23, 24, 25, 26, 27] (by decide +kernel) (by decide +kernel)
set_option maxRecDepth 20000 in
theorem gX3_cutBy_X3_cut : GoodIn wsX3_cutBy (wsV RX3 55 RX3 yX3_cut wsX3_cut) := goodIn_app (goodIn_of _ (by decide +kernel)) ggX3_cutBy_X3_cut
theorem dX3_cutBy_0 : decode cX3_cutBy 0 = .ok (.aload_n 0, 1) := by decide +kernel
theorem dX3_cutBy_1 : decode cX3_cutBy 1 = .ok (.iload_n 1, 1) := by decide +kernel
theorem dX3_cutBy_2 : decode cX3_cutBy 2 = .ok (.invokevirtual 51, 3) := by decide +kernel
theorem dX3_cutBy_5 : decode cX3_cutBy 5 = .ok (.ifCond .eq 10, 3) := by decide +kernel
theorem dX3_cutBy_8 : decode cX3_cutBy 8 = .ok (.aload_n 0, 1) := by decide +kernel
theorem dX3_cutBy_9 : decode cX3_cutBy 9 = .ok (.invokevirtual 55, 3) := by decide +kernel
theorem dX3_cutBy_12 : decode cX3_cutBy 12 = .ok (.goto 5, 3) := by decide +kernel
theorem dX3_cutBy_15 : decode cX3_cutBy 15 = .ok (.bipush (-9), 2) := by decide +kernel
theorem dX3_cutBy_17 : decode cX3_cutBy 17 = .ok (.ireturn, 1) := by decide +kernel
set_option maxRecDepth 20000 in
theorem ggX3_borne_X6_holds : GoodIn wsX3_borne wsX6_holds := goodIn_r _ [12] (by decide +kernel) (by decide +kernel)
set_option maxRecDepth 20000 in
theorem gX3_borne_X6_holds_n31 : GoodIn wsX3_borne (wsX6_holds) := ggX3_borne_X6_holds
theorem dX3_borne_0 : decode cX3_borne 0 = .ok (.aload_n 0, 1) := by decide +kernel
theorem dX3_borne_1 : decode cX3_borne 1 = .ok (.getfield 28, 3) := by decide +kernel
theorem dX3_borne_4 : decode cX3_borne 4 = .ok (.iload_n 1, 1) := by decide +kernel
theorem dX3_borne_5 : decode cX3_borne 5 = .ok (.invokestatic 31, 3) := by decide +kernel
theorem dX3_borne_8 : decode cX3_borne 8 = .ok (.ifCond .eq 33, 3) := by decide +kernel
theorem dX3_borne_11 : decode cX3_borne 11 = .ok (.aload_n 0, 1) := by decide +kernel
theorem dX3_borne_12 : decode cX3_borne 12 = .ok (.getfield 15, 3) := by decide +kernel
theorem dX3_borne_15 : decode cX3_borne 15 = .ok (.iload_n 1, 1) := by decide +kernel
theorem dX3_borne_16 : decode cX3_borne 16 = .ok (.iaload, 1) := by decide +kernel
theorem dX3_borne_17 : decode cX3_borne 17 = .ok (.iconst 0, 1) := by decide +kernel
theorem dX3_borne_18 : decode cX3_borne 18 = .ok (.aload_n 0, 1) := by decide +kernel
theorem dX3_borne_19 : decode cX3_borne 19 = .ok (.getfield 42, 3) := by decide +kernel
theorem dX3_borne_22 : decode cX3_borne 22 = .ok (.aload_n 0, 1) := by decide +kernel
theorem dX3_borne_23 : decode cX3_borne 23 = .ok (.getfield 9, 3) := by decide +kernel
theorem dX3_borne_26 : decode cX3_borne 26 = .ok (.iload_n 1, 1) := by decide +kernel
theorem dX3_borne_27 : decode cX3_borne 27 = .ok (.iaload, 1) := by decide +kernel
theorem dX3_borne_28 : decode cX3_borne 28 = .ok (.aload_n 0, 1) := by decide +kernel
theorem dX3_borne_29 : decode cX3_borne 29 = .ok (.getfield 45, 3) := by decide +kernel
theorem dX3_borne_32 : decode cX3_borne 32 = .ok (.imul, 1) := by decide +kernel
theorem dX3_borne_33 : decode cX3_borne 33 = .ok (.isub, 1) := by decide +kernel
theorem dX3_borne_34 : decode cX3_borne 34 = .ok (.invokestatic 59, 3) := by decide +kernel
theorem dX3_borne_37 : decode cX3_borne 37 = .ok (.imul, 1) := by decide +kernel
theorem dX3_borne_38 : decode cX3_borne 38 = .ok (.goto 4, 3) := by decide +kernel
theorem dX3_borne_41 : decode cX3_borne 41 = .ok (.iconst 0, 1) := by decide +kernel
theorem dX3_borne_42 : decode cX3_borne 42 = .ok (.ireturn, 1) := by decide +kernel
set_option maxRecDepth 20000 in
theorem ggX3_excess_X3_borne : GoodIn wsX3_excess wsX3_borne := goodIn_r _ [7, 8, 9, 10, 11, 2, 12, 13, 14, 15, 16, 17, 18, 19, 20, 21, 22, 23, 24, 25, 26] (by decide +kernel) (by decide +kernel)
set_option maxRecDepth 20000 in
theorem gX3_excess_X3_borne : GoodIn wsX3_excess (wsV RX3 64 RX3 yX3_borne wsX3_borne) := goodIn_app (goodIn_of _ (by decide +kernel)) ggX3_excess_X3_borne
theorem dX3_excess_0 : decode cX3_excess 0 = .ok (.aload_n 0, 1) := by decide +kernel
theorem dX3_excess_1 : decode cX3_excess 1 = .ok (.iload_n 1, 1) := by decide +kernel
theorem dX3_excess_2 : decode cX3_excess 2 = .ok (.invokevirtual 64, 3) := by decide +kernel
theorem dX3_excess_5 : decode cX3_excess 5 = .ok (.aload_n 0, 1) := by decide +kernel
theorem dX3_excess_6 : decode cX3_excess 6 = .ok (.getfield 18, 3) := by decide +kernel
theorem dX3_excess_9 : decode cX3_excess 9 = .ok (.iload_n 1, 1) := by decide +kernel
theorem dX3_excess_10 : decode cX3_excess 10 = .ok (.iaload, 1) := by decide +kernel
theorem dX3_excess_11 : decode cX3_excess 11 = .ok (.aload_n 0, 1) := by decide +kernel
theorem dX3_excess_12 : decode cX3_excess 12 = .ok (.getfield 45, 3) := by decide +kernel
theorem dX3_excess_15 : decode cX3_excess 15 = .ok (.imul, 1) := by decide +kernel
theorem dX3_excess_16 : decode cX3_excess 16 = .ok (.isub, 1) := by decide +kernel
theorem dX3_excess_17 : decode cX3_excess 17 = .ok (.ireturn, 1) := by decide +kernel
set_option maxRecDepth 20000 in
theorem ggX3_firstToBreak_X3_press : GoodIn wsX3_firstToBreak wsX3_press := goodIn_r _ [6, 1, 7, 8, 9, 10, 11, 12, 13, 14, 15, 29, 30, 31, 32, 33, 34, 35, 36] (by decide +kernel) (by decide +kernel)
set_option maxRecDepth 20000 in
theorem gX3_firstToBreak_X3_press : GoodIn wsX3_firstToBreak (wsV RX3 51 RX3 yX3_press wsX3_press) := goodIn_app (goodIn_of _ (by decide +kernel)) ggX3_firstToBreak_X3_press
set_option maxRecDepth 20000 in
theorem ggX3_firstToBreak_X3_excess : GoodIn wsX3_firstToBreak wsX3_excess := goodIn_r _ [19, 20, 11, 21, 22, 23, 5, 24, 7, 9, 10, 8, 25, 26, 27, 28, 13, 14, 15, 29, 30, 31, 32, 33, 34, 35, 36] (by decide +kernel) (by decide +kernel)
set_option maxRecDepth 20000 in
theorem gX3_firstToBreak_X3_excess : GoodIn wsX3_firstToBreak (wsV RX3 68 RX3 yX3_excess wsX3_excess) := goodIn_app (goodIn_of _ (by decide +kernel)) ggX3_firstToBreak_X3_excess
theorem dX3_firstToBreak_0 : decode cX3_firstToBreak 0 = .ok (.aload_n 0, 1) := by decide +kernel
theorem dX3_firstToBreak_1 : decode cX3_firstToBreak 1 = .ok (.iload_n 1, 1) := by decide +kernel
theorem dX3_firstToBreak_2 : decode cX3_firstToBreak 2 = .ok (.invokevirtual 51, 3) := by decide +kernel
theorem dX3_firstToBreak_5 : decode cX3_firstToBreak 5 = .ok (.ifCond .ne 5, 3) := by decide +kernel
theorem dX3_firstToBreak_8 : decode cX3_firstToBreak 8 = .ok (.iconst (-1), 1) := by decide +kernel
theorem dX3_firstToBreak_9 : decode cX3_firstToBreak 9 = .ok (.ireturn, 1) := by decide +kernel
theorem dX3_firstToBreak_10 : decode cX3_firstToBreak 10 = .ok (.iconst (-1), 1) := by decide +kernel
theorem dX3_firstToBreak_11 : decode cX3_firstToBreak 11 = .ok (.istore_n 2, 1) := by decide +kernel
theorem dX3_firstToBreak_12 : decode cX3_firstToBreak 12 = .ok (.iconst 0, 1) := by decide +kernel
theorem dX3_firstToBreak_13 : decode cX3_firstToBreak 13 = .ok (.istore_n 3, 1) := by decide +kernel
theorem dX3_firstToBreak_14 : decode cX3_firstToBreak 14 = .ok (.iconst 0, 1) := by decide +kernel
theorem dX3_firstToBreak_15 : decode cX3_firstToBreak 15 = .ok (.istore 4, 2) := by decide +kernel
theorem dX3_firstToBreak_17 : decode cX3_firstToBreak 17 = .ok (.iload 4, 2) := by decide +kernel
theorem dX3_firstToBreak_19 : decode cX3_firstToBreak 19 = .ok (.aload_n 0, 1) := by decide +kernel
theorem dX3_firstToBreak_20 : decode cX3_firstToBreak 20 = .ok (.getfield 27, 3) := by decide +kernel
theorem dX3_firstToBreak_23 : decode cX3_firstToBreak 23 = .ok (.if_icmp .ge 29, 3) := by decide +kernel
theorem dX3_firstToBreak_26 : decode cX3_firstToBreak 26 = .ok (.aload_n 0, 1) := by decide +kernel
theorem dX3_firstToBreak_27 : decode cX3_firstToBreak 27 = .ok (.iload 4, 2) := by decide +kernel
theorem dX3_firstToBreak_29 : decode cX3_firstToBreak 29 = .ok (.invokevirtual 68, 3) := by decide +kernel
theorem dX3_firstToBreak_32 : decode cX3_firstToBreak 32 = .ok (.iload_n 3, 1) := by decide +kernel
theorem dX3_firstToBreak_33 : decode cX3_firstToBreak 33 = .ok (.if_icmp .le 13, 3) := by decide +kernel
theorem dX3_firstToBreak_36 : decode cX3_firstToBreak 36 = .ok (.iload 4, 2) := by decide +kernel
theorem dX3_firstToBreak_38 : decode cX3_firstToBreak 38 = .ok (.istore_n 2, 1) := by decide +kernel
theorem dX3_firstToBreak_39 : decode cX3_firstToBreak 39 = .ok (.aload_n 0, 1) := by decide +kernel
theorem dX3_firstToBreak_40 : decode cX3_firstToBreak 40 = .ok (.iload 4, 2) := by decide +kernel
theorem dX3_firstToBreak_42 : decode cX3_firstToBreak 42 = .ok (.invokevirtual 68, 3) := by decide +kernel
theorem dX3_firstToBreak_45 : decode cX3_firstToBreak 45 = .ok (.istore_n 3, 1) := by decide +kernel
theorem dX3_firstToBreak_46 : decode cX3_firstToBreak 46 = .ok (.iinc 4 1, 3) := by decide +kernel
theorem dX3_firstToBreak_49 : decode cX3_firstToBreak 49 = .ok (.goto (-32), 3) := by decide +kernel
theorem dX3_firstToBreak_52 : decode cX3_firstToBreak 52 = .ok (.iload_n 2, 1) := by decide +kernel
theorem dX3_firstToBreak_53 : decode cX3_firstToBreak 53 = .ok (.ireturn, 1) := by decide +kernel
set_option maxRecDepth 20000 in
theorem ggX3_wholeAfter_X3_firstToBreak : GoodIn wsX3_wholeAfter wsX3_firstToBreak := goodIn_r _ [6, 7, 8, 9, 10, 5, 11, 1, 12, 13, 14, 15, 16, 17, 18, 19, 20, 21, 22, 23, 24, 25, 26, 27, 28, 29, 30, 31, 32, 33, 34, 35, 36, 37, 38, 39, 40] (by decide +kernel) (by decide +kernel)
set_option maxRecDepth 20000 in
theorem gX3_wholeAfter_X3_firstToBreak : GoodIn wsX3_wholeAfter (wsV RX3 71 RX3 yX3_firstToBreak wsX3_firstToBreak) := goodIn_app (goodIn_of _ (by decide +kernel)) ggX3_wholeAfter_X3_firstToBreak
theorem dX3_wholeAfter_0 : decode cX3_wholeAfter 0 = .ok (.aload_n 0, 1) := by decide +kernel
theorem dX3_wholeAfter_1 : decode cX3_wholeAfter 1 = .ok (.iload_n 1, 1) := by decide +kernel
theorem dX3_wholeAfter_2 : decode cX3_wholeAfter 2 = .ok (.invokevirtual 71, 3) := by decide +kernel
theorem dX3_wholeAfter_5 : decode cX3_wholeAfter 5 = .ok (.istore_n 2, 1) := by decide +kernel
theorem dX3_wholeAfter_6 : decode cX3_wholeAfter 6 = .ok (.iconst 0, 1) := by decide +kernel
theorem dX3_wholeAfter_7 : decode cX3_wholeAfter 7 = .ok (.istore_n 3, 1) := by decide +kernel
theorem dX3_wholeAfter_8 : decode cX3_wholeAfter 8 = .ok (.iload_n 2, 1) := by decide +kernel
theorem dX3_wholeAfter_9 : decode cX3_wholeAfter 9 = .ok (.ifCond .lt 35, 3) := by decide +kernel
theorem dX3_wholeAfter_12 : decode cX3_wholeAfter 12 = .ok (.iload_n 3, 1) := by decide +kernel
theorem dX3_wholeAfter_13 : decode cX3_wholeAfter 13 = .ok (.bipush 8, 2) := by decide +kernel
theorem dX3_wholeAfter_15 : decode cX3_wholeAfter 15 = .ok (.if_icmp .ge 29, 3) := by decide +kernel
theorem dX3_wholeAfter_18 : decode cX3_wholeAfter 18 = .ok (.aload_n 0, 1) := by decide +kernel
theorem dX3_wholeAfter_19 : decode cX3_wholeAfter 19 = .ok (.dup, 1) := by decide +kernel
theorem dX3_wholeAfter_20 : decode cX3_wholeAfter 20 = .ok (.getfield 28, 3) := by decide +kernel
theorem dX3_wholeAfter_23 : decode cX3_wholeAfter 23 = .ok (.iconst 1, 1) := by decide +kernel
theorem dX3_wholeAfter_24 : decode cX3_wholeAfter 24 = .ok (.iload_n 2, 1) := by decide +kernel
theorem dX3_wholeAfter_25 : decode cX3_wholeAfter 25 = .ok (.ishl, 1) := by decide +kernel
theorem dX3_wholeAfter_26 : decode cX3_wholeAfter 26 = .ok (.iconst (-1), 1) := by decide +kernel
theorem dX3_wholeAfter_27 : decode cX3_wholeAfter 27 = .ok (.ixor, 1) := by decide +kernel
theorem dX3_wholeAfter_28 : decode cX3_wholeAfter 28 = .ok (.iand, 1) := by decide +kernel
theorem dX3_wholeAfter_29 : decode cX3_wholeAfter 29 = .ok (.putfield 28, 3) := by decide +kernel
theorem dX3_wholeAfter_32 : decode cX3_wholeAfter 32 = .ok (.aload_n 0, 1) := by decide +kernel
theorem dX3_wholeAfter_33 : decode cX3_wholeAfter 33 = .ok (.iload_n 1, 1) := by decide +kernel
theorem dX3_wholeAfter_34 : decode cX3_wholeAfter 34 = .ok (.invokevirtual 71, 3) := by decide +kernel
theorem dX3_wholeAfter_37 : decode cX3_wholeAfter 37 = .ok (.istore_n 2, 1) := by decide +kernel
theorem dX3_wholeAfter_38 : decode cX3_wholeAfter 38 = .ok (.iinc 3 1, 3) := by decide +kernel
theorem dX3_wholeAfter_41 : decode cX3_wholeAfter 41 = .ok (.goto (-33), 3) := by decide +kernel
theorem dX3_wholeAfter_44 : decode cX3_wholeAfter 44 = .ok (.aload_n 0, 1) := by decide +kernel
theorem dX3_wholeAfter_45 : decode cX3_wholeAfter 45 = .ok (.getfield 28, 3) := by decide +kernel
theorem dX3_wholeAfter_48 : decode cX3_wholeAfter 48 = .ok (.ireturn, 1) := by decide +kernel
set_option maxRecDepth 20000 in
theorem ggX3_leastTooMuch_X3_firstToBreak : GoodIn wsX3_leastTooMuch wsX3_firstToBreak := goodIn_r _ [5, 6, 7, 8, 9, 4, 10, 11, 12, 13, 14, 15, 16, 17, 18, 19, 20, 21, 22, 23, 24, 25, 26, 27, 28, 29, 30, 31, 32, 33, 34, 35, 36, 37, 38, 39, 40] (by decide +kernel) (by decide +kernel)
set_option maxRecDepth 20000 in
theorem gX3_leastTooMuch_X3_firstToBreak : GoodIn wsX3_leastTooMuch (wsV RX3 71 RX3 yX3_firstToBreak wsX3_firstToBreak) := goodIn_app (goodIn_of _ (by decide +kernel)) ggX3_leastTooMuch_X3_firstToBreak
theorem dX3_leastTooMuch_0 : decode cX3_leastTooMuch 0 = .ok (.iconst 1, 1) := by decide +kernel
theorem dX3_leastTooMuch_1 : decode cX3_leastTooMuch 1 = .ok (.istore_n 1, 1) := by decide +kernel
theorem dX3_leastTooMuch_2 : decode cX3_leastTooMuch 2 = .ok (.sipush 1000, 3) := by decide +kernel
theorem dX3_leastTooMuch_5 : decode cX3_leastTooMuch 5 = .ok (.istore_n 2, 1) := by decide +kernel
theorem dX3_leastTooMuch_6 : decode cX3_leastTooMuch 6 = .ok (.iconst 0, 1) := by decide +kernel
theorem dX3_leastTooMuch_7 : decode cX3_leastTooMuch 7 = .ok (.istore_n 3, 1) := by decide +kernel
theorem dX3_leastTooMuch_8 : decode cX3_leastTooMuch 8 = .ok (.iload_n 1, 1) := by decide +kernel
theorem dX3_leastTooMuch_9 : decode cX3_leastTooMuch 9 = .ok (.iload_n 2, 1) := by decide +kernel
theorem dX3_leastTooMuch_10 : decode cX3_leastTooMuch 10 = .ok (.if_icmp .ge 43, 3) := by decide +kernel
theorem dX3_leastTooMuch_13 : decode cX3_leastTooMuch 13 = .ok (.iload_n 3, 1) := by decide +kernel
theorem dX3_leastTooMuch_14 : decode cX3_leastTooMuch 14 = .ok (.sipush 1000, 3) := by decide +kernel
theorem dX3_leastTooMuch_17 : decode cX3_leastTooMuch 17 = .ok (.if_icmp .ge 36, 3) := by decide +kernel
theorem dX3_leastTooMuch_20 : decode cX3_leastTooMuch 20 = .ok (.iload_n 1, 1) := by decide +kernel
theorem dX3_leastTooMuch_21 : decode cX3_leastTooMuch 21 = .ok (.iload_n 2, 1) := by decide +kernel
theorem dX3_leastTooMuch_22 : decode cX3_leastTooMuch 22 = .ok (.iadd, 1) := by decide +kernel
theorem dX3_leastTooMuch_23 : decode cX3_leastTooMuch 23 = .ok (.iconst 2, 1) := by decide +kernel
theorem dX3_leastTooMuch_24 : decode cX3_leastTooMuch 24 = .ok (.idiv, 1) := by decide +kernel
theorem dX3_leastTooMuch_25 : decode cX3_leastTooMuch 25 = .ok (.istore 4, 2) := by decide +kernel
theorem dX3_leastTooMuch_27 : decode cX3_leastTooMuch 27 = .ok (.aload_n 0, 1) := by decide +kernel
theorem dX3_leastTooMuch_28 : decode cX3_leastTooMuch 28 = .ok (.iload 4, 2) := by decide +kernel
theorem dX3_leastTooMuch_30 : decode cX3_leastTooMuch 30 = .ok (.invokevirtual 71, 3) := by decide +kernel
theorem dX3_leastTooMuch_33 : decode cX3_leastTooMuch 33 = .ok (.ifCond .lt 9, 3) := by decide +kernel
theorem dX3_leastTooMuch_36 : decode cX3_leastTooMuch 36 = .ok (.iload 4, 2) := by decide +kernel
theorem dX3_leastTooMuch_38 : decode cX3_leastTooMuch 38 = .ok (.istore_n 2, 1) := by decide +kernel
theorem dX3_leastTooMuch_39 : decode cX3_leastTooMuch 39 = .ok (.goto 8, 3) := by decide +kernel
theorem dX3_leastTooMuch_42 : decode cX3_leastTooMuch 42 = .ok (.iload 4, 2) := by decide +kernel
theorem dX3_leastTooMuch_44 : decode cX3_leastTooMuch 44 = .ok (.iconst 1, 1) := by decide +kernel
theorem dX3_leastTooMuch_45 : decode cX3_leastTooMuch 45 = .ok (.iadd, 1) := by decide +kernel
theorem dX3_leastTooMuch_46 : decode cX3_leastTooMuch 46 = .ok (.istore_n 1, 1) := by decide +kernel
theorem dX3_leastTooMuch_47 : decode cX3_leastTooMuch 47 = .ok (.iinc 3 1, 3) := by decide +kernel
theorem dX3_leastTooMuch_50 : decode cX3_leastTooMuch 50 = .ok (.goto (-42), 3) := by decide +kernel
theorem dX3_leastTooMuch_53 : decode cX3_leastTooMuch 53 = .ok (.iload_n 1, 1) := by decide +kernel
theorem dX3_leastTooMuch_54 : decode cX3_leastTooMuch 54 = .ok (.ireturn, 1) := by decide +kernel
set_option maxRecDepth 20000 in
theorem ggX3_loadAt_X6_holds : GoodIn wsX3_loadAt wsX6_holds := goodIn_r _ [11] (by decide +kernel) (by decide +kernel)
set_option maxRecDepth 20000 in
theorem gX3_loadAt_X6_holds_n31 : GoodIn wsX3_loadAt (wsX6_holds) := ggX3_loadAt_X6_holds
theorem dX3_loadAt_0 : decode cX3_loadAt 0 = .ok (.iconst 0, 1) := by decide +kernel
theorem dX3_loadAt_1 : decode cX3_loadAt 1 = .ok (.istore_n 2, 1) := by decide +kernel
theorem dX3_loadAt_2 : decode cX3_loadAt 2 = .ok (.iconst 0, 1) := by decide +kernel
theorem dX3_loadAt_3 : decode cX3_loadAt 3 = .ok (.istore_n 3, 1) := by decide +kernel
theorem dX3_loadAt_4 : decode cX3_loadAt 4 = .ok (.iload_n 3, 1) := by decide +kernel
theorem dX3_loadAt_5 : decode cX3_loadAt 5 = .ok (.aload_n 0, 1) := by decide +kernel
theorem dX3_loadAt_6 : decode cX3_loadAt 6 = .ok (.getfield 27, 3) := by decide +kernel
theorem dX3_loadAt_9 : decode cX3_loadAt 9 = .ok (.if_icmp .ge 42, 3) := by decide +kernel
theorem dX3_loadAt_12 : decode cX3_loadAt 12 = .ok (.aload_n 0, 1) := by decide +kernel
theorem dX3_loadAt_13 : decode cX3_loadAt 13 = .ok (.getfield 28, 3) := by decide +kernel
theorem dX3_loadAt_16 : decode cX3_loadAt 16 = .ok (.iload_n 3, 1) := by decide +kernel
theorem dX3_loadAt_17 : decode cX3_loadAt 17 = .ok (.invokestatic 31, 3) := by decide +kernel
theorem dX3_loadAt_20 : decode cX3_loadAt 20 = .ok (.ifCond .eq 25, 3) := by decide +kernel
theorem dX3_loadAt_23 : decode cX3_loadAt 23 = .ok (.iload_n 2, 1) := by decide +kernel
theorem dX3_loadAt_24 : decode cX3_loadAt 24 = .ok (.aload_n 0, 1) := by decide +kernel
theorem dX3_loadAt_25 : decode cX3_loadAt 25 = .ok (.getfield 15, 3) := by decide +kernel
theorem dX3_loadAt_28 : decode cX3_loadAt 28 = .ok (.iload_n 3, 1) := by decide +kernel
theorem dX3_loadAt_29 : decode cX3_loadAt 29 = .ok (.iaload, 1) := by decide +kernel
theorem dX3_loadAt_30 : decode cX3_loadAt 30 = .ok (.iconst 0, 1) := by decide +kernel
theorem dX3_loadAt_31 : decode cX3_loadAt 31 = .ok (.iload_n 1, 1) := by decide +kernel
theorem dX3_loadAt_32 : decode cX3_loadAt 32 = .ok (.aload_n 0, 1) := by decide +kernel
theorem dX3_loadAt_33 : decode cX3_loadAt 33 = .ok (.getfield 9, 3) := by decide +kernel
theorem dX3_loadAt_36 : decode cX3_loadAt 36 = .ok (.iload_n 3, 1) := by decide +kernel
theorem dX3_loadAt_37 : decode cX3_loadAt 37 = .ok (.iaload, 1) := by decide +kernel
theorem dX3_loadAt_38 : decode cX3_loadAt 38 = .ok (.isub, 1) := by decide +kernel
theorem dX3_loadAt_39 : decode cX3_loadAt 39 = .ok (.invokestatic 59, 3) := by decide +kernel
theorem dX3_loadAt_42 : decode cX3_loadAt 42 = .ok (.imul, 1) := by decide +kernel
theorem dX3_loadAt_43 : decode cX3_loadAt 43 = .ok (.iadd, 1) := by decide +kernel
theorem dX3_loadAt_44 : decode cX3_loadAt 44 = .ok (.istore_n 2, 1) := by decide +kernel
theorem dX3_loadAt_45 : decode cX3_loadAt 45 = .ok (.iinc 3 1, 3) := by decide +kernel
theorem dX3_loadAt_48 : decode cX3_loadAt 48 = .ok (.goto (-44), 3) := by decide +kernel
theorem dX3_loadAt_51 : decode cX3_loadAt 51 = .ok (.iload_n 2, 1) := by decide +kernel
theorem dX3_loadAt_52 : decode cX3_loadAt 52 = .ok (.ireturn, 1) := by decide +kernel
set_option maxRecDepth 20000 in
theorem ggX3_bearsWithin_X3_press : GoodIn wsX3_bearsWithin wsX3_press := goodIn_r _ [7, 8, 9, 10, 11, 1, 2, 12, 13, 14, 15, 33, 34, 35, 36, 37, 38, 39, 40] (by decide +kernel) (by decide +kernel)
set_option maxRecDepth 20000 in
theorem gX3_bearsWithin_X3_press : GoodIn wsX3_bearsWithin (wsV RX3 51 RX3 yX3_press wsX3_press) := goodIn_app (goodIn_of _ (by decide +kernel)) ggX3_bearsWithin_X3_press
set_option maxRecDepth 20000 in
theorem ggX3_bearsWithin_X3_firstToBreak : GoodIn wsX3_bearsWithin wsX3_firstToBreak := goodIn_r _ [19, 8, 3, 4, 5, 6, 7, 9, 10, 11, 1, 2, 12, 13, 14, 15, 20, 21, 22, 23, 24, 25, 26, 27, 28, 29, 30, 31, 32, 33, 34, 35, 36, 37, 38, 39, 40] (by decide +kernel) (by decide +kernel)
set_option maxRecDepth 20000 in
theorem gX3_bearsWithin_X3_firstToBreak : GoodIn wsX3_bearsWithin (wsV RX3 71 RX3 yX3_firstToBreak wsX3_firstToBreak) := goodIn_app (goodIn_of _ (by decide +kernel)) ggX3_bearsWithin_X3_firstToBreak
theorem dX3_bearsWithin_0 : decode cX3_bearsWithin 0 = .ok (.aload_n 0, 1) := by decide +kernel
theorem dX3_bearsWithin_1 : decode cX3_bearsWithin 1 = .ok (.iload_n 1, 1) := by decide +kernel
theorem dX3_bearsWithin_2 : decode cX3_bearsWithin 2 = .ok (.invokevirtual 51, 3) := by decide +kernel
theorem dX3_bearsWithin_5 : decode cX3_bearsWithin 5 = .ok (.ifCond .eq 28, 3) := by decide +kernel
theorem dX3_bearsWithin_8 : decode cX3_bearsWithin 8 = .ok (.aload_n 0, 1) := by decide +kernel
theorem dX3_bearsWithin_9 : decode cX3_bearsWithin 9 = .ok (.getfield 42, 3) := by decide +kernel
theorem dX3_bearsWithin_12 : decode cX3_bearsWithin 12 = .ok (.iload_n 2, 1) := by decide +kernel
theorem dX3_bearsWithin_13 : decode cX3_bearsWithin 13 = .ok (.aload_n 0, 1) := by decide +kernel
theorem dX3_bearsWithin_14 : decode cX3_bearsWithin 14 = .ok (.getfield 45, 3) := by decide +kernel
theorem dX3_bearsWithin_17 : decode cX3_bearsWithin 17 = .ok (.imul, 1) := by decide +kernel
theorem dX3_bearsWithin_18 : decode cX3_bearsWithin 18 = .ok (.if_icmp .gt 15, 3) := by decide +kernel
theorem dX3_bearsWithin_21 : decode cX3_bearsWithin 21 = .ok (.aload_n 0, 1) := by decide +kernel
theorem dX3_bearsWithin_22 : decode cX3_bearsWithin 22 = .ok (.iload_n 1, 1) := by decide +kernel
theorem dX3_bearsWithin_23 : decode cX3_bearsWithin 23 = .ok (.invokevirtual 71, 3) := by decide +kernel
theorem dX3_bearsWithin_26 : decode cX3_bearsWithin 26 = .ok (.ifCond .ge 7, 3) := by decide +kernel
theorem dX3_bearsWithin_29 : decode cX3_bearsWithin 29 = .ok (.iconst 1, 1) := by decide +kernel
theorem dX3_bearsWithin_30 : decode cX3_bearsWithin 30 = .ok (.goto 4, 3) := by decide +kernel
theorem dX3_bearsWithin_33 : decode cX3_bearsWithin 33 = .ok (.iconst 0, 1) := by decide +kernel
theorem dX3_bearsWithin_34 : decode cX3_bearsWithin 34 = .ok (.ireturn, 1) := by decide +kernel
theorem dX4_init_0 : decode cX4_init 0 = .ok (.aload_n 0, 1) := by decide +kernel
theorem dX4_init_1 : decode cX4_init 1 = .ok (.invokespecial 3, 3) := by decide +kernel
theorem dX4_init_4 : decode cX4_init 4 = .ok (.aload_n 0, 1) := by decide +kernel
theorem dX4_init_5 : decode cX4_init 5 = .ok (.bipush 6, 2) := by decide +kernel
theorem dX4_init_7 : decode cX4_init 7 = .ok (.newarray .int, 2) := by decide +kernel
theorem dX4_init_9 : decode cX4_init 9 = .ok (.putfield 9, 3) := by decide +kernel
theorem dX4_init_12 : decode cX4_init 12 = .ok (.aload_n 0, 1) := by decide +kernel
theorem dX4_init_13 : decode cX4_init 13 = .ok (.bipush 6, 2) := by decide +kernel
theorem dX4_init_15 : decode cX4_init 15 = .ok (.newarray .int, 2) := by decide +kernel
theorem dX4_init_17 : decode cX4_init 17 = .ok (.putfield 15, 3) := by decide +kernel
theorem dX4_init_20 : decode cX4_init 20 = .ok (.return_, 1) := by decide +kernel
theorem dX4_append_0 : decode cX4_append 0 = .ok (.aload_n 0, 1) := by decide +kernel
theorem dX4_append_1 : decode cX4_append 1 = .ok (.getfield 18, 3) := by decide +kernel
theorem dX4_append_4 : decode cX4_append 4 = .ok (.bipush 6, 2) := by decide +kernel
theorem dX4_append_6 : decode cX4_append 6 = .ok (.if_icmp .lt 5, 3) := by decide +kernel
theorem dX4_append_9 : decode cX4_append 9 = .ok (.iconst 0, 1) := by decide +kernel
theorem dX4_append_10 : decode cX4_append 10 = .ok (.ireturn, 1) := by decide +kernel
theorem dX4_append_11 : decode cX4_append 11 = .ok (.aload_n 0, 1) := by decide +kernel
theorem dX4_append_12 : decode cX4_append 12 = .ok (.getfield 9, 3) := by decide +kernel
theorem dX4_append_15 : decode cX4_append 15 = .ok (.aload_n 0, 1) := by decide +kernel
theorem dX4_append_16 : decode cX4_append 16 = .ok (.getfield 18, 3) := by decide +kernel
theorem dX4_append_19 : decode cX4_append 19 = .ok (.iload_n 1, 1) := by decide +kernel
theorem dX4_append_20 : decode cX4_append 20 = .ok (.iastore, 1) := by decide +kernel
theorem dX4_append_21 : decode cX4_append 21 = .ok (.aload_n 0, 1) := by decide +kernel
theorem dX4_append_22 : decode cX4_append 22 = .ok (.getfield 15, 3) := by decide +kernel
theorem dX4_append_25 : decode cX4_append 25 = .ok (.aload_n 0, 1) := by decide +kernel
theorem dX4_append_26 : decode cX4_append 26 = .ok (.getfield 18, 3) := by decide +kernel
theorem dX4_append_29 : decode cX4_append 29 = .ok (.iload_n 2, 1) := by decide +kernel
theorem dX4_append_30 : decode cX4_append 30 = .ok (.iastore, 1) := by decide +kernel
theorem dX4_append_31 : decode cX4_append 31 = .ok (.aload_n 0, 1) := by decide +kernel
theorem dX4_append_32 : decode cX4_append 32 = .ok (.dup, 1) := by decide +kernel
theorem dX4_append_33 : decode cX4_append 33 = .ok (.getfield 18, 3) := by decide +kernel
theorem dX4_append_36 : decode cX4_append 36 = .ok (.iconst 1, 1) := by decide +kernel
theorem dX4_append_37 : decode cX4_append 37 = .ok (.iadd, 1) := by decide +kernel
theorem dX4_append_38 : decode cX4_append 38 = .ok (.putfield 18, 3) := by decide +kernel
theorem dX4_append_41 : decode cX4_append 41 = .ok (.iconst 1, 1) := by decide +kernel
theorem dX4_append_42 : decode cX4_append 42 = .ok (.ireturn, 1) := by decide +kernel
theorem dX4_empty_0 : decode cX4_empty 0 = .ok (.aload_n 0, 1) := by decide +kernel
theorem dX4_empty_1 : decode cX4_empty 1 = .ok (.getfield 18, 3) := by decide +kernel
theorem dX4_empty_4 : decode cX4_empty 4 = .ok (.istore_n 1, 1) := by decide +kernel
theorem dX4_empty_5 : decode cX4_empty 5 = .ok (.aload_n 0, 1) := by decide +kernel
theorem dX4_empty_6 : decode cX4_empty 6 = .ok (.iconst 0, 1) := by decide +kernel
theorem dX4_empty_7 : decode cX4_empty 7 = .ok (.putfield 18, 3) := by decide +kernel
theorem dX4_empty_10 : decode cX4_empty 10 = .ok (.iload_n 1, 1) := by decide +kernel
theorem dX4_empty_11 : decode cX4_empty 11 = .ok (.ireturn, 1) := by decide +kernel
set_option maxRecDepth 20000 in
theorem ggX4_agreeWith_X3_cutBy : GoodIn wsX4_agreeWith wsX3_cutBy := goodIn_r _ [8, 9, 10, 11, 7, 12, 13, 14, 15, 16, 17, 18, 19, 20, 21, 22, 23, 24, 25, 26, 30, 31, 32, 33, 34, 35, 36, 37] (by decide +kernel) (by decide +kernel)
set_option maxRecDepth 20000 in
theorem gX4_agreeWith_X3_cutBy : GoodIn wsX4_agreeWith (wsV RX4 22 RX3 yX3_cutBy wsX3_cutBy) := goodIn_app (goodIn_of _ (by decide +kernel)) ggX4_agreeWith_X3_cutBy
theorem dX4_agreeWith_0 : decode cX4_agreeWith 0 = .ok (.iconst 0, 1) := by decide +kernel
theorem dX4_agreeWith_1 : decode cX4_agreeWith 1 = .ok (.istore_n 2, 1) := by decide +kernel
theorem dX4_agreeWith_2 : decode cX4_agreeWith 2 = .ok (.iload_n 2, 1) := by decide +kernel
theorem dX4_agreeWith_3 : decode cX4_agreeWith 3 = .ok (.aload_n 0, 1) := by decide +kernel
theorem dX4_agreeWith_4 : decode cX4_agreeWith 4 = .ok (.getfield 18, 3) := by decide +kernel
theorem dX4_agreeWith_7 : decode cX4_agreeWith 7 = .ok (.if_icmp .ge 30, 3) := by decide +kernel
theorem dX4_agreeWith_10 : decode cX4_agreeWith 10 = .ok (.aload_n 1, 1) := by decide +kernel
theorem dX4_agreeWith_11 : decode cX4_agreeWith 11 = .ok (.aload_n 0, 1) := by decide +kernel
theorem dX4_agreeWith_12 : decode cX4_agreeWith 12 = .ok (.getfield 9, 3) := by decide +kernel
theorem dX4_agreeWith_15 : decode cX4_agreeWith 15 = .ok (.iload_n 2, 1) := by decide +kernel
theorem dX4_agreeWith_16 : decode cX4_agreeWith 16 = .ok (.iaload, 1) := by decide +kernel
theorem dX4_agreeWith_17 : decode cX4_agreeWith 17 = .ok (.invokevirtual 22, 3) := by decide +kernel
theorem dX4_agreeWith_20 : decode cX4_agreeWith 20 = .ok (.aload_n 0, 1) := by decide +kernel
theorem dX4_agreeWith_21 : decode cX4_agreeWith 21 = .ok (.getfield 15, 3) := by decide +kernel
theorem dX4_agreeWith_24 : decode cX4_agreeWith 24 = .ok (.iload_n 2, 1) := by decide +kernel
theorem dX4_agreeWith_25 : decode cX4_agreeWith 25 = .ok (.iaload, 1) := by decide +kernel
theorem dX4_agreeWith_26 : decode cX4_agreeWith 26 = .ok (.if_icmp .eq 5, 3) := by decide +kernel
theorem dX4_agreeWith_29 : decode cX4_agreeWith 29 = .ok (.iconst 0, 1) := by decide +kernel
theorem dX4_agreeWith_30 : decode cX4_agreeWith 30 = .ok (.ireturn, 1) := by decide +kernel
theorem dX4_agreeWith_31 : decode cX4_agreeWith 31 = .ok (.iinc 2 1, 3) := by decide +kernel
theorem dX4_agreeWith_34 : decode cX4_agreeWith 34 = .ok (.goto (-32), 3) := by decide +kernel
theorem dX4_agreeWith_37 : decode cX4_agreeWith 37 = .ok (.iconst 1, 1) := by decide +kernel
theorem dX4_agreeWith_38 : decode cX4_agreeWith 38 = .ok (.ireturn, 1) := by decide +kernel
theorem dX5_init_0 : decode cX5_init 0 = .ok (.aload_n 0, 1) := by decide +kernel
theorem dX5_init_1 : decode cX5_init 1 = .ok (.invokespecial 3, 3) := by decide +kernel
theorem dX5_init_4 : decode cX5_init 4 = .ok (.aload_n 0, 1) := by decide +kernel
theorem dX5_init_5 : decode cX5_init 5 = .ok (.bipush 100, 2) := by decide +kernel
theorem dX5_init_7 : decode cX5_init 7 = .ok (.newarray .char, 2) := by decide +kernel
theorem dX5_init_9 : decode cX5_init 9 = .ok (.putfield 9, 3) := by decide +kernel
theorem dX5_init_12 : decode cX5_init 12 = .ok (.return_, 1) := by decide +kernel
theorem dX5_append_0 : decode cX5_append 0 = .ok (.aload_n 0, 1) := by decide +kernel
theorem dX5_append_1 : decode cX5_append 1 = .ok (.getfield 15, 3) := by decide +kernel
theorem dX5_append_4 : decode cX5_append 4 = .ok (.bipush 100, 2) := by decide +kernel
theorem dX5_append_6 : decode cX5_append 6 = .ok (.if_icmp .lt 5, 3) := by decide +kernel
theorem dX5_append_9 : decode cX5_append 9 = .ok (.iconst 0, 1) := by decide +kernel
theorem dX5_append_10 : decode cX5_append 10 = .ok (.ireturn, 1) := by decide +kernel
theorem dX5_append_11 : decode cX5_append 11 = .ok (.aload_n 0, 1) := by decide +kernel
theorem dX5_append_12 : decode cX5_append 12 = .ok (.getfield 9, 3) := by decide +kernel
theorem dX5_append_15 : decode cX5_append 15 = .ok (.aload_n 0, 1) := by decide +kernel
theorem dX5_append_16 : decode cX5_append 16 = .ok (.getfield 15, 3) := by decide +kernel
theorem dX5_append_19 : decode cX5_append 19 = .ok (.iload_n 1, 1) := by decide +kernel
theorem dX5_append_20 : decode cX5_append 20 = .ok (.i2c, 1) := by decide +kernel
theorem dX5_append_21 : decode cX5_append 21 = .ok (.castore, 1) := by decide +kernel
theorem dX5_append_22 : decode cX5_append 22 = .ok (.aload_n 0, 1) := by decide +kernel
theorem dX5_append_23 : decode cX5_append 23 = .ok (.dup, 1) := by decide +kernel
theorem dX5_append_24 : decode cX5_append 24 = .ok (.getfield 15, 3) := by decide +kernel
theorem dX5_append_27 : decode cX5_append 27 = .ok (.iconst 1, 1) := by decide +kernel
theorem dX5_append_28 : decode cX5_append 28 = .ok (.iadd, 1) := by decide +kernel
theorem dX5_append_29 : decode cX5_append 29 = .ok (.putfield 15, 3) := by decide +kernel
theorem dX5_append_32 : decode cX5_append 32 = .ok (.iconst 1, 1) := by decide +kernel
theorem dX5_append_33 : decode cX5_append 33 = .ok (.ireturn, 1) := by decide +kernel
theorem dX5_empty_0 : decode cX5_empty 0 = .ok (.aload_n 0, 1) := by decide +kernel
theorem dX5_empty_1 : decode cX5_empty 1 = .ok (.getfield 15, 3) := by decide +kernel
theorem dX5_empty_4 : decode cX5_empty 4 = .ok (.istore_n 1, 1) := by decide +kernel
theorem dX5_empty_5 : decode cX5_empty 5 = .ok (.aload_n 0, 1) := by decide +kernel
theorem dX5_empty_6 : decode cX5_empty 6 = .ok (.iconst 0, 1) := by decide +kernel
theorem dX5_empty_7 : decode cX5_empty 7 = .ok (.putfield 15, 3) := by decide +kernel
theorem dX5_empty_10 : decode cX5_empty 10 = .ok (.iload_n 1, 1) := by decide +kernel
theorem dX5_empty_11 : decode cX5_empty 11 = .ok (.ireturn, 1) := by decide +kernel
set_option maxRecDepth 20000 in
theorem ggX5_readInto_X2_empty : GoodIn wsX5_readInto wsX2_empty := goodIn_r _ [6, 7, 8, 50, 51, 52] (by decide +kernel) (by decide +kernel)
set_option maxRecDepth 20000 in
theorem gX5_readInto_X2_empty : GoodIn wsX5_readInto (wsV RX5 19 RX2 yX2_empty wsX2_empty) := goodIn_app (goodIn_of _ (by decide +kernel)) ggX5_readInto_X2_empty
set_option maxRecDepth 20000 in
theorem ggX5_readInto_X5_behindBlanks : GoodIn wsX5_readInto wsX5_behindBlanks := goodIn_r _ [13, 1, 14, 48, 49] (by decide +kernel) (by decide +kernel)
set_option maxRecDepth 20000 in
theorem gX5_readInto_X5_behindBlanks : GoodIn wsX5_readInto (wsV RX5 24 RX5 yX5_behindBlanks wsX5_behindBlanks) := goodIn_app (goodIn_of _ (by decide +kernel)) ggX5_readInto_X5_behindBlanks
set_option maxRecDepth 20000 in
theorem ggX5_readInto_X5_tokenEnd : GoodIn wsX5_readInto wsX5_tokenEnd := goodIn_r _ [18, 1, 19, 20, 21, 12, 22, 14, 48, 49] (by decide +kernel) (by decide +kernel)
set_option maxRecDepth 20000 in
theorem gX5_readInto_X5_tokenEnd : GoodIn wsX5_readInto (wsV RX5 28 RX5 yX5_tokenEnd wsX5_tokenEnd) := goodIn_app (goodIn_of _ (by decide +kernel)) ggX5_readInto_X5_tokenEnd
set_option maxRecDepth 20000 in
theorem ggX5_readInto_X5_takesToken : GoodIn wsX5_readInto wsX5_takesToken := goodIn_r _ [26, 14, 27, 28, 29, 5, 30, 7, 8, 31, 32, 33, 12, 34, 19, 20, 21, 22, 35, 36, 37, 38, 39, 40, 41, 42, 43, 44, 45, 46, 47, 48, 49, 50, 51, 52] (by decide +kernel) (by decide +kernel)
set_option maxRecDepth 20000 in
theorem gX5_readInto_X5_takesToken : GoodIn wsX5_readInto (wsV RX5 31 RX5 yX5_takesToken wsX5_takesToken) := goodIn_app (goodIn_of _ (by decide +kernel)) ggX5_readInto_X5_takesToken
theorem dX5_readInto_0 : decode cX5_readInto 0 = .ok (.aload_n 1, 1) := by decide +kernel
theorem dX5_readInto_1 : decode cX5_readInto 1 = .ok (.invokevirtual 19, 3) := by decide +kernel
theorem dX5_readInto_4 : decode cX5_readInto 4 = .ok (.iconst 0, 1) := by decide +kernel
theorem dX5_readInto_5 : decode cX5_readInto 5 = .ok (.istore_n 2, 1) := by decide +kernel
theorem dX5_readInto_6 : decode cX5_readInto 6 = .ok (.aload_n 0, 1) := by decide +kernel
theorem dX5_readInto_7 : decode cX5_readInto 7 = .ok (.iconst 0, 1) := by decide +kernel
theorem dX5_readInto_8 : decode cX5_readInto 8 = .ok (.invokevirtual 24, 3) := by decide +kernel
theorem dX5_readInto_11 : decode cX5_readInto 11 = .ok (.istore_n 3, 1) := by decide +kernel
theorem dX5_readInto_12 : decode cX5_readInto 12 = .ok (.iconst 0, 1) := by decide +kernel
theorem dX5_readInto_13 : decode cX5_readInto 13 = .ok (.istore 4, 2) := by decide +kernel
theorem dX5_readInto_15 : decode cX5_readInto 15 = .ok (.iload_n 3, 1) := by decide +kernel
theorem dX5_readInto_16 : decode cX5_readInto 16 = .ok (.aload_n 0, 1) := by decide +kernel
theorem dX5_readInto_17 : decode cX5_readInto 17 = .ok (.getfield 15, 3) := by decide +kernel
theorem dX5_readInto_20 : decode cX5_readInto 20 = .ok (.if_icmp .ge 57, 3) := by decide +kernel
theorem dX5_readInto_23 : decode cX5_readInto 23 = .ok (.iload 4, 2) := by decide +kernel
theorem dX5_readInto_25 : decode cX5_readInto 25 = .ok (.bipush 100, 2) := by decide +kernel
theorem dX5_readInto_27 : decode cX5_readInto 27 = .ok (.if_icmp .ge 50, 3) := by decide +kernel
theorem dX5_readInto_30 : decode cX5_readInto 30 = .ok (.aload_n 0, 1) := by decide +kernel
theorem dX5_readInto_31 : decode cX5_readInto 31 = .ok (.iload_n 3, 1) := by decide +kernel
theorem dX5_readInto_32 : decode cX5_readInto 32 = .ok (.invokevirtual 28, 3) := by decide +kernel
theorem dX5_readInto_35 : decode cX5_readInto 35 = .ok (.istore 5, 2) := by decide +kernel
theorem dX5_readInto_37 : decode cX5_readInto 37 = .ok (.aload_n 0, 1) := by decide +kernel
theorem dX5_readInto_38 : decode cX5_readInto 38 = .ok (.aload_n 1, 1) := by decide +kernel
theorem dX5_readInto_39 : decode cX5_readInto 39 = .ok (.iload_n 2, 1) := by decide +kernel
theorem dX5_readInto_40 : decode cX5_readInto 40 = .ok (.iload_n 3, 1) := by decide +kernel
theorem dX5_readInto_41 : decode cX5_readInto 41 = .ok (.iload 5, 2) := by decide +kernel
theorem dX5_readInto_43 : decode cX5_readInto 43 = .ok (.invokevirtual 31, 3) := by decide +kernel
theorem dX5_readInto_46 : decode cX5_readInto 46 = .ok (.ifCond .ne 5, 3) := by decide +kernel
theorem dX5_readInto_49 : decode cX5_readInto 49 = .ok (.iload_n 3, 1) := by decide +kernel
theorem dX5_readInto_50 : decode cX5_readInto 50 = .ok (.ireturn, 1) := by decide +kernel
theorem dX5_readInto_51 : decode cX5_readInto 51 = .ok (.iload_n 2, 1) := by decide +kernel
theorem dX5_readInto_52 : decode cX5_readInto 52 = .ok (.iconst 5, 1) := by decide +kernel
theorem dX5_readInto_53 : decode cX5_readInto 53 = .ok (.if_icmp .ne 7, 3) := by decide +kernel
theorem dX5_readInto_56 : decode cX5_readInto 56 = .ok (.iconst 0, 1) := by decide +kernel
theorem dX5_readInto_57 : decode cX5_readInto 57 = .ok (.goto 6, 3) := by decide +kernel
theorem dX5_readInto_60 : decode cX5_readInto 60 = .ok (.iload_n 2, 1) := by decide +kernel
theorem dX5_readInto_61 : decode cX5_readInto 61 = .ok (.iconst 1, 1) := by decide +kernel
theorem dX5_readInto_62 : decode cX5_readInto 62 = .ok (.iadd, 1) := by decide +kernel
theorem dX5_readInto_63 : decode cX5_readInto 63 = .ok (.istore_n 2, 1) := by decide +kernel
theorem dX5_readInto_64 : decode cX5_readInto 64 = .ok (.aload_n 0, 1) := by decide +kernel
theorem dX5_readInto_65 : decode cX5_readInto 65 = .ok (.iload 5, 2) := by decide +kernel
theorem dX5_readInto_67 : decode cX5_readInto 67 = .ok (.invokevirtual 24, 3) := by decide +kernel
theorem dX5_readInto_70 : decode cX5_readInto 70 = .ok (.istore_n 3, 1) := by decide +kernel
theorem dX5_readInto_71 : decode cX5_readInto 71 = .ok (.iinc 4 1, 3) := by decide +kernel
theorem dX5_readInto_74 : decode cX5_readInto 74 = .ok (.goto (-59), 3) := by decide +kernel
theorem dX5_readInto_77 : decode cX5_readInto 77 = .ok (.iload_n 2, 1) := by decide +kernel
theorem dX5_readInto_78 : decode cX5_readInto 78 = .ok (.ifCond .ne 14, 3) := by decide +kernel
theorem dX5_readInto_81 : decode cX5_readInto 81 = .ok (.aload_n 1, 1) := by decide +kernel
theorem dX5_readInto_82 : decode cX5_readInto 82 = .ok (.getfield 35, 3) := by decide +kernel
theorem dX5_readInto_85 : decode cX5_readInto 85 = .ok (.ifCond .le 7, 3) := by decide +kernel
theorem dX5_readInto_88 : decode cX5_readInto 88 = .ok (.iconst (-1), 1) := by decide +kernel
theorem dX5_readInto_89 : decode cX5_readInto 89 = .ok (.goto 7, 3) := by decide +kernel
theorem dX5_readInto_92 : decode cX5_readInto 92 = .ok (.aload_n 0, 1) := by decide +kernel
theorem dX5_readInto_93 : decode cX5_readInto 93 = .ok (.getfield 15, 3) := by decide +kernel
theorem dX5_readInto_96 : decode cX5_readInto 96 = .ok (.ireturn, 1) := by decide +kernel
theorem dX5_behindBlanks_0 : decode cX5_behindBlanks 0 = .ok (.iload_n 1, 1) := by decide +kernel
theorem dX5_behindBlanks_1 : decode cX5_behindBlanks 1 = .ok (.istore_n 2, 1) := by decide +kernel
theorem dX5_behindBlanks_2 : decode cX5_behindBlanks 2 = .ok (.iload_n 2, 1) := by decide +kernel
theorem dX5_behindBlanks_3 : decode cX5_behindBlanks 3 = .ok (.aload_n 0, 1) := by decide +kernel
theorem dX5_behindBlanks_4 : decode cX5_behindBlanks 4 = .ok (.getfield 15, 3) := by decide +kernel
theorem dX5_behindBlanks_7 : decode cX5_behindBlanks 7 = .ok (.if_icmp .ge 20, 3) := by decide +kernel
theorem dX5_behindBlanks_10 : decode cX5_behindBlanks 10 = .ok (.aload_n 0, 1) := by decide +kernel
theorem dX5_behindBlanks_11 : decode cX5_behindBlanks 11 = .ok (.getfield 9, 3) := by decide +kernel
theorem dX5_behindBlanks_14 : decode cX5_behindBlanks 14 = .ok (.iload_n 2, 1) := by decide +kernel
theorem dX5_behindBlanks_15 : decode cX5_behindBlanks 15 = .ok (.caload, 1) := by decide +kernel
theorem dX5_behindBlanks_16 : decode cX5_behindBlanks 16 = .ok (.bipush 32, 2) := by decide +kernel
theorem dX5_behindBlanks_18 : decode cX5_behindBlanks 18 = .ok (.if_icmp .ne 9, 3) := by decide +kernel
theorem dX5_behindBlanks_21 : decode cX5_behindBlanks 21 = .ok (.iinc 2 1, 3) := by decide +kernel
theorem dX5_behindBlanks_24 : decode cX5_behindBlanks 24 = .ok (.goto (-22), 3) := by decide +kernel
theorem dX5_behindBlanks_27 : decode cX5_behindBlanks 27 = .ok (.iload_n 2, 1) := by decide +kernel
theorem dX5_behindBlanks_28 : decode cX5_behindBlanks 28 = .ok (.ireturn, 1) := by decide +kernel
set_option maxRecDepth 20000 in
theorem ggX5_tokenEnd_X5_isFigure : GoodIn wsX5_tokenEnd wsX5_isFigure := goodIn_r _ [6, 7, 8, 9] (by decide +kernel) (by decide +kernel)
set_option maxRecDepth 20000 in
theorem gX5_tokenEnd_X5_isFigure : GoodIn wsX5_tokenEnd (wsV RX5 36 RX5 yX5_isFigure wsX5_isFigure) := goodIn_app (goodIn_of _ (by decide +kernel)) ggX5_tokenEnd_X5_isFigure
theorem dX5_tokenEnd_0 : decode cX5_tokenEnd 0 = .ok (.iload_n 1, 1) := by decide +kernel
theorem dX5_tokenEnd_1 : decode cX5_tokenEnd 1 = .ok (.iconst 1, 1) := by decide +kernel
theorem dX5_tokenEnd_2 : decode cX5_tokenEnd 2 = .ok (.iadd, 1) := by decide +kernel
theorem dX5_tokenEnd_3 : decode cX5_tokenEnd 3 = .ok (.istore_n 2, 1) := by decide +kernel
theorem dX5_tokenEnd_4 : decode cX5_tokenEnd 4 = .ok (.aload_n 0, 1) := by decide +kernel
theorem dX5_tokenEnd_5 : decode cX5_tokenEnd 5 = .ok (.iload_n 1, 1) := by decide +kernel
theorem dX5_tokenEnd_6 : decode cX5_tokenEnd 6 = .ok (.invokevirtual 36, 3) := by decide +kernel
theorem dX5_tokenEnd_9 : decode cX5_tokenEnd 9 = .ok (.ifCond .eq 25, 3) := by decide +kernel
theorem dX5_tokenEnd_12 : decode cX5_tokenEnd 12 = .ok (.iload_n 2, 1) := by decide +kernel
theorem dX5_tokenEnd_13 : decode cX5_tokenEnd 13 = .ok (.aload_n 0, 1) := by decide +kernel
theorem dX5_tokenEnd_14 : decode cX5_tokenEnd 14 = .ok (.getfield 15, 3) := by decide +kernel
theorem dX5_tokenEnd_17 : decode cX5_tokenEnd 17 = .ok (.if_icmp .ge 17, 3) := by decide +kernel
theorem dX5_tokenEnd_20 : decode cX5_tokenEnd 20 = .ok (.aload_n 0, 1) := by decide +kernel
theorem dX5_tokenEnd_21 : decode cX5_tokenEnd 21 = .ok (.iload_n 2, 1) := by decide +kernel
theorem dX5_tokenEnd_22 : decode cX5_tokenEnd 22 = .ok (.invokevirtual 36, 3) := by decide +kernel
theorem dX5_tokenEnd_25 : decode cX5_tokenEnd 25 = .ok (.ifCond .eq 9, 3) := by decide +kernel
theorem dX5_tokenEnd_28 : decode cX5_tokenEnd 28 = .ok (.iinc 2 1, 3) := by decide +kernel
theorem dX5_tokenEnd_31 : decode cX5_tokenEnd 31 = .ok (.goto (-19), 3) := by decide +kernel
theorem dX5_tokenEnd_34 : decode cX5_tokenEnd 34 = .ok (.iload_n 2, 1) := by decide +kernel
theorem dX5_tokenEnd_35 : decode cX5_tokenEnd 35 = .ok (.ireturn, 1) := by decide +kernel
theorem dX5_isFigure_0 : decode cX5_isFigure 0 = .ok (.aload_n 0, 1) := by decide +kernel
theorem dX5_isFigure_1 : decode cX5_isFigure 1 = .ok (.getfield 9, 3) := by decide +kernel
theorem dX5_isFigure_4 : decode cX5_isFigure 4 = .ok (.iload_n 1, 1) := by decide +kernel
theorem dX5_isFigure_5 : decode cX5_isFigure 5 = .ok (.caload, 1) := by decide +kernel
theorem dX5_isFigure_6 : decode cX5_isFigure 6 = .ok (.bipush 48, 2) := by decide +kernel
theorem dX5_isFigure_8 : decode cX5_isFigure 8 = .ok (.if_icmp .lt 18, 3) := by decide +kernel
theorem dX5_isFigure_11 : decode cX5_isFigure 11 = .ok (.aload_n 0, 1) := by decide +kernel
theorem dX5_isFigure_12 : decode cX5_isFigure 12 = .ok (.getfield 9, 3) := by decide +kernel
theorem dX5_isFigure_15 : decode cX5_isFigure 15 = .ok (.iload_n 1, 1) := by decide +kernel
theorem dX5_isFigure_16 : decode cX5_isFigure 16 = .ok (.caload, 1) := by decide +kernel
theorem dX5_isFigure_17 : decode cX5_isFigure 17 = .ok (.bipush 57, 2) := by decide +kernel
theorem dX5_isFigure_19 : decode cX5_isFigure 19 = .ok (.if_icmp .gt 7, 3) := by decide +kernel
theorem dX5_isFigure_22 : decode cX5_isFigure 22 = .ok (.iconst 1, 1) := by decide +kernel
theorem dX5_isFigure_23 : decode cX5_isFigure 23 = .ok (.goto 4, 3) := by decide +kernel
theorem dX5_isFigure_26 : decode cX5_isFigure 26 = .ok (.iconst 0, 1) := by decide +kernel
theorem dX5_isFigure_27 : decode cX5_isFigure 27 = .ok (.ireturn, 1) := by decide +kernel
set_option maxRecDepth 20000 in
theorem ggX5_takesToken_X2_appendWhole : GoodIn wsX5_takesToken wsX2_appendWhole := goodIn_r _ [6, 7, 8, 33, 34, 35] (by decide +kernel) (by decide +kernel)
set_option maxRecDepth 20000 in
theorem gX5_takesToken_X2_appendWhole : GoodIn wsX5_takesToken (wsV RX5 40 RX2 yX2_appendWhole wsX2_appendWhole) := goodIn_app (goodIn_of _ (by decide +kernel)) ggX5_takesToken_X2_appendWhole
set_option maxRecDepth 20000 in
theorem ggX5_takesToken_X5_numberAt : GoodIn wsX5_takesToken wsX5_numberAt := goodIn_r _ [13, 1, 14, 15, 16, 12, 17, 31, 32] (by decide +kernel) (by decide +kernel)
set_option maxRecDepth 20000 in
theorem gX5_takesToken_X5_numberAt : GoodIn wsX5_takesToken (wsV RX5 43 RX5 yX5_numberAt wsX5_numberAt) := goodIn_app (goodIn_of _ (by decide +kernel)) ggX5_takesToken_X5_numberAt
set_option maxRecDepth 20000 in
theorem ggX5_takesToken_X2_mostOfNext : GoodIn wsX5_takesToken wsX2_mostOfNext := goodIn_r _ [21, 7, 22, 23, 24, 5, 25, 26, 33, 34, 35] (by decide +kernel) (by decide +kernel)
set_option maxRecDepth 20000 in
theorem gX5_takesToken_X2_mostOfNext : GoodIn wsX5_takesToken (wsV RX5 51 RX2 yX2_mostOfNext wsX2_mostOfNext) := goodIn_app (goodIn_of _ (by decide +kernel)) ggX5_takesToken_X2_mostOfNext
set_option maxRecDepth 20000 in
theorem ggX5_takesToken_X2_put : GoodIn wsX5_takesToken wsX2_put := goodIn_r _ [30, 26, 33, 34, 35] (by decide +kernel) (by decide +kernel)
set_option maxRecDepth 20000 in
theorem gX5_takesToken_X2_put : GoodIn wsX5_takesToken (wsV RX5 54 RX2 yX2_put wsX2_put) := goodIn_app (goodIn_of _ (by decide +kernel)) ggX5_takesToken_X2_put
theorem dX5_takesToken_0 : decode cX5_takesToken 0 = .ok (.iload_n 2, 1) := by decide +kernel
theorem dX5_takesToken_1 : decode cX5_takesToken 1 = .ok (.ifCond .ne 29, 3) := by decide +kernel
theorem dX5_takesToken_4 : decode cX5_takesToken 4 = .ok (.aload_n 0, 1) := by decide +kernel
theorem dX5_takesToken_5 : decode cX5_takesToken 5 = .ok (.getfield 9, 3) := by decide +kernel
theorem dX5_takesToken_8 : decode cX5_takesToken 8 = .ok (.iload_n 3, 1) := by decide +kernel
theorem dX5_takesToken_9 : decode cX5_takesToken 9 = .ok (.caload, 1) := by decide +kernel
theorem dX5_takesToken_10 : decode cX5_takesToken 10 = .ok (.bipush 108, 2) := by decide +kernel
theorem dX5_takesToken_12 : decode cX5_takesToken 12 = .ok (.if_icmp .ne 16, 3) := by decide +kernel
theorem dX5_takesToken_15 : decode cX5_takesToken 15 = .ok (.aload_n 1, 1) := by decide +kernel
theorem dX5_takesToken_16 : decode cX5_takesToken 16 = .ok (.getfield 35, 3) := by decide +kernel
theorem dX5_takesToken_19 : decode cX5_takesToken 19 = .ok (.bipush 8, 2) := by decide +kernel
theorem dX5_takesToken_21 : decode cX5_takesToken 21 = .ok (.if_icmp .ge 7, 3) := by decide +kernel
theorem dX5_takesToken_24 : decode cX5_takesToken 24 = .ok (.iconst 1, 1) := by decide +kernel
theorem dX5_takesToken_25 : decode cX5_takesToken 25 = .ok (.goto 4, 3) := by decide +kernel
theorem dX5_takesToken_28 : decode cX5_takesToken 28 = .ok (.iconst 0, 1) := by decide +kernel
theorem dX5_takesToken_29 : decode cX5_takesToken 29 = .ok (.ireturn, 1) := by decide +kernel
theorem dX5_takesToken_30 : decode cX5_takesToken 30 = .ok (.iload_n 2, 1) := by decide +kernel
theorem dX5_takesToken_31 : decode cX5_takesToken 31 = .ok (.iconst 5, 1) := by decide +kernel
theorem dX5_takesToken_32 : decode cX5_takesToken 32 = .ok (.if_icmp .ne 33, 3) := by decide +kernel
theorem dX5_takesToken_35 : decode cX5_takesToken 35 = .ok (.aload_n 0, 1) := by decide +kernel
theorem dX5_takesToken_36 : decode cX5_takesToken 36 = .ok (.getfield 9, 3) := by decide +kernel
theorem dX5_takesToken_39 : decode cX5_takesToken 39 = .ok (.iload_n 3, 1) := by decide +kernel
theorem dX5_takesToken_40 : decode cX5_takesToken 40 = .ok (.caload, 1) := by decide +kernel
theorem dX5_takesToken_41 : decode cX5_takesToken 41 = .ok (.bipush 59, 2) := by decide +kernel
theorem dX5_takesToken_43 : decode cX5_takesToken 43 = .ok (.if_icmp .ne 7, 3) := by decide +kernel
theorem dX5_takesToken_46 : decode cX5_takesToken 46 = .ok (.iconst 1, 1) := by decide +kernel
theorem dX5_takesToken_47 : decode cX5_takesToken 47 = .ok (.goto 4, 3) := by decide +kernel
theorem dX5_takesToken_50 : decode cX5_takesToken 50 = .ok (.iconst 0, 1) := by decide +kernel
theorem dX5_takesToken_51 : decode cX5_takesToken 51 = .ok (.istore 5, 2) := by decide +kernel
theorem dX5_takesToken_53 : decode cX5_takesToken 53 = .ok (.iload 5, 2) := by decide +kernel
theorem dX5_takesToken_55 : decode cX5_takesToken 55 = .ok (.ifCond .eq 7, 3) := by decide +kernel
theorem dX5_takesToken_58 : decode cX5_takesToken 58 = .ok (.aload_n 1, 1) := by decide +kernel
theorem dX5_takesToken_59 : decode cX5_takesToken 59 = .ok (.invokevirtual 40, 3) := by decide +kernel
theorem dX5_takesToken_62 : decode cX5_takesToken 62 = .ok (.iload 5, 2) := by decide +kernel
theorem dX5_takesToken_64 : decode cX5_takesToken 64 = .ok (.ireturn, 1) := by decide +kernel
theorem dX5_takesToken_65 : decode cX5_takesToken 65 = .ok (.iload_n 2, 1) := by decide +kernel
theorem dX5_takesToken_66 : decode cX5_takesToken 66 = .ok (.iconst 1, 1) := by decide +kernel
theorem dX5_takesToken_67 : decode cX5_takesToken 67 = .ok (.isub, 1) := by decide +kernel
theorem dX5_takesToken_68 : decode cX5_takesToken 68 = .ok (.istore 5, 2) := by decide +kernel
theorem dX5_takesToken_70 : decode cX5_takesToken 70 = .ok (.aload_n 0, 1) := by decide +kernel
theorem dX5_takesToken_71 : decode cX5_takesToken 71 = .ok (.iload_n 3, 1) := by decide +kernel
theorem dX5_takesToken_72 : decode cX5_takesToken 72 = .ok (.iload 4, 2) := by decide +kernel
theorem dX5_takesToken_74 : decode cX5_takesToken 74 = .ok (.invokevirtual 43, 3) := by decide +kernel
theorem dX5_takesToken_77 : decode cX5_takesToken 77 = .ok (.istore 6, 2) := by decide +kernel
theorem dX5_takesToken_79 : decode cX5_takesToken 79 = .ok (.iload 6, 2) := by decide +kernel
theorem dX5_takesToken_81 : decode cX5_takesToken 81 = .ok (.getstatic 47, 3) := by decide +kernel
theorem dX5_takesToken_84 : decode cX5_takesToken 84 = .ok (.iload 5, 2) := by decide +kernel
theorem dX5_takesToken_86 : decode cX5_takesToken 86 = .ok (.iaload, 1) := by decide +kernel
theorem dX5_takesToken_87 : decode cX5_takesToken 87 = .ok (.if_icmp .lt 14, 3) := by decide +kernel
theorem dX5_takesToken_90 : decode cX5_takesToken 90 = .ok (.iload 6, 2) := by decide +kernel
theorem dX5_takesToken_92 : decode cX5_takesToken 92 = .ok (.aload_n 1, 1) := by decide +kernel
theorem dX5_takesToken_93 : decode cX5_takesToken 93 = .ok (.iload 5, 2) := by decide +kernel
theorem dX5_takesToken_95 : decode cX5_takesToken 95 = .ok (.invokevirtual 51, 3) := by decide +kernel
theorem dX5_takesToken_98 : decode cX5_takesToken 98 = .ok (.if_icmp .le 5, 3) := by decide +kernel
theorem dX5_takesToken_101 : decode cX5_takesToken 101 = .ok (.iconst 0, 1) := by decide +kernel
theorem dX5_takesToken_102 : decode cX5_takesToken 102 = .ok (.ireturn, 1) := by decide +kernel
theorem dX5_takesToken_103 : decode cX5_takesToken 103 = .ok (.aload_n 1, 1) := by decide +kernel
theorem dX5_takesToken_104 : decode cX5_takesToken 104 = .ok (.iload 5, 2) := by decide +kernel
theorem dX5_takesToken_106 : decode cX5_takesToken 106 = .ok (.aload_n 1, 1) := by decide +kernel
theorem dX5_takesToken_107 : decode cX5_takesToken 107 = .ok (.getfield 35, 3) := by decide +kernel
theorem dX5_takesToken_110 : decode cX5_takesToken 110 = .ok (.iload 6, 2) := by decide +kernel
theorem dX5_takesToken_112 : decode cX5_takesToken 112 = .ok (.invokevirtual 54, 3) := by decide +kernel
theorem dX5_takesToken_115 : decode cX5_takesToken 115 = .ok (.iconst 1, 1) := by decide +kernel
theorem dX5_takesToken_116 : decode cX5_takesToken 116 = .ok (.ireturn, 1) := by decide +kernel
set_option maxRecDepth 20000 in
theorem ggX5_numberAt_X5_isFigure : GoodIn wsX5_numberAt wsX5_isFigure := goodIn_r _ [6, 1, 7, 8] (by decide +kernel) (by decide +kernel)
set_option maxRecDepth 20000 in
theorem gX5_numberAt_X5_isFigure : GoodIn wsX5_numberAt (wsV RX5 36 RX5 yX5_isFigure wsX5_isFigure) := goodIn_app (goodIn_of _ (by decide +kernel)) ggX5_numberAt_X5_isFigure
theorem dX5_numberAt_0 : decode cX5_numberAt 0 = .ok (.iload_n 2, 1) := by decide +kernel
theorem dX5_numberAt_1 : decode cX5_numberAt 1 = .ok (.iload_n 1, 1) := by decide +kernel
theorem dX5_numberAt_2 : decode cX5_numberAt 2 = .ok (.isub, 1) := by decide +kernel
theorem dX5_numberAt_3 : decode cX5_numberAt 3 = .ok (.istore_n 3, 1) := by decide +kernel
theorem dX5_numberAt_4 : decode cX5_numberAt 4 = .ok (.iload_n 3, 1) := by decide +kernel
theorem dX5_numberAt_5 : decode cX5_numberAt 5 = .ok (.iconst 1, 1) := by decide +kernel
theorem dX5_numberAt_6 : decode cX5_numberAt 6 = .ok (.if_icmp .le 18, 3) := by decide +kernel
theorem dX5_numberAt_9 : decode cX5_numberAt 9 = .ok (.aload_n 0, 1) := by decide +kernel
theorem dX5_numberAt_10 : decode cX5_numberAt 10 = .ok (.getfield 9, 3) := by decide +kernel
theorem dX5_numberAt_13 : decode cX5_numberAt 13 = .ok (.iload_n 1, 1) := by decide +kernel
theorem dX5_numberAt_14 : decode cX5_numberAt 14 = .ok (.caload, 1) := by decide +kernel
theorem dX5_numberAt_15 : decode cX5_numberAt 15 = .ok (.bipush 48, 2) := by decide +kernel
theorem dX5_numberAt_17 : decode cX5_numberAt 17 = .ok (.if_icmp .ne 7, 3) := by decide +kernel
theorem dX5_numberAt_20 : decode cX5_numberAt 20 = .ok (.iconst 1, 1) := by decide +kernel
theorem dX5_numberAt_21 : decode cX5_numberAt 21 = .ok (.goto 4, 3) := by decide +kernel
theorem dX5_numberAt_24 : decode cX5_numberAt 24 = .ok (.iconst 0, 1) := by decide +kernel
theorem dX5_numberAt_25 : decode cX5_numberAt 25 = .ok (.istore 4, 2) := by decide +kernel
theorem dX5_numberAt_27 : decode cX5_numberAt 27 = .ok (.aload_n 0, 1) := by decide +kernel
theorem dX5_numberAt_28 : decode cX5_numberAt 28 = .ok (.iload_n 1, 1) := by decide +kernel
theorem dX5_numberAt_29 : decode cX5_numberAt 29 = .ok (.invokevirtual 36, 3) := by decide +kernel
theorem dX5_numberAt_32 : decode cX5_numberAt 32 = .ok (.ifCond .eq 13, 3) := by decide +kernel
theorem dX5_numberAt_35 : decode cX5_numberAt 35 = .ok (.iload 4, 2) := by decide +kernel
theorem dX5_numberAt_37 : decode cX5_numberAt 37 = .ok (.ifCond .ne 8, 3) := by decide +kernel
theorem dX5_numberAt_40 : decode cX5_numberAt 40 = .ok (.iload_n 3, 1) := by decide +kernel
theorem dX5_numberAt_41 : decode cX5_numberAt 41 = .ok (.iconst 2, 1) := by decide +kernel
theorem dX5_numberAt_42 : decode cX5_numberAt 42 = .ok (.if_icmp .le 5, 3) := by decide +kernel
theorem dX5_numberAt_45 : decode cX5_numberAt 45 = .ok (.iconst (-1), 1) := by decide +kernel
theorem dX5_numberAt_46 : decode cX5_numberAt 46 = .ok (.ireturn, 1) := by decide +kernel
theorem dX5_numberAt_47 : decode cX5_numberAt 47 = .ok (.iconst 0, 1) := by decide +kernel
theorem dX5_numberAt_48 : decode cX5_numberAt 48 = .ok (.istore 5, 2) := by decide +kernel
theorem dX5_numberAt_50 : decode cX5_numberAt 50 = .ok (.iload_n 1, 1) := by decide +kernel
theorem dX5_numberAt_51 : decode cX5_numberAt 51 = .ok (.istore 6, 2) := by decide +kernel
theorem dX5_numberAt_53 : decode cX5_numberAt 53 = .ok (.iload 6, 2) := by decide +kernel
theorem dX5_numberAt_55 : decode cX5_numberAt 55 = .ok (.iload_n 2, 1) := by decide +kernel
theorem dX5_numberAt_56 : decode cX5_numberAt 56 = .ok (.if_icmp .ge 27, 3) := by decide +kernel
theorem dX5_numberAt_59 : decode cX5_numberAt 59 = .ok (.iload 5, 2) := by decide +kernel
theorem dX5_numberAt_61 : decode cX5_numberAt 61 = .ok (.bipush 10, 2) := by decide +kernel
theorem dX5_numberAt_63 : decode cX5_numberAt 63 = .ok (.imul, 1) := by decide +kernel
theorem dX5_numberAt_64 : decode cX5_numberAt 64 = .ok (.aload_n 0, 1) := by decide +kernel
theorem dX5_numberAt_65 : decode cX5_numberAt 65 = .ok (.getfield 9, 3) := by decide +kernel
theorem dX5_numberAt_68 : decode cX5_numberAt 68 = .ok (.iload 6, 2) := by decide +kernel
theorem dX5_numberAt_70 : decode cX5_numberAt 70 = .ok (.caload, 1) := by decide +kernel
theorem dX5_numberAt_71 : decode cX5_numberAt 71 = .ok (.bipush 48, 2) := by decide +kernel
theorem dX5_numberAt_73 : decode cX5_numberAt 73 = .ok (.isub, 1) := by decide +kernel
theorem dX5_numberAt_74 : decode cX5_numberAt 74 = .ok (.iadd, 1) := by decide +kernel
theorem dX5_numberAt_75 : decode cX5_numberAt 75 = .ok (.istore 5, 2) := by decide +kernel
theorem dX5_numberAt_77 : decode cX5_numberAt 77 = .ok (.iinc 6 1, 3) := by decide +kernel
theorem dX5_numberAt_80 : decode cX5_numberAt 80 = .ok (.goto (-27), 3) := by decide +kernel
theorem dX5_numberAt_83 : decode cX5_numberAt 83 = .ok (.iload 5, 2) := by decide +kernel
theorem dX5_numberAt_85 : decode cX5_numberAt 85 = .ok (.ireturn, 1) := by decide +kernel
theorem dJ6_bitCount_0f7a4_0 : decode cJ6_bitCount_0f7a4 0 = .ok (.iload_n 0, 1) := by decide +kernel
theorem dJ6_bitCount_0f7a4_1 : decode cJ6_bitCount_0f7a4 1 = .ok (.iload_n 0, 1) := by decide +kernel
theorem dJ6_bitCount_0f7a4_2 : decode cJ6_bitCount_0f7a4 2 = .ok (.iconst 1, 1) := by decide +kernel
theorem dJ6_bitCount_0f7a4_3 : decode cJ6_bitCount_0f7a4 3 = .ok (.iushr, 1) := by decide +kernel
theorem dJ6_bitCount_0f7a4_4 : decode cJ6_bitCount_0f7a4 4 = .ok (.ldc_w 265, 3) := by decide +kernel
theorem dJ6_bitCount_0f7a4_7 : decode cJ6_bitCount_0f7a4 7 = .ok (.iand, 1) := by decide +kernel
theorem dJ6_bitCount_0f7a4_8 : decode cJ6_bitCount_0f7a4 8 = .ok (.isub, 1) := by decide +kernel
theorem dJ6_bitCount_0f7a4_9 : decode cJ6_bitCount_0f7a4 9 = .ok (.istore_n 0, 1) := by decide +kernel
theorem dJ6_bitCount_0f7a4_10 : decode cJ6_bitCount_0f7a4 10 = .ok (.iload_n 0, 1) := by decide +kernel
theorem dJ6_bitCount_0f7a4_11 : decode cJ6_bitCount_0f7a4 11 = .ok (.ldc_w 266, 3) := by decide +kernel
theorem dJ6_bitCount_0f7a4_14 : decode cJ6_bitCount_0f7a4 14 = .ok (.iand, 1) := by decide +kernel
theorem dJ6_bitCount_0f7a4_15 : decode cJ6_bitCount_0f7a4 15 = .ok (.iload_n 0, 1) := by decide +kernel
theorem dJ6_bitCount_0f7a4_16 : decode cJ6_bitCount_0f7a4 16 = .ok (.iconst 2, 1) := by decide +kernel
theorem dJ6_bitCount_0f7a4_17 : decode cJ6_bitCount_0f7a4 17 = .ok (.iushr, 1) := by decide +kernel
theorem dJ6_bitCount_0f7a4_18 : decode cJ6_bitCount_0f7a4 18 = .ok (.ldc_w 266, 3) := by decide +kernel
theorem dJ6_bitCount_0f7a4_21 : decode cJ6_bitCount_0f7a4 21 = .ok (.iand, 1) := by decide +kernel
theorem dJ6_bitCount_0f7a4_22 : decode cJ6_bitCount_0f7a4 22 = .ok (.iadd, 1) := by decide +kernel
theorem dJ6_bitCount_0f7a4_23 : decode cJ6_bitCount_0f7a4 23 = .ok (.istore_n 0, 1) := by decide +kernel
theorem dJ6_bitCount_0f7a4_24 : decode cJ6_bitCount_0f7a4 24 = .ok (.iload_n 0, 1) := by decide +kernel
theorem dJ6_bitCount_0f7a4_25 : decode cJ6_bitCount_0f7a4 25 = .ok (.iload_n 0, 1) := by decide +kernel
theorem dJ6_bitCount_0f7a4_26 : decode cJ6_bitCount_0f7a4 26 = .ok (.iconst 4, 1) := by decide +kernel
theorem dJ6_bitCount_0f7a4_27 : decode cJ6_bitCount_0f7a4 27 = .ok (.iushr, 1) := by decide +kernel
theorem dJ6_bitCount_0f7a4_28 : decode cJ6_bitCount_0f7a4 28 = .ok (.iadd, 1) := by decide +kernel
theorem dJ6_bitCount_0f7a4_29 : decode cJ6_bitCount_0f7a4 29 = .ok (.ldc_w 267, 3) := by decide +kernel
theorem dJ6_bitCount_0f7a4_32 : decode cJ6_bitCount_0f7a4 32 = .ok (.iand, 1) := by decide +kernel
theorem dJ6_bitCount_0f7a4_33 : decode cJ6_bitCount_0f7a4 33 = .ok (.istore_n 0, 1) := by decide +kernel
theorem dJ6_bitCount_0f7a4_34 : decode cJ6_bitCount_0f7a4 34 = .ok (.iload_n 0, 1) := by decide +kernel
theorem dJ6_bitCount_0f7a4_35 : decode cJ6_bitCount_0f7a4 35 = .ok (.iload_n 0, 1) := by decide +kernel
theorem dJ6_bitCount_0f7a4_36 : decode cJ6_bitCount_0f7a4 36 = .ok (.bipush 8, 2) := by decide +kernel
theorem dJ6_bitCount_0f7a4_38 : decode cJ6_bitCount_0f7a4 38 = .ok (.iushr, 1) := by decide +kernel
theorem dJ6_bitCount_0f7a4_39 : decode cJ6_bitCount_0f7a4 39 = .ok (.iadd, 1) := by decide +kernel
theorem dJ6_bitCount_0f7a4_40 : decode cJ6_bitCount_0f7a4 40 = .ok (.istore_n 0, 1) := by decide +kernel
theorem dJ6_bitCount_0f7a4_41 : decode cJ6_bitCount_0f7a4 41 = .ok (.iload_n 0, 1) := by decide +kernel
theorem dJ6_bitCount_0f7a4_42 : decode cJ6_bitCount_0f7a4 42 = .ok (.iload_n 0, 1) := by decide +kernel
theorem dJ6_bitCount_0f7a4_43 : decode cJ6_bitCount_0f7a4 43 = .ok (.bipush 16, 2) := by decide +kernel
theorem dJ6_bitCount_0f7a4_45 : decode cJ6_bitCount_0f7a4 45 = .ok (.iushr, 1) := by decide +kernel
theorem dJ6_bitCount_0f7a4_46 : decode cJ6_bitCount_0f7a4 46 = .ok (.iadd, 1) := by decide +kernel
theorem dJ6_bitCount_0f7a4_47 : decode cJ6_bitCount_0f7a4 47 = .ok (.istore_n 0, 1) := by decide +kernel
theorem dJ6_bitCount_0f7a4_48 : decode cJ6_bitCount_0f7a4 48 = .ok (.iload_n 0, 1) := by decide +kernel
theorem dJ6_bitCount_0f7a4_49 : decode cJ6_bitCount_0f7a4 49 = .ok (.bipush 63, 2) := by decide +kernel
theorem dJ6_bitCount_0f7a4_51 : decode cJ6_bitCount_0f7a4 51 = .ok (.iand, 1) := by decide +kernel
theorem dJ6_bitCount_0f7a4_52 : decode cJ6_bitCount_0f7a4 52 = .ok (.ireturn, 1) := by decide +kernel
theorem dJ9_max_7cf53_0 : decode cJ9_max_7cf53 0 = .ok (.iload_n 0, 1) := by decide +kernel
theorem dJ9_max_7cf53_1 : decode cJ9_max_7cf53 1 = .ok (.iload_n 1, 1) := by decide +kernel
theorem dJ9_max_7cf53_2 : decode cJ9_max_7cf53 2 = .ok (.if_icmp .lt 7, 3) := by decide +kernel
theorem dJ9_max_7cf53_5 : decode cJ9_max_7cf53 5 = .ok (.iload_n 0, 1) := by decide +kernel
theorem dJ9_max_7cf53_6 : decode cJ9_max_7cf53 6 = .ok (.goto 4, 3) := by decide +kernel
theorem dJ9_max_7cf53_9 : decode cJ9_max_7cf53 9 = .ok (.iload_n 1, 1) := by decide +kernel
theorem dJ9_max_7cf53_10 : decode cJ9_max_7cf53 10 = .ok (.ireturn, 1) := by decide +kernel
theorem dJ9_min_7cf53_0 : decode cJ9_min_7cf53 0 = .ok (.iload_n 0, 1) := by decide +kernel
theorem dJ9_min_7cf53_1 : decode cJ9_min_7cf53 1 = .ok (.iload_n 1, 1) := by decide +kernel
theorem dJ9_min_7cf53_2 : decode cJ9_min_7cf53 2 = .ok (.if_icmp .gt 7, 3) := by decide +kernel
theorem dJ9_min_7cf53_5 : decode cJ9_min_7cf53 5 = .ok (.iload_n 0, 1) := by decide +kernel
theorem dJ9_min_7cf53_6 : decode cJ9_min_7cf53 6 = .ok (.goto 4, 3) := by decide +kernel
theorem dJ9_min_7cf53_9 : decode cJ9_min_7cf53 9 = .ok (.iload_n 1, 1) := by decide +kernel
theorem dJ9_min_7cf53_10 : decode cJ9_min_7cf53 10 = .ok (.ireturn, 1) := by decide +kernel
end
section
set_option maxRecDepth 20000 in
theorem ggX6_init_X2_init : GoodIn wsX6_init wsX2_init := goodIn_r _ [33, 34, 2, 3, 29, 35, 36, 37, 68, 69, 70] (by decide +kernel) (by decide +kernel)
set_option maxRecDepth 20000 in
theorem gX6_init_X2_init : GoodIn wsX6_init (wsX2_init) := ggX6_init_X2_init
set_option maxRecDepth 20000 in
theorem ggX6_init_X5_init : GoodIn wsX6_init wsX5_init := goodIn_r _ [39, 40, 2, 3, 41, 42, 79, 80] (by decide +kernel) (by decide +kernel)
set_option maxRecDepth 20000 in
theorem gX6_init_X5_init_n21 : GoodIn wsX6_init (wsX5_init) := ggX6_init_X5_init
set_option maxRecDepth 20000 in
theorem ggX6_init_X0_init : GoodIn wsX6_init wsX0_init := goodIn_r _ [45, 46, 2, 3, 47, 48, 5, 6, 49, 32, 33, 34, 29, 35, 36, 37, 81, 82, 83, 68, 69, 70] (by decide +kernel) (by decide +kernel)
set_option maxRecDepth 20000 in
theorem gX6_init_X0_init : GoodIn wsX6_init (wsX0_init) := ggX6_init_X0_init
set_option maxRecDepth 20000 in
theorem ggX6_init_X1_init : GoodIn wsX6_init wsX1_init := goodIn_r _ [52, 53, 2, 3, 54, 55, 5, 6, 56, 32, 33, 34, 29, 35, 36, 37, 84, 85, 68, 69, 70] (by decide +kernel) (by decide +kernel)
set_option maxRecDepth 20000 in
theorem gX6_init_X1_init : GoodIn wsX6_init (wsX1_init) := ggX6_init_X1_init
set_option maxRecDepth 20000 in
theorem ggX6_init_X4_init : GoodIn wsX6_init wsX4_init := goodIn_r _ [58, 59, 2, 3, 29, 60, 61, 86, 87, 88] (by decide +kernel) (by decide +kernel)
set_option maxRecDepth 20000 in
theorem gX6_init_X4_init_n42 : GoodIn wsX6_init (wsX4_init) := ggX6_init_X4_init
set_option maxRecDepth 20000 in
theorem ggX6_init_X3_init : GoodIn wsX6_init wsX3_init := goodIn_r _ [63, 64, 2, 3, 29, 65, 66, 67, 89, 90, 91, 92, 93, 94, 95, 96] (by decide +kernel) (by decide +kernel)
set_option maxRecDepth 20000 in
theorem gX6_init_X3_init_n49 : GoodIn wsX6_init (wsX3_init) := ggX6_init_X3_init
theorem dX6_init_0 : decode cX6_init 0 = .ok (.aload_n 0, 1) := by decide +kernel
theorem dX6_init_1 : decode cX6_init 1 = .ok (.invokespecial 3, 3) := by decide +kernel
theorem dX6_init_4 : decode cX6_init 4 = .ok (.aload_n 0, 1) := by decide +kernel
theorem dX6_init_5 : decode cX6_init 5 = .ok (.new 9, 3) := by decide +kernel
theorem dX6_init_8 : decode cX6_init 8 = .ok (.dup, 1) := by decide +kernel
theorem dX6_init_9 : decode cX6_init 9 = .ok (.invokespecial 11, 3) := by decide +kernel
theorem dX6_init_12 : decode cX6_init 12 = .ok (.putfield 12, 3) := by decide +kernel
theorem dX6_init_15 : decode cX6_init 15 = .ok (.aload_n 0, 1) := by decide +kernel
theorem dX6_init_16 : decode cX6_init 16 = .ok (.new 9, 3) := by decide +kernel
theorem dX6_init_19 : decode cX6_init 19 = .ok (.dup, 1) := by decide +kernel
theorem dX6_init_20 : decode cX6_init 20 = .ok (.invokespecial 11, 3) := by decide +kernel
theorem dX6_init_23 : decode cX6_init 23 = .ok (.putfield 16, 3) := by decide +kernel
theorem dX6_init_26 : decode cX6_init 26 = .ok (.aload_n 0, 1) := by decide +kernel
theorem dX6_init_27 : decode cX6_init 27 = .ok (.new 19, 3) := by decide +kernel
theorem dX6_init_30 : decode cX6_init 30 = .ok (.dup, 1) := by decide +kernel
theorem dX6_init_31 : decode cX6_init 31 = .ok (.invokespecial 21, 3) := by decide +kernel
theorem dX6_init_34 : decode cX6_init 34 = .ok (.putfield 22, 3) := by decide +kernel
theorem dX6_init_37 : decode cX6_init 37 = .ok (.aload_n 0, 1) := by decide +kernel
theorem dX6_init_38 : decode cX6_init 38 = .ok (.new 26, 3) := by decide +kernel
theorem dX6_init_41 : decode cX6_init 41 = .ok (.dup, 1) := by decide +kernel
theorem dX6_init_42 : decode cX6_init 42 = .ok (.invokespecial 28, 3) := by decide +kernel
theorem dX6_init_45 : decode cX6_init 45 = .ok (.putfield 29, 3) := by decide +kernel
theorem dX6_init_48 : decode cX6_init 48 = .ok (.aload_n 0, 1) := by decide +kernel
theorem dX6_init_49 : decode cX6_init 49 = .ok (.new 33, 3) := by decide +kernel
theorem dX6_init_52 : decode cX6_init 52 = .ok (.dup, 1) := by decide +kernel
theorem dX6_init_53 : decode cX6_init 53 = .ok (.invokespecial 35, 3) := by decide +kernel
theorem dX6_init_56 : decode cX6_init 56 = .ok (.putfield 36, 3) := by decide +kernel
theorem dX6_init_59 : decode cX6_init 59 = .ok (.aload_n 0, 1) := by decide +kernel
theorem dX6_init_60 : decode cX6_init 60 = .ok (.new 40, 3) := by decide +kernel
theorem dX6_init_63 : decode cX6_init 63 = .ok (.dup, 1) := by decide +kernel
theorem dX6_init_64 : decode cX6_init 64 = .ok (.invokespecial 42, 3) := by decide +kernel
theorem dX6_init_67 : decode cX6_init 67 = .ok (.putfield 43, 3) := by decide +kernel
theorem dX6_init_70 : decode cX6_init 70 = .ok (.aload_n 0, 1) := by decide +kernel
theorem dX6_init_71 : decode cX6_init 71 = .ok (.new 47, 3) := by decide +kernel
theorem dX6_init_74 : decode cX6_init 74 = .ok (.dup, 1) := by decide +kernel
theorem dX6_init_75 : decode cX6_init 75 = .ok (.invokespecial 49, 3) := by decide +kernel
theorem dX6_init_78 : decode cX6_init 78 = .ok (.putfield 50, 3) := by decide +kernel
theorem dX6_init_81 : decode cX6_init 81 = .ok (.aload_n 0, 1) := by decide +kernel
theorem dX6_init_82 : decode cX6_init 82 = .ok (.bipush 9, 2) := by decide +kernel
theorem dX6_init_84 : decode cX6_init 84 = .ok (.newarray .int, 2) := by decide +kernel
theorem dX6_init_86 : decode cX6_init 86 = .ok (.putfield 54, 3) := by decide +kernel
theorem dX6_init_89 : decode cX6_init 89 = .ok (.return_, 1) := by decide +kernel
set_option maxRecDepth 20000 in
theorem ggX6_type_X5_append : GoodIn wsX6_type wsX5_append := goodIn_r _ [6, 7, 8, 17, 18] (by decide +kernel) (by decide +kernel)
set_option maxRecDepth 20000 in
theorem gX6_type_X5_append : GoodIn wsX6_type (wsV RX6 58 RX5 yX5_append wsX5_append) := goodIn_app (goodIn_of _ (by decide +kernel)) ggX6_type_X5_append
theorem dX6_type_0 : decode cX6_type 0 = .ok (.iload_n 1, 1) := by decide +kernel
theorem dX6_type_1 : decode cX6_type 1 = .ok (.ifCond .lt 10, 3) := by decide +kernel
theorem dX6_type_4 : decode cX6_type 4 = .ok (.iload_n 1, 1) := by decide +kernel
theorem dX6_type_5 : decode cX6_type 5 = .ok (.sipush 255, 3) := by decide +kernel
theorem dX6_type_8 : decode cX6_type 8 = .ok (.if_icmp .le 5, 3) := by decide +kernel
theorem dX6_type_11 : decode cX6_type 11 = .ok (.iconst (-1), 1) := by decide +kernel
theorem dX6_type_12 : decode cX6_type 12 = .ok (.ireturn, 1) := by decide +kernel
theorem dX6_type_13 : decode cX6_type 13 = .ok (.aload_n 0, 1) := by decide +kernel
theorem dX6_type_14 : decode cX6_type 14 = .ok (.getfield 22, 3) := by decide +kernel
theorem dX6_type_17 : decode cX6_type 17 = .ok (.iload_n 1, 1) := by decide +kernel
theorem dX6_type_18 : decode cX6_type 18 = .ok (.invokevirtual 58, 3) := by decide +kernel
theorem dX6_type_21 : decode cX6_type 21 = .ok (.ifCond .eq 13, 3) := by decide +kernel
theorem dX6_type_24 : decode cX6_type 24 = .ok (.aload_n 0, 1) := by decide +kernel
theorem dX6_type_25 : decode cX6_type 25 = .ok (.getfield 22, 3) := by decide +kernel
theorem dX6_type_28 : decode cX6_type 28 = .ok (.getfield 62, 3) := by decide +kernel
theorem dX6_type_31 : decode cX6_type 31 = .ok (.goto 5, 3) := by decide +kernel
theorem dX6_type_34 : decode cX6_type 34 = .ok (.bipush (-3), 2) := by decide +kernel
theorem dX6_type_36 : decode cX6_type 36 = .ok (.ireturn, 1) := by decide +kernel
set_option maxRecDepth 20000 in
theorem ggX6_clear_X5_empty : GoodIn wsX6_clear wsX5_empty := goodIn_r _ [6, 7, 16, 17] (by decide +kernel) (by decide +kernel)
set_option maxRecDepth 20000 in
theorem gX6_clear_X5_empty : GoodIn wsX6_clear (wsV RX6 66 RX5 yX5_empty wsX5_empty) := goodIn_app (goodIn_of _ (by decide +kernel)) ggX6_clear_X5_empty
theorem dX6_clear_0 : decode cX6_clear 0 = .ok (.aload_n 0, 1) := by decide +kernel
theorem dX6_clear_1 : decode cX6_clear 1 = .ok (.getfield 22, 3) := by decide +kernel
theorem dX6_clear_4 : decode cX6_clear 4 = .ok (.invokevirtual 66, 3) := by decide +kernel
theorem dX6_clear_7 : decode cX6_clear 7 = .ok (.ireturn, 1) := by decide +kernel
set_option maxRecDepth 20000 in
theorem ggX6_tells_X5_readInto : GoodIn wsX6_tells wsX5_readInto := goodIn_r _ [11, 12, 13, 14, 15, 16, 17, 18, 19, 20, 21, 22, 10, 23, 24, 25, 26, 27, 28, 29, 30, 31, 32, 33, 34, 35, 36, 37, 38, 39, 40, 41, 42, 43, 44, 45, 46, 47, 48, 49, 50, 51, 52, 53, 54, 55, 56, 57, 106, 107, 103, 104, 105] (by decide +kernel) (by decide +kernel)
set_option maxRecDepth 20000 in
theorem gX6_tells_X5_readInto : GoodIn wsX6_tells (wsV RX6 70 RX5 yX5_readInto wsX5_readInto) := goodIn_app (goodIn_of _ (by decide +kernel)) ggX6_tells_X5_readInto
set_option maxRecDepth 20000 in
theorem ggX6_tells_X0_push : GoodIn wsX6_tells wsX0_push := goodIn_r _ [62, 63, 64, 65, 66, 67, 68, 69, 70, 71, 72, 16, 73, 53, 74, 75, 76, 77, 18, 19, 108, 109, 110, 103, 104, 105] (by decide +kernel) (by decide +kernel)
set_option maxRecDepth 20000 in
theorem gX6_tells_X0_push : GoodIn wsX6_tells (wsV RX6 74 RX0 yX0_push wsX0_push) := goodIn_app (goodIn_of _ (by decide +kernel)) ggX6_tells_X0_push
set_option maxRecDepth 20000 in
theorem ggX6_tells_X2_become : GoodIn wsX6_tells wsX2_become := goodIn_r _ [73, 53, 74, 75, 76, 77, 18, 19, 103, 104, 105] (by decide +kernel) (by decide +kernel)
set_option maxRecDepth 20000 in
theorem gX6_tells_X2_become : GoodIn wsX6_tells (wsV RX6 78 RX2 yX2_become wsX2_become) := goodIn_app (goodIn_of _ (by decide +kernel)) ggX6_tells_X2_become
set_option maxRecDepth 20000 in
theorem ggX6_tells_X4_empty : GoodIn wsX6_tells wsX4_empty := goodIn_r _ [83, 84, 111, 112, 113] (by decide +kernel) (by decide +kernel)
set_option maxRecDepth 20000 in
theorem gX6_tells_X4_empty : GoodIn wsX6_tells (wsV RX6 81 RX4 yX4_empty wsX4_empty) := goodIn_app (goodIn_of _ (by decide +kernel)) ggX6_tells_X4_empty
set_option maxRecDepth 20000 in
theorem ggX6_tells_X1_empty : GoodIn wsX6_tells wsX1_empty := goodIn_r _ [89, 90, 114, 115] (by decide +kernel) (by decide +kernel)
set_option maxRecDepth 20000 in
theorem gX6_tells_X1_empty : GoodIn wsX6_tells (wsV RX6 82 RX1 yX1_empty wsX1_empty) := goodIn_app (goodIn_of _ (by decide +kernel)) ggX6_tells_X1_empty
set_option maxRecDepth 20000 in
theorem ggX6_tells_X5_empty : GoodIn wsX6_tells wsX5_empty := goodIn_r _ [94, 12, 106, 107] (by decide +kernel) (by decide +kernel)
set_option maxRecDepth 20000 in
theorem gX6_tells_X5_empty : GoodIn wsX6_tells (wsV RX6 66 RX5 yX5_empty wsX5_empty) := goodIn_app (goodIn_of _ (by decide +kernel)) ggX6_tells_X5_empty
theorem dX6_tells_0 : decode cX6_tells 0 = .ok (.aload_n 0, 1) := by decide +kernel
theorem dX6_tells_1 : decode cX6_tells 1 = .ok (.getfield 22, 3) := by decide +kernel
theorem dX6_tells_4 : decode cX6_tells 4 = .ok (.aload_n 0, 1) := by decide +kernel
theorem dX6_tells_5 : decode cX6_tells 5 = .ok (.getfield 16, 3) := by decide +kernel
theorem dX6_tells_8 : decode cX6_tells 8 = .ok (.invokevirtual 70, 3) := by decide +kernel
theorem dX6_tells_11 : decode cX6_tells 11 = .ok (.istore_n 1, 1) := by decide +kernel
theorem dX6_tells_12 : decode cX6_tells 12 = .ok (.iload_n 1, 1) := by decide +kernel
theorem dX6_tells_13 : decode cX6_tells 13 = .ok (.iconst (-1), 1) := by decide +kernel
theorem dX6_tells_14 : decode cX6_tells 14 = .ok (.if_icmp .eq 8, 3) := by decide +kernel
theorem dX6_tells_17 : decode cX6_tells 17 = .ok (.bipush (-10), 2) := by decide +kernel
theorem dX6_tells_19 : decode cX6_tells 19 = .ok (.iload_n 1, 1) := by decide +kernel
theorem dX6_tells_20 : decode cX6_tells 20 = .ok (.isub, 1) := by decide +kernel
theorem dX6_tells_21 : decode cX6_tells 21 = .ok (.ireturn, 1) := by decide +kernel
theorem dX6_tells_22 : decode cX6_tells 22 = .ok (.aload_n 0, 1) := by decide +kernel
theorem dX6_tells_23 : decode cX6_tells 23 = .ok (.getfield 29, 3) := by decide +kernel
theorem dX6_tells_26 : decode cX6_tells 26 = .ok (.aload_n 0, 1) := by decide +kernel
theorem dX6_tells_27 : decode cX6_tells 27 = .ok (.getfield 12, 3) := by decide +kernel
theorem dX6_tells_30 : decode cX6_tells 30 = .ok (.invokevirtual 74, 3) := by decide +kernel
theorem dX6_tells_33 : decode cX6_tells 33 = .ok (.aload_n 0, 1) := by decide +kernel
theorem dX6_tells_34 : decode cX6_tells 34 = .ok (.getfield 12, 3) := by decide +kernel
theorem dX6_tells_37 : decode cX6_tells 37 = .ok (.aload_n 0, 1) := by decide +kernel
theorem dX6_tells_38 : decode cX6_tells 38 = .ok (.getfield 16, 3) := by decide +kernel
theorem dX6_tells_41 : decode cX6_tells 41 = .ok (.invokevirtual 78, 3) := by decide +kernel
theorem dX6_tells_44 : decode cX6_tells 44 = .ok (.aload_n 0, 1) := by decide +kernel
theorem dX6_tells_45 : decode cX6_tells 45 = .ok (.getfield 43, 3) := by decide +kernel
theorem dX6_tells_48 : decode cX6_tells 48 = .ok (.invokevirtual 81, 3) := by decide +kernel
theorem dX6_tells_51 : decode cX6_tells 51 = .ok (.pop, 1) := by decide +kernel
theorem dX6_tells_52 : decode cX6_tells 52 = .ok (.aload_n 0, 1) := by decide +kernel
theorem dX6_tells_53 : decode cX6_tells 53 = .ok (.getfield 36, 3) := by decide +kernel
theorem dX6_tells_56 : decode cX6_tells 56 = .ok (.invokevirtual 82, 3) := by decide +kernel
theorem dX6_tells_59 : decode cX6_tells 59 = .ok (.aload_n 0, 1) := by decide +kernel
theorem dX6_tells_60 : decode cX6_tells 60 = .ok (.getfield 22, 3) := by decide +kernel
theorem dX6_tells_63 : decode cX6_tells 63 = .ok (.invokevirtual 66, 3) := by decide +kernel
theorem dX6_tells_66 : decode cX6_tells 66 = .ok (.pop, 1) := by decide +kernel
theorem dX6_tells_67 : decode cX6_tells 67 = .ok (.aload_n 0, 1) := by decide +kernel
theorem dX6_tells_68 : decode cX6_tells 68 = .ok (.getfield 12, 3) := by decide +kernel
theorem dX6_tells_71 : decode cX6_tells 71 = .ok (.getfield 84, 3) := by decide +kernel
theorem dX6_tells_74 : decode cX6_tells 74 = .ok (.ireturn, 1) := by decide +kernel
set_option maxRecDepth 20000 in
theorem ggX6_loads_X6_isLoad : GoodIn wsX6_loads wsX6_isLoad := goodIn_r _ [7] (by decide +kernel) (by decide +kernel)
set_option maxRecDepth 20000 in
theorem gX6_loads_X6_isLoad : GoodIn wsX6_loads (va_wsS RX6 85 yX6_isLoad wsX6_isLoad) := goodIn_app (goodIn_of _ (by decide +kernel)) ggX6_loads_X6_isLoad
set_option maxRecDepth 20000 in
theorem ggX6_loads_X6_stackAll : GoodIn wsX6_loads wsX6_stackAll := goodIn_r _ [11, 2, 1, 12, 13, 14, 15, 16, 17, 18, 19, 20, 21, 22, 6, 23, 24, 25, 26, 27, 28, 29, 30, 31, 32, 33, 34, 35, 36, 37, 38, 91, 92, 93, 94, 95, 96, 97, 98, 99, 100, 101, 102, 103, 104, 105, 106, 107, 108, 109] (by decide +kernel) (by decide +kernel)
set_option maxRecDepth 20000 in
theorem gX6_loads_X6_stackAll : GoodIn wsX6_loads (wsV RX6 91 RX6 yX6_stackAll wsX6_stackAll) := goodIn_app (goodIn_of _ (by decide +kernel)) ggX6_loads_X6_stackAll
set_option maxRecDepth 20000 in
theorem ggX6_loads_X3_wholeAfter : GoodIn wsX6_loads wsX3_wholeAfter := goodIn_r _ [42, 18, 43, 44, 45, 15, 46, 17, 47, 48, 49, 50, 19, 20, 51, 52, 53, 22, 6, 23, 54, 55, 56, 57, 21, 58, 59, 60, 61, 62, 30, 31, 32, 102, 103, 104, 105, 106, 107, 108, 109] (by decide +kernel) (by decide +kernel)
set_option maxRecDepth 20000 in
theorem gX6_loads_X3_wholeAfter : GoodIn wsX6_loads (wsV RX6 95 RX3 yX3_wholeAfter wsX3_wholeAfter) := goodIn_app (goodIn_of _ (by decide +kernel)) ggX6_loads_X3_wholeAfter
set_option maxRecDepth 20000 in
theorem ggX6_loads_J6_bitCount_0f7a4 : GoodIn wsX6_loads wsJ6_bitCount_0f7a4 := goodIn_r _ [66, 67, 68, 69] (by decide +kernel) (by decide +kernel)
set_option maxRecDepth 20000 in
theorem gX6_loads_J6_bitCount_0f7a4 : GoodIn wsX6_loads (va_wsS RX6 99 yJ6_bitCount_0f7a4 wsJ6_bitCount_0f7a4) := goodIn_app (goodIn_of _ (by decide +kernel)) ggX6_loads_J6_bitCount_0f7a4
set_option maxRecDepth 20000 in
theorem ggX6_loads_X0_push : GoodIn wsX6_loads wsX0_push := goodIn_r _ [74, 75, 76, 77, 78, 79, 31, 80, 81, 82, 83, 27, 84, 37, 85, 86, 87, 88, 89, 90, 110, 111, 112, 99, 100, 101] (by decide +kernel) (by decide +kernel)
set_option maxRecDepth 20000 in
theorem gX6_loads_X0_push : GoodIn wsX6_loads (wsV RX6 74 RX0 yX0_push wsX0_push) := goodIn_app (goodIn_of _ (by decide +kernel)) ggX6_loads_X0_push
theorem dX6_loads_0 : decode cX6_loads 0 = .ok (.iload_n 1, 1) := by decide +kernel
theorem dX6_loads_1 : decode cX6_loads 1 = .ok (.invokestatic 85, 3) := by decide +kernel
theorem dX6_loads_4 : decode cX6_loads 4 = .ok (.ifCond .ne 5, 3) := by decide +kernel
theorem dX6_loads_7 : decode cX6_loads 7 = .ok (.iconst (-1), 1) := by decide +kernel
theorem dX6_loads_8 : decode cX6_loads 8 = .ok (.ireturn, 1) := by decide +kernel
theorem dX6_loads_9 : decode cX6_loads 9 = .ok (.aload_n 0, 1) := by decide +kernel
theorem dX6_loads_10 : decode cX6_loads 10 = .ok (.aload_n 0, 1) := by decide +kernel
theorem dX6_loads_11 : decode cX6_loads 11 = .ok (.getfield 12, 3) := by decide +kernel
theorem dX6_loads_14 : decode cX6_loads 14 = .ok (.getfield 88, 3) := by decide +kernel
theorem dX6_loads_17 : decode cX6_loads 17 = .ok (.invokevirtual 91, 3) := by decide +kernel
theorem dX6_loads_20 : decode cX6_loads 20 = .ok (.aload_n 0, 1) := by decide +kernel
theorem dX6_loads_21 : decode cX6_loads 21 = .ok (.getfield 50, 3) := by decide +kernel
theorem dX6_loads_24 : decode cX6_loads 24 = .ok (.iload_n 1, 1) := by decide +kernel
theorem dX6_loads_25 : decode cX6_loads 25 = .ok (.invokevirtual 95, 3) := by decide +kernel
theorem dX6_loads_28 : decode cX6_loads 28 = .ok (.istore_n 2, 1) := by decide +kernel
theorem dX6_loads_29 : decode cX6_loads 29 = .ok (.aload_n 0, 1) := by decide +kernel
theorem dX6_loads_30 : decode cX6_loads 30 = .ok (.getfield 12, 3) := by decide +kernel
theorem dX6_loads_33 : decode cX6_loads 33 = .ok (.getfield 88, 3) := by decide +kernel
theorem dX6_loads_36 : decode cX6_loads 36 = .ok (.invokestatic 99, 3) := by decide +kernel
theorem dX6_loads_39 : decode cX6_loads 39 = .ok (.iload_n 2, 1) := by decide +kernel
theorem dX6_loads_40 : decode cX6_loads 40 = .ok (.invokestatic 99, 3) := by decide +kernel
theorem dX6_loads_43 : decode cX6_loads 43 = .ok (.isub, 1) := by decide +kernel
theorem dX6_loads_44 : decode cX6_loads 44 = .ok (.istore_n 3, 1) := by decide +kernel
theorem dX6_loads_45 : decode cX6_loads 45 = .ok (.aload_n 0, 1) := by decide +kernel
theorem dX6_loads_46 : decode cX6_loads 46 = .ok (.getfield 29, 3) := by decide +kernel
theorem dX6_loads_49 : decode cX6_loads 49 = .ok (.aload_n 0, 1) := by decide +kernel
theorem dX6_loads_50 : decode cX6_loads 50 = .ok (.getfield 12, 3) := by decide +kernel
theorem dX6_loads_53 : decode cX6_loads 53 = .ok (.invokevirtual 74, 3) := by decide +kernel
theorem dX6_loads_56 : decode cX6_loads 56 = .ok (.aload_n 0, 1) := by decide +kernel
theorem dX6_loads_57 : decode cX6_loads 57 = .ok (.getfield 12, 3) := by decide +kernel
theorem dX6_loads_60 : decode cX6_loads 60 = .ok (.iload_n 2, 1) := by decide +kernel
theorem dX6_loads_61 : decode cX6_loads 61 = .ok (.putfield 88, 3) := by decide +kernel
theorem dX6_loads_64 : decode cX6_loads 64 = .ok (.iload_n 3, 1) := by decide +kernel
theorem dX6_loads_65 : decode cX6_loads 65 = .ok (.ireturn, 1) := by decide +kernel
set_option maxRecDepth 20000 in
theorem ggX6_breaks_X2_exists : GoodIn wsX6_breaks wsX2_exists := goodIn_r _ [7, 8, 53, 54, 55] (by decide +kernel) (by decide +kernel)
set_option maxRecDepth 20000 in
theorem gX6_breaks_X2_exists : GoodIn wsX6_breaks (wsV RX6 104 RX2 yX2_exists wsX2_exists) := goodIn_app (goodIn_of _ (by decide +kernel)) ggX6_breaks_X2_exists
set_option maxRecDepth 20000 in
theorem ggX6_breaks_X2_isWhole : GoodIn wsX6_breaks wsX2_isWhole := goodIn_r _ [12, 13, 14, 15, 16, 53, 54, 55] (by decide +kernel) (by decide +kernel)
set_option maxRecDepth 20000 in
theorem gX6_breaks_X2_isWhole : GoodIn wsX6_breaks (wsV RX6 107 RX2 yX2_isWhole wsX2_isWhole) := goodIn_app (goodIn_of _ (by decide +kernel)) ggX6_breaks_X2_isWhole
set_option maxRecDepth 20000 in
theorem ggX6_breaks_X0_push : GoodIn wsX6_breaks wsX0_push := goodIn_r _ [21, 22, 23, 24, 25, 26, 27, 28, 29, 30, 31, 6, 32, 33, 34, 35, 36, 37, 8, 13, 56, 57, 58, 53, 54, 55] (by decide +kernel) (by decide +kernel)
set_option maxRecDepth 20000 in
theorem gX6_breaks_X0_push : GoodIn wsX6_breaks (wsV RX6 74 RX0 yX0_push wsX0_push) := goodIn_app (goodIn_of _ (by decide +kernel)) ggX6_breaks_X0_push
set_option maxRecDepth 20000 in
theorem ggX6_breaks_J6_bitCount_0f7a4 : GoodIn wsX6_breaks wsJ6_bitCount_0f7a4 := goodIn_r _ [41, 42, 43, 44] (by decide +kernel) (by decide +kernel)
set_option maxRecDepth 20000 in
theorem gX6_breaks_J6_bitCount_0f7a4 : GoodIn wsX6_breaks (va_wsS RX6 99 yJ6_bitCount_0f7a4 wsJ6_bitCount_0f7a4) := goodIn_app (goodIn_of _ (by decide +kernel)) ggX6_breaks_J6_bitCount_0f7a4
theorem dX6_breaks_0 : decode cX6_breaks 0 = .ok (.aload_n 0, 1) := by decide +kernel
theorem dX6_breaks_1 : decode cX6_breaks 1 = .ok (.getfield 12, 3) := by decide +kernel
theorem dX6_breaks_4 : decode cX6_breaks 4 = .ok (.iload_n 1, 1) := by decide +kernel
theorem dX6_breaks_5 : decode cX6_breaks 5 = .ok (.invokevirtual 104, 3) := by decide +kernel
theorem dX6_breaks_8 : decode cX6_breaks 8 = .ok (.ifCond .ne 5, 3) := by decide +kernel
theorem dX6_breaks_11 : decode cX6_breaks 11 = .ok (.iconst (-1), 1) := by decide +kernel
theorem dX6_breaks_12 : decode cX6_breaks 12 = .ok (.ireturn, 1) := by decide +kernel
theorem dX6_breaks_13 : decode cX6_breaks 13 = .ok (.aload_n 0, 1) := by decide +kernel
theorem dX6_breaks_14 : decode cX6_breaks 14 = .ok (.getfield 12, 3) := by decide +kernel
theorem dX6_breaks_17 : decode cX6_breaks 17 = .ok (.iload_n 1, 1) := by decide +kernel
theorem dX6_breaks_18 : decode cX6_breaks 18 = .ok (.invokevirtual 107, 3) := by decide +kernel
theorem dX6_breaks_21 : decode cX6_breaks 21 = .ok (.ifCond .ne 6, 3) := by decide +kernel
theorem dX6_breaks_24 : decode cX6_breaks 24 = .ok (.bipush (-2), 2) := by decide +kernel
theorem dX6_breaks_26 : decode cX6_breaks 26 = .ok (.ireturn, 1) := by decide +kernel
theorem dX6_breaks_27 : decode cX6_breaks 27 = .ok (.aload_n 0, 1) := by decide +kernel
theorem dX6_breaks_28 : decode cX6_breaks 28 = .ok (.getfield 29, 3) := by decide +kernel
theorem dX6_breaks_31 : decode cX6_breaks 31 = .ok (.aload_n 0, 1) := by decide +kernel
theorem dX6_breaks_32 : decode cX6_breaks 32 = .ok (.getfield 12, 3) := by decide +kernel
theorem dX6_breaks_35 : decode cX6_breaks 35 = .ok (.invokevirtual 74, 3) := by decide +kernel
theorem dX6_breaks_38 : decode cX6_breaks 38 = .ok (.aload_n 0, 1) := by decide +kernel
theorem dX6_breaks_39 : decode cX6_breaks 39 = .ok (.getfield 12, 3) := by decide +kernel
theorem dX6_breaks_42 : decode cX6_breaks 42 = .ok (.dup, 1) := by decide +kernel
theorem dX6_breaks_43 : decode cX6_breaks 43 = .ok (.getfield 88, 3) := by decide +kernel
theorem dX6_breaks_46 : decode cX6_breaks 46 = .ok (.iconst 1, 1) := by decide +kernel
theorem dX6_breaks_47 : decode cX6_breaks 47 = .ok (.iload_n 1, 1) := by decide +kernel
theorem dX6_breaks_48 : decode cX6_breaks 48 = .ok (.ishl, 1) := by decide +kernel
theorem dX6_breaks_49 : decode cX6_breaks 49 = .ok (.iconst (-1), 1) := by decide +kernel
theorem dX6_breaks_50 : decode cX6_breaks 50 = .ok (.ixor, 1) := by decide +kernel
theorem dX6_breaks_51 : decode cX6_breaks 51 = .ok (.iand, 1) := by decide +kernel
theorem dX6_breaks_52 : decode cX6_breaks 52 = .ok (.putfield 88, 3) := by decide +kernel
theorem dX6_breaks_55 : decode cX6_breaks 55 = .ok (.aload_n 0, 1) := by decide +kernel
theorem dX6_breaks_56 : decode cX6_breaks 56 = .ok (.getfield 12, 3) := by decide +kernel
theorem dX6_breaks_59 : decode cX6_breaks 59 = .ok (.getfield 88, 3) := by decide +kernel
theorem dX6_breaks_62 : decode cX6_breaks 62 = .ok (.invokestatic 99, 3) := by decide +kernel
theorem dX6_breaks_65 : decode cX6_breaks 65 = .ok (.ireturn, 1) := by decide +kernel
set_option maxRecDepth 20000 in
theorem ggX6_mends_X2_exists : GoodIn wsX6_mends wsX2_exists := goodIn_r _ [7, 8, 53, 54, 55] (by decide +kernel) (by decide +kernel)
set_option maxRecDepth 20000 in
theorem gX6_mends_X2_exists : GoodIn wsX6_mends (wsV RX6 104 RX2 yX2_exists wsX2_exists) := goodIn_app (goodIn_of _ (by decide +kernel)) ggX6_mends_X2_exists
set_option maxRecDepth 20000 in
theorem ggX6_mends_X2_isWhole : GoodIn wsX6_mends wsX2_isWhole := goodIn_r _ [12, 13, 14, 15, 16, 53, 54, 55] (by decide +kernel) (by decide +kernel)
set_option maxRecDepth 20000 in
theorem gX6_mends_X2_isWhole : GoodIn wsX6_mends (wsV RX6 107 RX2 yX2_isWhole wsX2_isWhole) := goodIn_app (goodIn_of _ (by decide +kernel)) ggX6_mends_X2_isWhole
set_option maxRecDepth 20000 in
theorem ggX6_mends_X0_push : GoodIn wsX6_mends wsX0_push := goodIn_r _ [21, 22, 23, 24, 25, 26, 27, 28, 29, 30, 31, 6, 32, 33, 34, 35, 36, 37, 8, 13, 56, 57, 58, 53, 54, 55] (by decide +kernel) (by decide +kernel)
set_option maxRecDepth 20000 in
theorem gX6_mends_X0_push : GoodIn wsX6_mends (wsV RX6 74 RX0 yX0_push wsX0_push) := goodIn_app (goodIn_of _ (by decide +kernel)) ggX6_mends_X0_push
set_option maxRecDepth 20000 in
theorem ggX6_mends_J6_bitCount_0f7a4 : GoodIn wsX6_mends wsJ6_bitCount_0f7a4 := goodIn_r _ [41, 42, 43, 44] (by decide +kernel) (by decide +kernel)
set_option maxRecDepth 20000 in
theorem gX6_mends_J6_bitCount_0f7a4 : GoodIn wsX6_mends (va_wsS RX6 99 yJ6_bitCount_0f7a4 wsJ6_bitCount_0f7a4) := goodIn_app (goodIn_of _ (by decide +kernel)) ggX6_mends_J6_bitCount_0f7a4
theorem dX6_mends_0 : decode cX6_mends 0 = .ok (.aload_n 0, 1) := by decide +kernel
theorem dX6_mends_1 : decode cX6_mends 1 = .ok (.getfield 12, 3) := by decide +kernel
theorem dX6_mends_4 : decode cX6_mends 4 = .ok (.iload_n 1, 1) := by decide +kernel
theorem dX6_mends_5 : decode cX6_mends 5 = .ok (.invokevirtual 104, 3) := by decide +kernel
theorem dX6_mends_8 : decode cX6_mends 8 = .ok (.ifCond .ne 5, 3) := by decide +kernel
theorem dX6_mends_11 : decode cX6_mends 11 = .ok (.iconst (-1), 1) := by decide +kernel
theorem dX6_mends_12 : decode cX6_mends 12 = .ok (.ireturn, 1) := by decide +kernel
theorem dX6_mends_13 : decode cX6_mends 13 = .ok (.aload_n 0, 1) := by decide +kernel
theorem dX6_mends_14 : decode cX6_mends 14 = .ok (.getfield 12, 3) := by decide +kernel
theorem dX6_mends_17 : decode cX6_mends 17 = .ok (.iload_n 1, 1) := by decide +kernel
theorem dX6_mends_18 : decode cX6_mends 18 = .ok (.invokevirtual 107, 3) := by decide +kernel
theorem dX6_mends_21 : decode cX6_mends 21 = .ok (.ifCond .eq 6, 3) := by decide +kernel
theorem dX6_mends_24 : decode cX6_mends 24 = .ok (.bipush (-2), 2) := by decide +kernel
theorem dX6_mends_26 : decode cX6_mends 26 = .ok (.ireturn, 1) := by decide +kernel
theorem dX6_mends_27 : decode cX6_mends 27 = .ok (.aload_n 0, 1) := by decide +kernel
theorem dX6_mends_28 : decode cX6_mends 28 = .ok (.getfield 29, 3) := by decide +kernel
theorem dX6_mends_31 : decode cX6_mends 31 = .ok (.aload_n 0, 1) := by decide +kernel
theorem dX6_mends_32 : decode cX6_mends 32 = .ok (.getfield 12, 3) := by decide +kernel
theorem dX6_mends_35 : decode cX6_mends 35 = .ok (.invokevirtual 74, 3) := by decide +kernel
theorem dX6_mends_38 : decode cX6_mends 38 = .ok (.aload_n 0, 1) := by decide +kernel
theorem dX6_mends_39 : decode cX6_mends 39 = .ok (.getfield 12, 3) := by decide +kernel
theorem dX6_mends_42 : decode cX6_mends 42 = .ok (.dup, 1) := by decide +kernel
theorem dX6_mends_43 : decode cX6_mends 43 = .ok (.getfield 88, 3) := by decide +kernel
theorem dX6_mends_46 : decode cX6_mends 46 = .ok (.iconst 1, 1) := by decide +kernel
theorem dX6_mends_47 : decode cX6_mends 47 = .ok (.iload_n 1, 1) := by decide +kernel
theorem dX6_mends_48 : decode cX6_mends 48 = .ok (.ishl, 1) := by decide +kernel
theorem dX6_mends_49 : decode cX6_mends 49 = .ok (.ior, 1) := by decide +kernel
theorem dX6_mends_50 : decode cX6_mends 50 = .ok (.putfield 88, 3) := by decide +kernel
theorem dX6_mends_53 : decode cX6_mends 53 = .ok (.aload_n 0, 1) := by decide +kernel
theorem dX6_mends_54 : decode cX6_mends 54 = .ok (.getfield 12, 3) := by decide +kernel
theorem dX6_mends_57 : decode cX6_mends 57 = .ok (.getfield 88, 3) := by decide +kernel
theorem dX6_mends_60 : decode cX6_mends 60 = .ok (.invokestatic 99, 3) := by decide +kernel
theorem dX6_mends_63 : decode cX6_mends 63 = .ok (.ireturn, 1) := by decide +kernel
set_option maxRecDepth 20000 in
theorem ggX6_cambers_X2_exists : GoodIn wsX6_cambers wsX2_exists := goodIn_r _ [9, 10, 49, 50, 51] (by decide +kernel) (by decide +kernel)
set_option maxRecDepth 20000 in
theorem gX6_cambers_X2_exists : GoodIn wsX6_cambers (wsV RX6 104 RX2 yX2_exists wsX2_exists) := goodIn_app (goodIn_of _ (by decide +kernel)) ggX6_cambers_X2_exists
set_option maxRecDepth 20000 in
theorem ggX6_cambers_X2_number : GoodIn wsX6_cambers wsX2_number := goodIn_r _ [14, 15, 49, 50, 51] (by decide +kernel) (by decide +kernel)
set_option maxRecDepth 20000 in
theorem gX6_cambers_X2_number : GoodIn wsX6_cambers (wsV RX6 116 RX2 yX2_number wsX2_number) := goodIn_app (goodIn_of _ (by decide +kernel)) ggX6_cambers_X2_number
set_option maxRecDepth 20000 in
theorem ggX6_cambers_X0_push : GoodIn wsX6_cambers wsX0_push := goodIn_r _ [20, 21, 22, 23, 24, 25, 26, 27, 28, 29, 30, 8, 31, 15, 32, 33, 34, 35, 10, 36, 52, 53, 54, 49, 50, 51] (by decide +kernel) (by decide +kernel)
set_option maxRecDepth 20000 in
theorem gX6_cambers_X0_push : GoodIn wsX6_cambers (wsV RX6 74 RX0 yX0_push wsX0_push) := goodIn_app (goodIn_of _ (by decide +kernel)) ggX6_cambers_X0_push
set_option maxRecDepth 20000 in
theorem ggX6_cambers_X2_put : GoodIn wsX6_cambers wsX2_put := goodIn_r _ [40, 15, 49, 50, 51] (by decide +kernel) (by decide +kernel)
set_option maxRecDepth 20000 in
theorem gX6_cambers_X2_put : GoodIn wsX6_cambers (wsV RX6 120 RX2 yX2_put wsX2_put) := goodIn_app (goodIn_of _ (by decide +kernel)) ggX6_cambers_X2_put
theorem dX6_cambers_0 : decode cX6_cambers 0 = .ok (.aload_n 0, 1) := by decide +kernel
theorem dX6_cambers_1 : decode cX6_cambers 1 = .ok (.getfield 12, 3) := by decide +kernel
theorem dX6_cambers_4 : decode cX6_cambers 4 = .ok (.iload_n 1, 1) := by decide +kernel
theorem dX6_cambers_5 : decode cX6_cambers 5 = .ok (.invokevirtual 104, 3) := by decide +kernel
theorem dX6_cambers_8 : decode cX6_cambers 8 = .ok (.ifCond .eq 21, 3) := by decide +kernel
theorem dX6_cambers_11 : decode cX6_cambers 11 = .ok (.iload_n 2, 1) := by decide +kernel
theorem dX6_cambers_12 : decode cX6_cambers 12 = .ok (.getstatic 110, 3) := by decide +kernel
theorem dX6_cambers_15 : decode cX6_cambers 15 = .ok (.iconst 2, 1) := by decide +kernel
theorem dX6_cambers_16 : decode cX6_cambers 16 = .ok (.iaload, 1) := by decide +kernel
theorem dX6_cambers_17 : decode cX6_cambers 17 = .ok (.if_icmp .lt 12, 3) := by decide +kernel
theorem dX6_cambers_20 : decode cX6_cambers 20 = .ok (.iload_n 2, 1) := by decide +kernel
theorem dX6_cambers_21 : decode cX6_cambers 21 = .ok (.getstatic 113, 3) := by decide +kernel
theorem dX6_cambers_24 : decode cX6_cambers 24 = .ok (.iconst 2, 1) := by decide +kernel
theorem dX6_cambers_25 : decode cX6_cambers 25 = .ok (.iaload, 1) := by decide +kernel
theorem dX6_cambers_26 : decode cX6_cambers 26 = .ok (.if_icmp .le 5, 3) := by decide +kernel
theorem dX6_cambers_29 : decode cX6_cambers 29 = .ok (.iconst (-1), 1) := by decide +kernel
theorem dX6_cambers_30 : decode cX6_cambers 30 = .ok (.ireturn, 1) := by decide +kernel
theorem dX6_cambers_31 : decode cX6_cambers 31 = .ok (.aload_n 0, 1) := by decide +kernel
theorem dX6_cambers_32 : decode cX6_cambers 32 = .ok (.getfield 12, 3) := by decide +kernel
theorem dX6_cambers_35 : decode cX6_cambers 35 = .ok (.iconst 2, 1) := by decide +kernel
theorem dX6_cambers_36 : decode cX6_cambers 36 = .ok (.iload_n 1, 1) := by decide +kernel
theorem dX6_cambers_37 : decode cX6_cambers 37 = .ok (.invokevirtual 116, 3) := by decide +kernel
theorem dX6_cambers_40 : decode cX6_cambers 40 = .ok (.istore_n 3, 1) := by decide +kernel
theorem dX6_cambers_41 : decode cX6_cambers 41 = .ok (.iload_n 3, 1) := by decide +kernel
theorem dX6_cambers_42 : decode cX6_cambers 42 = .ok (.iload_n 2, 1) := by decide +kernel
theorem dX6_cambers_43 : decode cX6_cambers 43 = .ok (.if_icmp .ne 6, 3) := by decide +kernel
theorem dX6_cambers_46 : decode cX6_cambers 46 = .ok (.bipush (-2), 2) := by decide +kernel
theorem dX6_cambers_48 : decode cX6_cambers 48 = .ok (.ireturn, 1) := by decide +kernel
theorem dX6_cambers_49 : decode cX6_cambers 49 = .ok (.aload_n 0, 1) := by decide +kernel
theorem dX6_cambers_50 : decode cX6_cambers 50 = .ok (.getfield 29, 3) := by decide +kernel
theorem dX6_cambers_53 : decode cX6_cambers 53 = .ok (.aload_n 0, 1) := by decide +kernel
theorem dX6_cambers_54 : decode cX6_cambers 54 = .ok (.getfield 12, 3) := by decide +kernel
theorem dX6_cambers_57 : decode cX6_cambers 57 = .ok (.invokevirtual 74, 3) := by decide +kernel
theorem dX6_cambers_60 : decode cX6_cambers 60 = .ok (.aload_n 0, 1) := by decide +kernel
theorem dX6_cambers_61 : decode cX6_cambers 61 = .ok (.getfield 12, 3) := by decide +kernel
theorem dX6_cambers_64 : decode cX6_cambers 64 = .ok (.iconst 2, 1) := by decide +kernel
theorem dX6_cambers_65 : decode cX6_cambers 65 = .ok (.iload_n 1, 1) := by decide +kernel
theorem dX6_cambers_66 : decode cX6_cambers 66 = .ok (.iload_n 2, 1) := by decide +kernel
theorem dX6_cambers_67 : decode cX6_cambers 67 = .ok (.invokevirtual 120, 3) := by decide +kernel
theorem dX6_cambers_70 : decode cX6_cambers 70 = .ok (.iload_n 3, 1) := by decide +kernel
theorem dX6_cambers_71 : decode cX6_cambers 71 = .ok (.ireturn, 1) := by decide +kernel
set_option maxRecDepth 20000 in
theorem ggX6_undo_X0_popInto : GoodIn wsX6_undo wsX0_popInto := goodIn_r _ [7, 8, 9, 10, 11, 12, 13, 14, 15, 16, 17, 18, 19, 20, 21, 22, 31, 32, 33, 34, 35, 36] (by decide +kernel) (by decide +kernel)
set_option maxRecDepth 20000 in
theorem gX6_undo_X0_popInto : GoodIn wsX6_undo (wsV RX6 124 RX0 yX0_popInto wsX0_popInto) := goodIn_app (goodIn_of _ (by decide +kernel)) ggX6_undo_X0_popInto
theorem dX6_undo_0 : decode cX6_undo 0 = .ok (.aload_n 0, 1) := by decide +kernel
theorem dX6_undo_1 : decode cX6_undo 1 = .ok (.getfield 29, 3) := by decide +kernel
theorem dX6_undo_4 : decode cX6_undo 4 = .ok (.aload_n 0, 1) := by decide +kernel
theorem dX6_undo_5 : decode cX6_undo 5 = .ok (.getfield 12, 3) := by decide +kernel
theorem dX6_undo_8 : decode cX6_undo 8 = .ok (.invokevirtual 124, 3) := by decide +kernel
theorem dX6_undo_11 : decode cX6_undo 11 = .ok (.ifCond .eq 13, 3) := by decide +kernel
theorem dX6_undo_14 : decode cX6_undo 14 = .ok (.aload_n 0, 1) := by decide +kernel
theorem dX6_undo_15 : decode cX6_undo 15 = .ok (.getfield 29, 3) := by decide +kernel
theorem dX6_undo_18 : decode cX6_undo 18 = .ok (.getfield 128, 3) := by decide +kernel
theorem dX6_undo_21 : decode cX6_undo 21 = .ok (.goto 5, 3) := by decide +kernel
theorem dX6_undo_24 : decode cX6_undo 24 = .ok (.bipush (-2), 2) := by decide +kernel
theorem dX6_undo_26 : decode cX6_undo 26 = .ok (.ireturn, 1) := by decide +kernel
set_option maxRecDepth 20000 in
theorem ggX6_leaf_X2_exists : GoodIn wsX6_leaf wsX2_exists := goodIn_r _ [7, 8, 55, 56, 57] (by decide +kernel) (by decide +kernel)
set_option maxRecDepth 20000 in
theorem gX6_leaf_X2_exists : GoodIn wsX6_leaf (wsV RX6 104 RX2 yX2_exists wsX2_exists) := goodIn_app (goodIn_of _ (by decide +kernel)) ggX6_leaf_X2_exists
set_option maxRecDepth 20000 in
theorem ggX6_leaf_X2_number : GoodIn wsX6_leaf wsX2_number := goodIn_r _ [12, 13, 55, 56, 57] (by decide +kernel) (by decide +kernel)
set_option maxRecDepth 20000 in
theorem gX6_leaf_X2_number : GoodIn wsX6_leaf (wsV RX6 116 RX2 yX2_number wsX2_number) := goodIn_app (goodIn_of _ (by decide +kernel)) ggX6_leaf_X2_number
set_option maxRecDepth 20000 in
theorem ggX6_leaf_X2_isWhole : GoodIn wsX6_leaf wsX2_isWhole := goodIn_r _ [17, 18, 19, 20, 21, 55, 56, 57] (by decide +kernel) (by decide +kernel)
set_option maxRecDepth 20000 in
theorem gX6_leaf_X2_isWhole : GoodIn wsX6_leaf (wsV RX6 107 RX2 yX2_isWhole wsX2_isWhole) := goodIn_app (goodIn_of _ (by decide +kernel)) ggX6_leaf_X2_isWhole
set_option maxRecDepth 20000 in
theorem ggX6_leaf_X2_nip : GoodIn wsX6_leaf wsX2_nip := goodIn_r _ [25, 26, 27, 28, 29, 30, 10, 11, 6, 12, 13, 55, 56, 57] (by decide +kernel) (by decide +kernel)
set_option maxRecDepth 20000 in
theorem gX6_leaf_X2_nip : GoodIn wsX6_leaf (wsV RX6 129 RX2 yX2_nip wsX2_nip) := goodIn_app (goodIn_of _ (by decide +kernel)) ggX6_leaf_X2_nip
set_option maxRecDepth 20000 in
theorem ggX6_leaf_X6_stackAll : GoodIn wsX6_leaf wsX6_stackAll := goodIn_r _ [34, 2, 1, 35, 36, 37, 38, 39, 40, 41, 42, 43, 44, 19, 20, 21, 45, 23, 24, 6, 25, 26, 27, 28, 29, 30, 10, 11, 12, 13, 46, 47, 48, 49, 50, 51, 52, 53, 54, 55, 56, 57, 58, 59, 60, 61, 62, 63, 64, 65] (by decide +kernel) (by decide +kernel)
set_option maxRecDepth 20000 in
theorem gX6_leaf_X6_stackAll : GoodIn wsX6_leaf (wsV RX6 91 RX6 yX6_stackAll wsX6_stackAll) := goodIn_app (goodIn_of _ (by decide +kernel)) ggX6_leaf_X6_stackAll
theorem dX6_leaf_0 : decode cX6_leaf 0 = .ok (.aload_n 0, 1) := by decide +kernel
theorem dX6_leaf_1 : decode cX6_leaf 1 = .ok (.getfield 12, 3) := by decide +kernel
theorem dX6_leaf_4 : decode cX6_leaf 4 = .ok (.iload_n 1, 1) := by decide +kernel
theorem dX6_leaf_5 : decode cX6_leaf 5 = .ok (.invokevirtual 104, 3) := by decide +kernel
theorem dX6_leaf_8 : decode cX6_leaf 8 = .ok (.ifCond .ne 5, 3) := by decide +kernel
theorem dX6_leaf_11 : decode cX6_leaf 11 = .ok (.iconst (-1), 1) := by decide +kernel
theorem dX6_leaf_12 : decode cX6_leaf 12 = .ok (.ireturn, 1) := by decide +kernel
theorem dX6_leaf_13 : decode cX6_leaf 13 = .ok (.iload_n 2, 1) := by decide +kernel
theorem dX6_leaf_14 : decode cX6_leaf 14 = .ok (.tableswitch 102 0 6 #[42, 42, 42, 42, 52, 69, 81], 42) := by decide +kernel
theorem dX6_leaf_56 : decode cX6_leaf 56 = .ok (.aload_n 0, 1) := by decide +kernel
theorem dX6_leaf_57 : decode cX6_leaf 57 = .ok (.getfield 12, 3) := by decide +kernel
theorem dX6_leaf_60 : decode cX6_leaf 60 = .ok (.iload_n 2, 1) := by decide +kernel
theorem dX6_leaf_61 : decode cX6_leaf 61 = .ok (.iload_n 1, 1) := by decide +kernel
theorem dX6_leaf_62 : decode cX6_leaf 62 = .ok (.invokevirtual 116, 3) := by decide +kernel
theorem dX6_leaf_65 : decode cX6_leaf 65 = .ok (.ireturn, 1) := by decide +kernel
theorem dX6_leaf_66 : decode cX6_leaf 66 = .ok (.aload_n 0, 1) := by decide +kernel
theorem dX6_leaf_67 : decode cX6_leaf 67 = .ok (.getfield 12, 3) := by decide +kernel
theorem dX6_leaf_70 : decode cX6_leaf 70 = .ok (.iload_n 1, 1) := by decide +kernel
theorem dX6_leaf_71 : decode cX6_leaf 71 = .ok (.invokevirtual 107, 3) := by decide +kernel
theorem dX6_leaf_74 : decode cX6_leaf 74 = .ok (.ifCond .eq 7, 3) := by decide +kernel
theorem dX6_leaf_77 : decode cX6_leaf 77 = .ok (.iconst 1, 1) := by decide +kernel
theorem dX6_leaf_78 : decode cX6_leaf 78 = .ok (.goto 4, 3) := by decide +kernel
theorem dX6_leaf_81 : decode cX6_leaf 81 = .ok (.iconst 0, 1) := by decide +kernel
theorem dX6_leaf_82 : decode cX6_leaf 82 = .ok (.ireturn, 1) := by decide +kernel
theorem dX6_leaf_83 : decode cX6_leaf 83 = .ok (.aload_n 0, 1) := by decide +kernel
theorem dX6_leaf_84 : decode cX6_leaf 84 = .ok (.getfield 12, 3) := by decide +kernel
theorem dX6_leaf_87 : decode cX6_leaf 87 = .ok (.iload_n 1, 1) := by decide +kernel
theorem dX6_leaf_88 : decode cX6_leaf 88 = .ok (.iconst 1, 1) := by decide +kernel
theorem dX6_leaf_89 : decode cX6_leaf 89 = .ok (.isub, 1) := by decide +kernel
theorem dX6_leaf_90 : decode cX6_leaf 90 = .ok (.iload_n 1, 1) := by decide +kernel
theorem dX6_leaf_91 : decode cX6_leaf 91 = .ok (.invokevirtual 129, 3) := by decide +kernel
theorem dX6_leaf_94 : decode cX6_leaf 94 = .ok (.ireturn, 1) := by decide +kernel
theorem dX6_leaf_95 : decode cX6_leaf 95 = .ok (.aload_n 0, 1) := by decide +kernel
theorem dX6_leaf_96 : decode cX6_leaf 96 = .ok (.aload_n 0, 1) := by decide +kernel
theorem dX6_leaf_97 : decode cX6_leaf 97 = .ok (.getfield 12, 3) := by decide +kernel
theorem dX6_leaf_100 : decode cX6_leaf 100 = .ok (.getfield 88, 3) := by decide +kernel
theorem dX6_leaf_103 : decode cX6_leaf 103 = .ok (.invokevirtual 91, 3) := by decide +kernel
theorem dX6_leaf_106 : decode cX6_leaf 106 = .ok (.aload_n 0, 1) := by decide +kernel
theorem dX6_leaf_107 : decode cX6_leaf 107 = .ok (.getfield 50, 3) := by decide +kernel
theorem dX6_leaf_110 : decode cX6_leaf 110 = .ok (.getfield 132, 3) := by decide +kernel
theorem dX6_leaf_113 : decode cX6_leaf 113 = .ok (.iload_n 1, 1) := by decide +kernel
theorem dX6_leaf_114 : decode cX6_leaf 114 = .ok (.iaload, 1) := by decide +kernel
theorem dX6_leaf_115 : decode cX6_leaf 115 = .ok (.ireturn, 1) := by decide +kernel
theorem dX6_leaf_116 : decode cX6_leaf 116 = .ok (.iconst (-1), 1) := by decide +kernel
theorem dX6_leaf_117 : decode cX6_leaf 117 = .ok (.ireturn, 1) := by decide +kernel
set_option maxRecDepth 20000 in
theorem ggX6_bend_X6_isLoad : GoodIn wsX6_bend wsX6_isLoad := goodIn_r _ [6] (by decide +kernel) (by decide +kernel)
set_option maxRecDepth 20000 in
theorem gX6_bend_X6_isLoad : GoodIn wsX6_bend (va_wsS RX6 85 yX6_isLoad wsX6_isLoad) := goodIn_app (goodIn_of _ (by decide +kernel)) ggX6_bend_X6_isLoad
set_option maxRecDepth 20000 in
theorem ggX6_bend_X6_stackAll : GoodIn wsX6_bend wsX6_stackAll := goodIn_r _ [10, 2, 1, 11, 12, 13, 14, 15, 16, 17, 18, 19, 20, 21, 5, 22, 23, 24, 25, 26, 27, 28, 29, 30, 31, 32, 33, 34, 35, 36, 37, 56, 57, 58, 59, 60, 61, 62, 63, 64, 65, 66, 67, 68, 69, 70, 71, 72, 73, 74] (by decide +kernel) (by decide +kernel)
set_option maxRecDepth 20000 in
theorem gX6_bend_X6_stackAll : GoodIn wsX6_bend (wsV RX6 91 RX6 yX6_stackAll wsX6_stackAll) := goodIn_app (goodIn_of _ (by decide +kernel)) ggX6_bend_X6_stackAll
set_option maxRecDepth 20000 in
theorem ggX6_bend_X3_press : GoodIn wsX6_bend wsX3_press := goodIn_r _ [41, 16, 17, 18, 19, 42, 43, 44, 21, 5, 22, 67, 68, 69, 70, 71, 72, 73, 74] (by decide +kernel) (by decide +kernel)
set_option maxRecDepth 20000 in
theorem gX6_bend_X3_press : GoodIn wsX6_bend (wsV RX6 135 RX3 yX3_press wsX3_press) := goodIn_app (goodIn_of _ (by decide +kernel)) ggX6_bend_X3_press
set_option maxRecDepth 20000 in
theorem ggX6_bend_X3_cut : GoodIn wsX6_bend wsX3_cut := goodIn_r _ [48, 43, 42, 67, 68, 69, 70, 71, 72, 73, 74] (by decide +kernel) (by decide +kernel)
set_option maxRecDepth 20000 in
theorem gX6_bend_X3_cut : GoodIn wsX6_bend (wsV RX6 138 RX3 yX3_cut wsX3_cut) := goodIn_app (goodIn_of _ (by decide +kernel)) ggX6_bend_X3_cut
set_option maxRecDepth 20000 in
theorem ggX6_bend_X6_partInLowestTerms : GoodIn wsX6_bend wsX6_partInLowestTerms := goodIn_r _ [51, 52, 53, 5, 54, 55, 29, 30, 31] (by decide +kernel) (by decide +kernel)
set_option maxRecDepth 20000 in
theorem gX6_bend_X6_partInLowestTerms : GoodIn wsX6_bend (va_wsS RX6 147 yX6_partInLowestTerms wsX6_partInLowestTerms) := goodIn_app (goodIn_of _ (by decide +kernel)) ggX6_bend_X6_partInLowestTerms
theorem dX6_bend_0 : decode cX6_bend 0 = .ok (.iload_n 1, 1) := by decide +kernel
theorem dX6_bend_1 : decode cX6_bend 1 = .ok (.invokestatic 85, 3) := by decide +kernel
theorem dX6_bend_4 : decode cX6_bend 4 = .ok (.ifCond .eq 12, 3) := by decide +kernel
theorem dX6_bend_7 : decode cX6_bend 7 = .ok (.iload_n 2, 1) := by decide +kernel
theorem dX6_bend_8 : decode cX6_bend 8 = .ok (.ifCond .lt 8, 3) := by decide +kernel
theorem dX6_bend_11 : decode cX6_bend 11 = .ok (.iload_n 2, 1) := by decide +kernel
theorem dX6_bend_12 : decode cX6_bend 12 = .ok (.iconst 2, 1) := by decide +kernel
theorem dX6_bend_13 : decode cX6_bend 13 = .ok (.if_icmp .le 5, 3) := by decide +kernel
theorem dX6_bend_16 : decode cX6_bend 16 = .ok (.iconst (-1), 1) := by decide +kernel
theorem dX6_bend_17 : decode cX6_bend 17 = .ok (.ireturn, 1) := by decide +kernel
theorem dX6_bend_18 : decode cX6_bend 18 = .ok (.aload_n 0, 1) := by decide +kernel
theorem dX6_bend_19 : decode cX6_bend 19 = .ok (.aload_n 0, 1) := by decide +kernel
theorem dX6_bend_20 : decode cX6_bend 20 = .ok (.getfield 12, 3) := by decide +kernel
theorem dX6_bend_23 : decode cX6_bend 23 = .ok (.getfield 88, 3) := by decide +kernel
theorem dX6_bend_26 : decode cX6_bend 26 = .ok (.invokevirtual 91, 3) := by decide +kernel
theorem dX6_bend_29 : decode cX6_bend 29 = .ok (.aload_n 0, 1) := by decide +kernel
theorem dX6_bend_30 : decode cX6_bend 30 = .ok (.getfield 50, 3) := by decide +kernel
theorem dX6_bend_33 : decode cX6_bend 33 = .ok (.iload_n 1, 1) := by decide +kernel
theorem dX6_bend_34 : decode cX6_bend 34 = .ok (.invokevirtual 135, 3) := by decide +kernel
theorem dX6_bend_37 : decode cX6_bend 37 = .ok (.ifCond .ne 6, 3) := by decide +kernel
theorem dX6_bend_40 : decode cX6_bend 40 = .ok (.bipush (-9), 2) := by decide +kernel
theorem dX6_bend_42 : decode cX6_bend 42 = .ok (.ireturn, 1) := by decide +kernel
theorem dX6_bend_43 : decode cX6_bend 43 = .ok (.iload_n 2, 1) := by decide +kernel
theorem dX6_bend_44 : decode cX6_bend 44 = .ok (.iconst 2, 1) := by decide +kernel
theorem dX6_bend_45 : decode cX6_bend 45 = .ok (.if_icmp .ne 13, 3) := by decide +kernel
theorem dX6_bend_48 : decode cX6_bend 48 = .ok (.aload_n 0, 1) := by decide +kernel
theorem dX6_bend_49 : decode cX6_bend 49 = .ok (.getfield 50, 3) := by decide +kernel
theorem dX6_bend_52 : decode cX6_bend 52 = .ok (.invokevirtual 138, 3) := by decide +kernel
theorem dX6_bend_55 : decode cX6_bend 55 = .ok (.goto 21, 3) := by decide +kernel
theorem dX6_bend_58 : decode cX6_bend 58 = .ok (.aload_n 0, 1) := by decide +kernel
theorem dX6_bend_59 : decode cX6_bend 59 = .ok (.getfield 50, 3) := by decide +kernel
theorem dX6_bend_62 : decode cX6_bend 62 = .ok (.getfield 141, 3) := by decide +kernel
theorem dX6_bend_65 : decode cX6_bend 65 = .ok (.aload_n 0, 1) := by decide +kernel
theorem dX6_bend_66 : decode cX6_bend 66 = .ok (.getfield 50, 3) := by decide +kernel
theorem dX6_bend_69 : decode cX6_bend 69 = .ok (.getfield 144, 3) := by decide +kernel
theorem dX6_bend_72 : decode cX6_bend 72 = .ok (.iload_n 2, 1) := by decide +kernel
theorem dX6_bend_73 : decode cX6_bend 73 = .ok (.invokestatic 147, 3) := by decide +kernel
theorem dX6_bend_76 : decode cX6_bend 76 = .ok (.ireturn, 1) := by decide +kernel
set_option maxRecDepth 20000 in
theorem ggX6_bears_X2_exists : GoodIn wsX6_bears wsX2_exists := goodIn_r _ [7, 8, 75, 76, 77] (by decide +kernel) (by decide +kernel)
set_option maxRecDepth 20000 in
theorem gX6_bears_X2_exists : GoodIn wsX6_bears (wsV RX6 104 RX2 yX2_exists wsX2_exists) := goodIn_app (goodIn_of _ (by decide +kernel)) ggX6_bears_X2_exists
set_option maxRecDepth 20000 in
theorem ggX6_bears_X6_isLoad : GoodIn wsX6_bears wsX6_isLoad := goodIn_r _ [12] (by decide +kernel) (by decide +kernel)
set_option maxRecDepth 20000 in
theorem gX6_bears_X6_isLoad : GoodIn wsX6_bears (va_wsS RX6 85 yX6_isLoad wsX6_isLoad) := goodIn_app (goodIn_of _ (by decide +kernel)) ggX6_bears_X6_isLoad
set_option maxRecDepth 20000 in
theorem ggX6_bears_X6_stackAll : GoodIn wsX6_bears wsX6_stackAll := goodIn_r _ [16, 2, 1, 17, 18, 19, 20, 21, 22, 23, 24, 25, 26, 27, 11, 28, 29, 30, 31, 6, 32, 33, 34, 35, 36, 37, 38, 39, 40, 41, 42, 67, 68, 69, 70, 71, 72, 73, 74, 75, 76, 77, 78, 79, 80, 81, 82, 83, 84, 85] (by decide +kernel) (by decide +kernel)
set_option maxRecDepth 20000 in
theorem gX6_bears_X6_stackAll : GoodIn wsX6_bears (wsV RX6 91 RX6 yX6_stackAll wsX6_stackAll) := goodIn_app (goodIn_of _ (by decide +kernel)) ggX6_bears_X6_stackAll
set_option maxRecDepth 20000 in
theorem ggX6_bears_X3_press : GoodIn wsX6_bears wsX3_press := goodIn_r _ [46, 22, 23, 24, 25, 47, 48, 49, 27, 11, 28, 78, 79, 80, 81, 82, 83, 84, 85] (by decide +kernel) (by decide +kernel)
set_option maxRecDepth 20000 in
theorem gX6_bears_X3_press : GoodIn wsX6_bears (wsV RX6 135 RX3 yX3_press wsX3_press) := goodIn_app (goodIn_of _ (by decide +kernel)) ggX6_bears_X3_press
set_option maxRecDepth 20000 in
theorem ggX6_bears_X3_excess : GoodIn wsX6_bears wsX3_excess := goodIn_r _ [53, 26, 48, 54, 55, 56, 20, 57, 23, 25, 47, 24, 58, 34, 35, 36, 27, 11, 28, 78, 79, 80, 81, 82, 83, 84, 85] (by decide +kernel) (by decide +kernel)
set_option maxRecDepth 20000 in
theorem gX6_bears_X3_excess : GoodIn wsX6_bears (wsV RX6 151 RX3 yX3_excess wsX3_excess) := goodIn_app (goodIn_of _ (by decide +kernel)) ggX6_bears_X3_excess
set_option maxRecDepth 20000 in
theorem ggX6_bears_X3_borne : GoodIn wsX6_bears wsX3_borne := goodIn_r _ [57, 23, 25, 47, 24, 48, 58, 34, 35, 36, 27, 11, 28, 78, 79, 80, 81, 82, 83, 84, 85] (by decide +kernel) (by decide +kernel)
set_option maxRecDepth 20000 in
theorem gX6_bears_X3_borne : GoodIn wsX6_bears (wsV RX6 154 RX3 yX3_borne wsX3_borne) := goodIn_app (goodIn_of _ (by decide +kernel)) ggX6_bears_X3_borne
set_option maxRecDepth 20000 in
theorem ggX6_bears_X6_partInLowestTerms : GoodIn wsX6_bears wsX6_partInLowestTerms := goodIn_r _ [62, 63, 64, 11, 65, 66, 34, 35, 36] (by decide +kernel) (by decide +kernel)
set_option maxRecDepth 20000 in
theorem gX6_bears_X6_partInLowestTerms : GoodIn wsX6_bears (va_wsS RX6 147 yX6_partInLowestTerms wsX6_partInLowestTerms) := goodIn_app (goodIn_of _ (by decide +kernel)) ggX6_bears_X6_partInLowestTerms
theorem dX6_bears_0 : decode cX6_bears 0 = .ok (.aload_n 0, 1) := by decide +kernel
theorem dX6_bears_1 : decode cX6_bears 1 = .ok (.getfield 12, 3) := by decide +kernel
theorem dX6_bears_4 : decode cX6_bears 4 = .ok (.iload_n 1, 1) := by decide +kernel
theorem dX6_bears_5 : decode cX6_bears 5 = .ok (.invokevirtual 104, 3) := by decide +kernel
theorem dX6_bears_8 : decode cX6_bears 8 = .ok (.ifCond .eq 19, 3) := by decide +kernel
theorem dX6_bears_11 : decode cX6_bears 11 = .ok (.iload_n 2, 1) := by decide +kernel
theorem dX6_bears_12 : decode cX6_bears 12 = .ok (.invokestatic 85, 3) := by decide +kernel
theorem dX6_bears_15 : decode cX6_bears 15 = .ok (.ifCond .eq 12, 3) := by decide +kernel
theorem dX6_bears_18 : decode cX6_bears 18 = .ok (.iload_n 3, 1) := by decide +kernel
theorem dX6_bears_19 : decode cX6_bears 19 = .ok (.ifCond .lt 8, 3) := by decide +kernel
theorem dX6_bears_22 : decode cX6_bears 22 = .ok (.iload_n 3, 1) := by decide +kernel
theorem dX6_bears_23 : decode cX6_bears 23 = .ok (.iconst 2, 1) := by decide +kernel
theorem dX6_bears_24 : decode cX6_bears 24 = .ok (.if_icmp .le 5, 3) := by decide +kernel
theorem dX6_bears_27 : decode cX6_bears 27 = .ok (.iconst (-1), 1) := by decide +kernel
theorem dX6_bears_28 : decode cX6_bears 28 = .ok (.ireturn, 1) := by decide +kernel
theorem dX6_bears_29 : decode cX6_bears 29 = .ok (.aload_n 0, 1) := by decide +kernel
theorem dX6_bears_30 : decode cX6_bears 30 = .ok (.aload_n 0, 1) := by decide +kernel
theorem dX6_bears_31 : decode cX6_bears 31 = .ok (.getfield 12, 3) := by decide +kernel
theorem dX6_bears_34 : decode cX6_bears 34 = .ok (.getfield 88, 3) := by decide +kernel
theorem dX6_bears_37 : decode cX6_bears 37 = .ok (.invokevirtual 91, 3) := by decide +kernel
theorem dX6_bears_40 : decode cX6_bears 40 = .ok (.aload_n 0, 1) := by decide +kernel
theorem dX6_bears_41 : decode cX6_bears 41 = .ok (.getfield 50, 3) := by decide +kernel
theorem dX6_bears_44 : decode cX6_bears 44 = .ok (.iload_n 2, 1) := by decide +kernel
theorem dX6_bears_45 : decode cX6_bears 45 = .ok (.invokevirtual 135, 3) := by decide +kernel
theorem dX6_bears_48 : decode cX6_bears 48 = .ok (.ifCond .ne 6, 3) := by decide +kernel
theorem dX6_bears_51 : decode cX6_bears 51 = .ok (.bipush (-9), 2) := by decide +kernel
theorem dX6_bears_53 : decode cX6_bears 53 = .ok (.ireturn, 1) := by decide +kernel
theorem dX6_bears_54 : decode cX6_bears 54 = .ok (.iload_n 3, 1) := by decide +kernel
theorem dX6_bears_55 : decode cX6_bears 55 = .ok (.iconst 2, 1) := by decide +kernel
theorem dX6_bears_56 : decode cX6_bears 56 = .ok (.if_icmp .ne 20, 3) := by decide +kernel
theorem dX6_bears_59 : decode cX6_bears 59 = .ok (.aload_n 0, 1) := by decide +kernel
theorem dX6_bears_60 : decode cX6_bears 60 = .ok (.getfield 50, 3) := by decide +kernel
theorem dX6_bears_63 : decode cX6_bears 63 = .ok (.iload_n 1, 1) := by decide +kernel
theorem dX6_bears_64 : decode cX6_bears 64 = .ok (.invokevirtual 151, 3) := by decide +kernel
theorem dX6_bears_67 : decode cX6_bears 67 = .ok (.ifCond .le 7, 3) := by decide +kernel
theorem dX6_bears_70 : decode cX6_bears 70 = .ok (.iconst 1, 1) := by decide +kernel
theorem dX6_bears_71 : decode cX6_bears 71 = .ok (.goto 4, 3) := by decide +kernel
theorem dX6_bears_74 : decode cX6_bears 74 = .ok (.iconst 0, 1) := by decide +kernel
theorem dX6_bears_75 : decode cX6_bears 75 = .ok (.ireturn, 1) := by decide +kernel
theorem dX6_bears_76 : decode cX6_bears 76 = .ok (.aload_n 0, 1) := by decide +kernel
theorem dX6_bears_77 : decode cX6_bears 77 = .ok (.getfield 50, 3) := by decide +kernel
theorem dX6_bears_80 : decode cX6_bears 80 = .ok (.iload_n 1, 1) := by decide +kernel
theorem dX6_bears_81 : decode cX6_bears 81 = .ok (.invokevirtual 154, 3) := by decide +kernel
theorem dX6_bears_84 : decode cX6_bears 84 = .ok (.aload_n 0, 1) := by decide +kernel
theorem dX6_bears_85 : decode cX6_bears 85 = .ok (.getfield 50, 3) := by decide +kernel
theorem dX6_bears_88 : decode cX6_bears 88 = .ok (.getfield 144, 3) := by decide +kernel
theorem dX6_bears_91 : decode cX6_bears 91 = .ok (.iload_n 3, 1) := by decide +kernel
theorem dX6_bears_92 : decode cX6_bears 92 = .ok (.invokestatic 147, 3) := by decide +kernel
theorem dX6_bears_95 : decode cX6_bears 95 = .ok (.ireturn, 1) := by decide +kernel
set_option maxRecDepth 20000 in
theorem ggX6_rate_X6_isLoad : GoodIn wsX6_rate wsX6_isLoad := goodIn_r _ [6] (by decide +kernel) (by decide +kernel)
set_option maxRecDepth 20000 in
theorem gX6_rate_X6_isLoad : GoodIn wsX6_rate (va_wsS RX6 85 yX6_isLoad wsX6_isLoad) := goodIn_app (goodIn_of _ (by decide +kernel)) ggX6_rate_X6_isLoad
set_option maxRecDepth 20000 in
theorem ggX6_rate_X6_stackAll : GoodIn wsX6_rate wsX6_stackAll := goodIn_r _ [10, 2, 1, 11, 12, 13, 14, 15, 16, 17, 18, 19, 20, 21, 5, 22, 23, 24, 25, 26, 27, 28, 29, 30, 31, 32, 33, 34, 35, 36, 37, 45, 46, 47, 48, 49, 50, 51, 52, 53, 54, 55, 56, 57, 58, 59, 60, 61, 62, 63] (by decide +kernel) (by decide +kernel)
set_option maxRecDepth 20000 in
theorem gX6_rate_X6_stackAll : GoodIn wsX6_rate (wsV RX6 91 RX6 yX6_stackAll wsX6_stackAll) := goodIn_app (goodIn_of _ (by decide +kernel)) ggX6_rate_X6_stackAll
set_option maxRecDepth 20000 in
theorem ggX6_rate_X3_press : GoodIn wsX6_rate wsX3_press := goodIn_r _ [41, 16, 17, 18, 19, 42, 43, 44, 21, 5, 22, 56, 57, 58, 59, 60, 61, 62, 63] (by decide +kernel) (by decide +kernel)
set_option maxRecDepth 20000 in
theorem gX6_rate_X3_press : GoodIn wsX6_rate (wsV RX6 135 RX3 yX3_press wsX3_press) := goodIn_app (goodIn_of _ (by decide +kernel)) ggX6_rate_X3_press
theorem dX6_rate_0 : decode cX6_rate 0 = .ok (.iload_n 1, 1) := by decide +kernel
theorem dX6_rate_1 : decode cX6_rate 1 = .ok (.invokestatic 85, 3) := by decide +kernel
theorem dX6_rate_4 : decode cX6_rate 4 = .ok (.ifCond .ne 5, 3) := by decide +kernel
theorem dX6_rate_7 : decode cX6_rate 7 = .ok (.iconst (-1), 1) := by decide +kernel
theorem dX6_rate_8 : decode cX6_rate 8 = .ok (.ireturn, 1) := by decide +kernel
theorem dX6_rate_9 : decode cX6_rate 9 = .ok (.aload_n 0, 1) := by decide +kernel
theorem dX6_rate_10 : decode cX6_rate 10 = .ok (.aload_n 0, 1) := by decide +kernel
theorem dX6_rate_11 : decode cX6_rate 11 = .ok (.getfield 12, 3) := by decide +kernel
theorem dX6_rate_14 : decode cX6_rate 14 = .ok (.getfield 88, 3) := by decide +kernel
theorem dX6_rate_17 : decode cX6_rate 17 = .ok (.invokevirtual 91, 3) := by decide +kernel
theorem dX6_rate_20 : decode cX6_rate 20 = .ok (.aload_n 0, 1) := by decide +kernel
theorem dX6_rate_21 : decode cX6_rate 21 = .ok (.getfield 50, 3) := by decide +kernel
theorem dX6_rate_24 : decode cX6_rate 24 = .ok (.iload_n 1, 1) := by decide +kernel
theorem dX6_rate_25 : decode cX6_rate 25 = .ok (.invokevirtual 135, 3) := by decide +kernel
theorem dX6_rate_28 : decode cX6_rate 28 = .ok (.ifCond .eq 13, 3) := by decide +kernel
theorem dX6_rate_31 : decode cX6_rate 31 = .ok (.aload_n 0, 1) := by decide +kernel
theorem dX6_rate_32 : decode cX6_rate 32 = .ok (.getfield 50, 3) := by decide +kernel
theorem dX6_rate_35 : decode cX6_rate 35 = .ok (.getfield 157, 3) := by decide +kernel
theorem dX6_rate_38 : decode cX6_rate 38 = .ok (.goto 5, 3) := by decide +kernel
theorem dX6_rate_41 : decode cX6_rate 41 = .ok (.bipush (-9), 2) := by decide +kernel
theorem dX6_rate_43 : decode cX6_rate 43 = .ok (.ireturn, 1) := by decide +kernel
set_option maxRecDepth 20000 in
theorem ggX6_least_X6_stackAll : GoodIn wsX6_least wsX6_stackAll := goodIn_r _ [7, 2, 1, 8, 9, 10, 11, 12, 13, 14, 15, 16, 17, 18, 6, 19, 20, 21, 22, 23, 24, 25, 26, 27, 28, 29, 30, 31, 32, 33, 34, 71, 72, 73, 74, 75, 76, 77, 78, 79, 80, 81, 82, 83, 84, 85, 86, 87, 88, 89] (by decide +kernel) (by decide +kernel)
set_option maxRecDepth 20000 in
theorem gX6_least_X6_stackAll : GoodIn wsX6_least (wsV RX6 91 RX6 yX6_stackAll wsX6_stackAll) := goodIn_app (goodIn_of _ (by decide +kernel)) ggX6_least_X6_stackAll
set_option maxRecDepth 20000 in
theorem ggX6_least_X3_leastTooMuch : GoodIn wsX6_least wsX3_leastTooMuch := goodIn_r _ [38, 39, 40, 41, 11, 42, 13, 43, 44, 45, 46, 14, 15, 16, 47, 48, 49, 18, 6, 19, 50, 51, 52, 53, 17, 54, 55, 56, 57, 58, 26, 27, 28, 82, 83, 84, 85, 86, 87, 88, 89] (by decide +kernel) (by decide +kernel)
set_option maxRecDepth 20000 in
theorem gX6_least_X3_leastTooMuch : GoodIn wsX6_least (wsV RX6 160 RX3 yX3_leastTooMuch wsX3_leastTooMuch) := goodIn_app (goodIn_of _ (by decide +kernel)) ggX6_least_X3_leastTooMuch
set_option maxRecDepth 20000 in
theorem ggX6_least_X3_firstToBreak : GoodIn wsX6_least wsX3_firstToBreak := goodIn_r _ [42, 13, 43, 44, 45, 11, 46, 14, 15, 16, 47, 48, 49, 18, 6, 19, 50, 51, 52, 53, 17, 54, 55, 56, 57, 58, 26, 27, 28, 82, 83, 84, 85, 86, 87, 88, 89] (by decide +kernel) (by decide +kernel)
set_option maxRecDepth 20000 in
theorem gX6_least_X3_firstToBreak : GoodIn wsX6_least (wsV RX6 163 RX3 yX3_firstToBreak wsX3_firstToBreak) := goodIn_app (goodIn_of _ (by decide +kernel)) ggX6_least_X3_firstToBreak
set_option maxRecDepth 20000 in
theorem ggX6_least_J6_bitCount_0f7a4 : GoodIn wsX6_least wsJ6_bitCount_0f7a4 := goodIn_r _ [63, 64, 65, 66] (by decide +kernel) (by decide +kernel)
set_option maxRecDepth 20000 in
theorem gX6_least_J6_bitCount_0f7a4 : GoodIn wsX6_least (va_wsS RX6 99 yJ6_bitCount_0f7a4 wsJ6_bitCount_0f7a4) := goodIn_app (goodIn_of _ (by decide +kernel)) ggX6_least_J6_bitCount_0f7a4
set_option maxRecDepth 20000 in
theorem ggX6_least_X3_wholeAfter : GoodIn wsX6_least wsX3_wholeAfter := goodIn_r _ [70, 14, 39, 40, 41, 11, 42, 13, 43, 44, 45, 46, 15, 16, 47, 48, 49, 18, 6, 19, 50, 51, 52, 53, 17, 54, 55, 56, 57, 58, 26, 27, 28, 82, 83, 84, 85, 86, 87, 88, 89] (by decide +kernel) (by decide +kernel)
set_option maxRecDepth 20000 in
theorem gX6_least_X3_wholeAfter : GoodIn wsX6_least (wsV RX6 95 RX3 yX3_wholeAfter wsX3_wholeAfter) := goodIn_app (goodIn_of _ (by decide +kernel)) ggX6_least_X3_wholeAfter
theorem dX6_least_0 : decode cX6_least 0 = .ok (.iload_n 1, 1) := by decide +kernel
theorem dX6_least_1 : decode cX6_least 1 = .ok (.ifCond .lt 8, 3) := by decide +kernel
theorem dX6_least_4 : decode cX6_least 4 = .ok (.iload_n 1, 1) := by decide +kernel
theorem dX6_least_5 : decode cX6_least 5 = .ok (.iconst 2, 1) := by decide +kernel
theorem dX6_least_6 : decode cX6_least 6 = .ok (.if_icmp .le 5, 3) := by decide +kernel
theorem dX6_least_9 : decode cX6_least 9 = .ok (.iconst (-1), 1) := by decide +kernel
theorem dX6_least_10 : decode cX6_least 10 = .ok (.ireturn, 1) := by decide +kernel
theorem dX6_least_11 : decode cX6_least 11 = .ok (.aload_n 0, 1) := by decide +kernel
theorem dX6_least_12 : decode cX6_least 12 = .ok (.aload_n 0, 1) := by decide +kernel
theorem dX6_least_13 : decode cX6_least 13 = .ok (.getfield 12, 3) := by decide +kernel
theorem dX6_least_16 : decode cX6_least 16 = .ok (.getfield 88, 3) := by decide +kernel
theorem dX6_least_19 : decode cX6_least 19 = .ok (.invokevirtual 91, 3) := by decide +kernel
theorem dX6_least_22 : decode cX6_least 22 = .ok (.aload_n 0, 1) := by decide +kernel
theorem dX6_least_23 : decode cX6_least 23 = .ok (.getfield 50, 3) := by decide +kernel
theorem dX6_least_26 : decode cX6_least 26 = .ok (.invokevirtual 160, 3) := by decide +kernel
theorem dX6_least_29 : decode cX6_least 29 = .ok (.istore_n 2, 1) := by decide +kernel
theorem dX6_least_30 : decode cX6_least 30 = .ok (.iload_n 2, 1) := by decide +kernel
theorem dX6_least_31 : decode cX6_least 31 = .ok (.sipush 999, 3) := by decide +kernel
theorem dX6_least_34 : decode cX6_least 34 = .ok (.if_icmp .le 6, 3) := by decide +kernel
theorem dX6_least_37 : decode cX6_least 37 = .ok (.bipush (-9), 2) := by decide +kernel
theorem dX6_least_39 : decode cX6_least 39 = .ok (.ireturn, 1) := by decide +kernel
theorem dX6_least_40 : decode cX6_least 40 = .ok (.iload_n 1, 1) := by decide +kernel
theorem dX6_least_41 : decode cX6_least 41 = .ok (.ifCond .ne 5, 3) := by decide +kernel
theorem dX6_least_44 : decode cX6_least 44 = .ok (.iload_n 2, 1) := by decide +kernel
theorem dX6_least_45 : decode cX6_least 45 = .ok (.ireturn, 1) := by decide +kernel
theorem dX6_least_46 : decode cX6_least 46 = .ok (.iload_n 1, 1) := by decide +kernel
theorem dX6_least_47 : decode cX6_least 47 = .ok (.iconst 1, 1) := by decide +kernel
theorem dX6_least_48 : decode cX6_least 48 = .ok (.if_icmp .ne 12, 3) := by decide +kernel
theorem dX6_least_51 : decode cX6_least 51 = .ok (.aload_n 0, 1) := by decide +kernel
theorem dX6_least_52 : decode cX6_least 52 = .ok (.getfield 50, 3) := by decide +kernel
theorem dX6_least_55 : decode cX6_least 55 = .ok (.iload_n 2, 1) := by decide +kernel
theorem dX6_least_56 : decode cX6_least 56 = .ok (.invokevirtual 163, 3) := by decide +kernel
theorem dX6_least_59 : decode cX6_least 59 = .ok (.ireturn, 1) := by decide +kernel
theorem dX6_least_60 : decode cX6_least 60 = .ok (.aload_n 0, 1) := by decide +kernel
theorem dX6_least_61 : decode cX6_least 61 = .ok (.getfield 12, 3) := by decide +kernel
theorem dX6_least_64 : decode cX6_least 64 = .ok (.getfield 88, 3) := by decide +kernel
theorem dX6_least_67 : decode cX6_least 67 = .ok (.invokestatic 99, 3) := by decide +kernel
theorem dX6_least_70 : decode cX6_least 70 = .ok (.aload_n 0, 1) := by decide +kernel
theorem dX6_least_71 : decode cX6_least 71 = .ok (.getfield 50, 3) := by decide +kernel
theorem dX6_least_74 : decode cX6_least 74 = .ok (.iload_n 2, 1) := by decide +kernel
theorem dX6_least_75 : decode cX6_least 75 = .ok (.invokevirtual 95, 3) := by decide +kernel
theorem dX6_least_78 : decode cX6_least 78 = .ok (.invokestatic 99, 3) := by decide +kernel
theorem dX6_least_81 : decode cX6_least 81 = .ok (.isub, 1) := by decide +kernel
theorem dX6_least_82 : decode cX6_least 82 = .ok (.ireturn, 1) := by decide +kernel
set_option maxRecDepth 20000 in
theorem ggX6_knee_X6_stackAll : GoodIn wsX6_knee wsX6_stackAll := goodIn_r _ [7, 2, 1, 8, 9, 10, 11, 12, 13, 14, 15, 16, 17, 18, 6, 19, 20, 21, 22, 23, 24, 25, 26, 27, 28, 29, 30, 31, 32, 33, 34, 45, 46, 47, 48, 49, 50, 51, 52, 53, 54, 55, 56, 57, 58, 59, 60, 61, 62, 63] (by decide +kernel) (by decide +kernel)
set_option maxRecDepth 20000 in
theorem gX6_knee_X6_stackAll : GoodIn wsX6_knee (wsV RX6 91 RX6 yX6_stackAll wsX6_stackAll) := goodIn_app (goodIn_of _ (by decide +kernel)) ggX6_knee_X6_stackAll
set_option maxRecDepth 20000 in
theorem ggX6_knee_X2_isWhole : GoodIn wsX6_knee wsX2_isWhole := goodIn_r _ [38, 39, 18, 6, 19, 53, 54, 55] (by decide +kernel) (by decide +kernel)
set_option maxRecDepth 20000 in
theorem gX6_knee_X2_isWhole : GoodIn wsX6_knee (wsV RX6 107 RX2 yX2_isWhole wsX2_isWhole) := goodIn_app (goodIn_of _ (by decide +kernel)) ggX6_knee_X2_isWhole
set_option maxRecDepth 20000 in
theorem ggX6_knee_X3_loadAt : GoodIn wsX6_knee wsX3_loadAt := goodIn_r _ [43, 13, 14, 16, 15, 44, 26, 27, 28, 18, 6, 19, 56, 57, 58, 59, 60, 61, 62, 63] (by decide +kernel) (by decide +kernel)
set_option maxRecDepth 20000 in
theorem gX6_knee_X3_loadAt : GoodIn wsX6_knee (wsV RX6 166 RX3 yX3_loadAt wsX3_loadAt) := goodIn_app (goodIn_of _ (by decide +kernel)) ggX6_knee_X3_loadAt
theorem dX6_knee_0 : decode cX6_knee 0 = .ok (.iload_n 1, 1) := by decide +kernel
theorem dX6_knee_1 : decode cX6_knee 1 = .ok (.iconst (-1), 1) := by decide +kernel
theorem dX6_knee_2 : decode cX6_knee 2 = .ok (.if_icmp .ge 5, 3) := by decide +kernel
theorem dX6_knee_5 : decode cX6_knee 5 = .ok (.iconst (-1), 1) := by decide +kernel
theorem dX6_knee_6 : decode cX6_knee 6 = .ok (.ireturn, 1) := by decide +kernel
theorem dX6_knee_7 : decode cX6_knee 7 = .ok (.aload_n 0, 1) := by decide +kernel
theorem dX6_knee_8 : decode cX6_knee 8 = .ok (.aload_n 0, 1) := by decide +kernel
theorem dX6_knee_9 : decode cX6_knee 9 = .ok (.getfield 12, 3) := by decide +kernel
theorem dX6_knee_12 : decode cX6_knee 12 = .ok (.getfield 88, 3) := by decide +kernel
theorem dX6_knee_15 : decode cX6_knee 15 = .ok (.invokevirtual 91, 3) := by decide +kernel
theorem dX6_knee_18 : decode cX6_knee 18 = .ok (.iconst 0, 1) := by decide +kernel
theorem dX6_knee_19 : decode cX6_knee 19 = .ok (.istore_n 2, 1) := by decide +kernel
theorem dX6_knee_20 : decode cX6_knee 20 = .ok (.iconst 0, 1) := by decide +kernel
theorem dX6_knee_21 : decode cX6_knee 21 = .ok (.istore_n 3, 1) := by decide +kernel
theorem dX6_knee_22 : decode cX6_knee 22 = .ok (.iconst 0, 1) := by decide +kernel
theorem dX6_knee_23 : decode cX6_knee 23 = .ok (.istore 4, 2) := by decide +kernel
theorem dX6_knee_25 : decode cX6_knee 25 = .ok (.iload 4, 2) := by decide +kernel
theorem dX6_knee_27 : decode cX6_knee 27 = .ok (.aload_n 0, 1) := by decide +kernel
theorem dX6_knee_28 : decode cX6_knee 28 = .ok (.getfield 12, 3) := by decide +kernel
theorem dX6_knee_31 : decode cX6_knee 31 = .ok (.getfield 84, 3) := by decide +kernel
theorem dX6_knee_34 : decode cX6_knee 34 = .ok (.if_icmp .ge 64, 3) := by decide +kernel
theorem dX6_knee_37 : decode cX6_knee 37 = .ok (.aload_n 0, 1) := by decide +kernel
theorem dX6_knee_38 : decode cX6_knee 38 = .ok (.getfield 12, 3) := by decide +kernel
theorem dX6_knee_41 : decode cX6_knee 41 = .ok (.iload 4, 2) := by decide +kernel
theorem dX6_knee_43 : decode cX6_knee 43 = .ok (.invokevirtual 107, 3) := by decide +kernel
theorem dX6_knee_46 : decode cX6_knee 46 = .ok (.ifCond .eq 23, 3) := by decide +kernel
theorem dX6_knee_49 : decode cX6_knee 49 = .ok (.aload_n 0, 1) := by decide +kernel
theorem dX6_knee_50 : decode cX6_knee 50 = .ok (.getfield 50, 3) := by decide +kernel
theorem dX6_knee_53 : decode cX6_knee 53 = .ok (.aload_n 0, 1) := by decide +kernel
theorem dX6_knee_54 : decode cX6_knee 54 = .ok (.getfield 50, 3) := by decide +kernel
theorem dX6_knee_57 : decode cX6_knee 57 = .ok (.getfield 132, 3) := by decide +kernel
theorem dX6_knee_60 : decode cX6_knee 60 = .ok (.iload 4, 2) := by decide +kernel
theorem dX6_knee_62 : decode cX6_knee 62 = .ok (.iaload, 1) := by decide +kernel
theorem dX6_knee_63 : decode cX6_knee 63 = .ok (.invokevirtual 166, 3) := by decide +kernel
theorem dX6_knee_66 : decode cX6_knee 66 = .ok (.goto 4, 3) := by decide +kernel
theorem dX6_knee_69 : decode cX6_knee 69 = .ok (.iconst 0, 1) := by decide +kernel
theorem dX6_knee_70 : decode cX6_knee 70 = .ok (.istore 5, 2) := by decide +kernel
theorem dX6_knee_72 : decode cX6_knee 72 = .ok (.iload 5, 2) := by decide +kernel
theorem dX6_knee_74 : decode cX6_knee 74 = .ok (.iload_n 3, 1) := by decide +kernel
theorem dX6_knee_75 : decode cX6_knee 75 = .ok (.if_icmp .le 17, 3) := by decide +kernel
theorem dX6_knee_78 : decode cX6_knee 78 = .ok (.iload_n 2, 1) := by decide +kernel
theorem dX6_knee_79 : decode cX6_knee 79 = .ok (.iload_n 1, 1) := by decide +kernel
theorem dX6_knee_80 : decode cX6_knee 80 = .ok (.if_icmp .ne 6, 3) := by decide +kernel
theorem dX6_knee_83 : decode cX6_knee 83 = .ok (.iload 5, 2) := by decide +kernel
theorem dX6_knee_85 : decode cX6_knee 85 = .ok (.ireturn, 1) := by decide +kernel
theorem dX6_knee_86 : decode cX6_knee 86 = .ok (.iinc 2 1, 3) := by decide +kernel
theorem dX6_knee_89 : decode cX6_knee 89 = .ok (.iload 5, 2) := by decide +kernel
theorem dX6_knee_91 : decode cX6_knee 91 = .ok (.istore_n 3, 1) := by decide +kernel
theorem dX6_knee_92 : decode cX6_knee 92 = .ok (.iinc 4 1, 3) := by decide +kernel
theorem dX6_knee_95 : decode cX6_knee 95 = .ok (.goto (-70), 3) := by decide +kernel
theorem dX6_knee_98 : decode cX6_knee 98 = .ok (.iload_n 1, 1) := by decide +kernel
theorem dX6_knee_99 : decode cX6_knee 99 = .ok (.iconst (-1), 1) := by decide +kernel
theorem dX6_knee_100 : decode cX6_knee 100 = .ok (.if_icmp .ne 7, 3) := by decide +kernel
theorem dX6_knee_103 : decode cX6_knee 103 = .ok (.iload_n 2, 1) := by decide +kernel
theorem dX6_knee_104 : decode cX6_knee 104 = .ok (.goto 5, 3) := by decide +kernel
theorem dX6_knee_107 : decode cX6_knee 107 = .ok (.bipush (-9), 2) := by decide +kernel
theorem dX6_knee_109 : decode cX6_knee 109 = .ok (.ireturn, 1) := by decide +kernel
set_option maxRecDepth 20000 in
theorem ggX6_chosen_X6_isLoad : GoodIn wsX6_chosen wsX6_isLoad := goodIn_r _ [4] (by decide +kernel) (by decide +kernel)
set_option maxRecDepth 20000 in
theorem gX6_chosen_X6_isLoad : GoodIn wsX6_chosen (va_wsS RX6 85 yX6_isLoad wsX6_isLoad) := goodIn_app (goodIn_of _ (by decide +kernel)) ggX6_chosen_X6_isLoad
set_option maxRecDepth 20000 in
theorem ggX6_chosen_X6_fewestThatHold : GoodIn wsX6_chosen wsX6_fewestThatHold := goodIn_r _ [8, 9, 10, 11, 12, 13, 14, 15, 16, 17, 18, 19, 20, 21, 22, 23, 24, 25, 26, 27, 28, 3, 29, 30, 31, 32, 33, 34, 35, 36, 37, 38, 39, 40, 41, 42, 43, 44, 45, 46, 47, 48, 49, 50, 51, 52, 53, 54, 55, 56, 57, 58, 59, 60, 61, 62, 63, 64, 65, 66, 67, 68, 69, 70, 71, 72, 73, 74, 75, 76, 77, 78, 79, 80, 81, 82, 83, 84, 85, 86, 87] (by decide +kernel) (by decide +kernel)
set_option maxRecDepth 20000 in
theorem gX6_chosen_X6_fewestThatHold : GoodIn wsX6_chosen (wsV RX6 169 RX6 yX6_fewestThatHold wsX6_fewestThatHold) := goodIn_app (goodIn_of _ (by decide +kernel)) ggX6_chosen_X6_fewestThatHold
set_option maxRecDepth 20000 in
theorem ggX6_chosen_J6_bitCount_0f7a4 : GoodIn wsX6_chosen wsJ6_bitCount_0f7a4 := goodIn_r _ [14, 15, 16, 17] (by decide +kernel) (by decide +kernel)
set_option maxRecDepth 20000 in
theorem gX6_chosen_J6_bitCount_0f7a4 : GoodIn wsX6_chosen (va_wsS RX6 99 yJ6_bitCount_0f7a4 wsJ6_bitCount_0f7a4) := goodIn_app (goodIn_of _ (by decide +kernel)) ggX6_chosen_J6_bitCount_0f7a4
theorem dX6_chosen_0 : decode cX6_chosen 0 = .ok (.iload_n 1, 1) := by decide +kernel
theorem dX6_chosen_1 : decode cX6_chosen 1 = .ok (.invokestatic 85, 3) := by decide +kernel
theorem dX6_chosen_4 : decode cX6_chosen 4 = .ok (.ifCond .eq 22, 3) := by decide +kernel
theorem dX6_chosen_7 : decode cX6_chosen 7 = .ok (.iload_n 2, 1) := by decide +kernel
theorem dX6_chosen_8 : decode cX6_chosen 8 = .ok (.ifCond .lt 18, 3) := by decide +kernel
theorem dX6_chosen_11 : decode cX6_chosen 11 = .ok (.iload_n 2, 1) := by decide +kernel
theorem dX6_chosen_12 : decode cX6_chosen 12 = .ok (.bipush 99, 2) := by decide +kernel
theorem dX6_chosen_14 : decode cX6_chosen 14 = .ok (.if_icmp .gt 12, 3) := by decide +kernel
theorem dX6_chosen_17 : decode cX6_chosen 17 = .ok (.iload_n 3, 1) := by decide +kernel
theorem dX6_chosen_18 : decode cX6_chosen 18 = .ok (.ifCond .lt 8, 3) := by decide +kernel
theorem dX6_chosen_21 : decode cX6_chosen 21 = .ok (.iload_n 3, 1) := by decide +kernel
theorem dX6_chosen_22 : decode cX6_chosen 22 = .ok (.iconst 1, 1) := by decide +kernel
theorem dX6_chosen_23 : decode cX6_chosen 23 = .ok (.if_icmp .le 5, 3) := by decide +kernel
theorem dX6_chosen_26 : decode cX6_chosen 26 = .ok (.iconst (-1), 1) := by decide +kernel
theorem dX6_chosen_27 : decode cX6_chosen 27 = .ok (.ireturn, 1) := by decide +kernel
theorem dX6_chosen_28 : decode cX6_chosen 28 = .ok (.aload_n 0, 1) := by decide +kernel
theorem dX6_chosen_29 : decode cX6_chosen 29 = .ok (.iload_n 1, 1) := by decide +kernel
theorem dX6_chosen_30 : decode cX6_chosen 30 = .ok (.iload_n 2, 1) := by decide +kernel
theorem dX6_chosen_31 : decode cX6_chosen 31 = .ok (.invokevirtual 169, 3) := by decide +kernel
theorem dX6_chosen_34 : decode cX6_chosen 34 = .ok (.istore 4, 2) := by decide +kernel
theorem dX6_chosen_36 : decode cX6_chosen 36 = .ok (.iload 4, 2) := by decide +kernel
theorem dX6_chosen_38 : decode cX6_chosen 38 = .ok (.ifCond .ne 6, 3) := by decide +kernel
theorem dX6_chosen_41 : decode cX6_chosen 41 = .ok (.bipush (-9), 2) := by decide +kernel
theorem dX6_chosen_43 : decode cX6_chosen 43 = .ok (.ireturn, 1) := by decide +kernel
theorem dX6_chosen_44 : decode cX6_chosen 44 = .ok (.iload_n 3, 1) := by decide +kernel
theorem dX6_chosen_45 : decode cX6_chosen 45 = .ok (.ifCond .ne 11, 3) := by decide +kernel
theorem dX6_chosen_48 : decode cX6_chosen 48 = .ok (.iload 4, 2) := by decide +kernel
theorem dX6_chosen_50 : decode cX6_chosen 50 = .ok (.invokestatic 99, 3) := by decide +kernel
theorem dX6_chosen_53 : decode cX6_chosen 53 = .ok (.goto 5, 3) := by decide +kernel
theorem dX6_chosen_56 : decode cX6_chosen 56 = .ok (.iload 4, 2) := by decide +kernel
theorem dX6_chosen_58 : decode cX6_chosen 58 = .ok (.ireturn, 1) := by decide +kernel
set_option maxRecDepth 20000 in
theorem ggX6_sees_X6_isLoad : GoodIn wsX6_sees wsX6_isLoad := goodIn_r _ [5] (by decide +kernel) (by decide +kernel)
set_option maxRecDepth 20000 in
theorem gX6_sees_X6_isLoad : GoodIn wsX6_sees (va_wsS RX6 85 yX6_isLoad wsX6_isLoad) := goodIn_app (goodIn_of _ (by decide +kernel)) ggX6_sees_X6_isLoad
set_option maxRecDepth 20000 in
theorem ggX6_sees_X4_append : GoodIn wsX6_sees wsX4_append := goodIn_r _ [10, 11, 12, 13, 22, 23, 24] (by decide +kernel) (by decide +kernel)
set_option maxRecDepth 20000 in
theorem gX6_sees_X4_append : GoodIn wsX6_sees (wsV RX6 172 RX4 yX4_append wsX4_append) := goodIn_app (goodIn_of _ (by decide +kernel)) ggX6_sees_X4_append
theorem dX6_sees_0 : decode cX6_sees 0 = .ok (.iload_n 1, 1) := by decide +kernel
theorem dX6_sees_1 : decode cX6_sees 1 = .ok (.invokestatic 85, 3) := by decide +kernel
theorem dX6_sees_4 : decode cX6_sees 4 = .ok (.ifCond .eq 20, 3) := by decide +kernel
theorem dX6_sees_7 : decode cX6_sees 7 = .ok (.iload_n 2, 1) := by decide +kernel
theorem dX6_sees_8 : decode cX6_sees 8 = .ok (.bipush (-9), 2) := by decide +kernel
theorem dX6_sees_10 : decode cX6_sees 10 = .ok (.if_icmp .eq 16, 3) := by decide +kernel
theorem dX6_sees_13 : decode cX6_sees 13 = .ok (.iload_n 2, 1) := by decide +kernel
theorem dX6_sees_14 : decode cX6_sees 14 = .ok (.ifCond .lt 10, 3) := by decide +kernel
theorem dX6_sees_17 : decode cX6_sees 17 = .ok (.iload_n 2, 1) := by decide +kernel
theorem dX6_sees_18 : decode cX6_sees 18 = .ok (.sipush 9999, 3) := by decide +kernel
theorem dX6_sees_21 : decode cX6_sees 21 = .ok (.if_icmp .le 5, 3) := by decide +kernel
theorem dX6_sees_24 : decode cX6_sees 24 = .ok (.iconst (-1), 1) := by decide +kernel
theorem dX6_sees_25 : decode cX6_sees 25 = .ok (.ireturn, 1) := by decide +kernel
theorem dX6_sees_26 : decode cX6_sees 26 = .ok (.aload_n 0, 1) := by decide +kernel
theorem dX6_sees_27 : decode cX6_sees 27 = .ok (.getfield 43, 3) := by decide +kernel
theorem dX6_sees_30 : decode cX6_sees 30 = .ok (.iload_n 1, 1) := by decide +kernel
theorem dX6_sees_31 : decode cX6_sees 31 = .ok (.iload_n 2, 1) := by decide +kernel
theorem dX6_sees_32 : decode cX6_sees 32 = .ok (.invokevirtual 172, 3) := by decide +kernel
theorem dX6_sees_35 : decode cX6_sees 35 = .ok (.ifCond .eq 13, 3) := by decide +kernel
theorem dX6_sees_38 : decode cX6_sees 38 = .ok (.aload_n 0, 1) := by decide +kernel
theorem dX6_sees_39 : decode cX6_sees 39 = .ok (.getfield 43, 3) := by decide +kernel
theorem dX6_sees_42 : decode cX6_sees 42 = .ok (.getfield 175, 3) := by decide +kernel
theorem dX6_sees_45 : decode cX6_sees 45 = .ok (.goto 5, 3) := by decide +kernel
theorem dX6_sees_48 : decode cX6_sees 48 = .ok (.bipush (-3), 2) := by decide +kernel
theorem dX6_sees_50 : decode cX6_sees 50 = .ok (.ireturn, 1) := by decide +kernel
set_option maxRecDepth 20000 in
theorem ggX6_forget_X4_empty : GoodIn wsX6_forget wsX4_empty := goodIn_r _ [6, 7, 16, 17, 18] (by decide +kernel) (by decide +kernel)
set_option maxRecDepth 20000 in
theorem gX6_forget_X4_empty : GoodIn wsX6_forget (wsV RX6 81 RX4 yX4_empty wsX4_empty) := goodIn_app (goodIn_of _ (by decide +kernel)) ggX6_forget_X4_empty
theorem dX6_forget_0 : decode cX6_forget 0 = .ok (.aload_n 0, 1) := by decide +kernel
theorem dX6_forget_1 : decode cX6_forget 1 = .ok (.getfield 43, 3) := by decide +kernel
theorem dX6_forget_4 : decode cX6_forget 4 = .ok (.invokevirtual 81, 3) := by decide +kernel
theorem dX6_forget_7 : decode cX6_forget 7 = .ok (.ireturn, 1) := by decide +kernel
set_option maxRecDepth 20000 in
theorem ggX6_which_X6_suspects : GoodIn wsX6_which wsX6_suspects := goodIn_r _ [8, 2, 9, 10, 11, 12, 13, 14, 15, 16, 17, 7, 18, 19, 20, 21, 22, 23, 24, 25, 26, 27, 28, 29, 30, 31, 32, 33, 34, 35, 36, 37, 38, 39, 40, 41, 42, 43, 44, 45, 46, 47, 48, 49, 50, 51, 52, 53, 54, 55, 56, 57, 58, 59, 60, 61, 62, 63, 64, 65, 66, 67, 68, 69, 70, 71, 72, 73, 82, 83, 84, 85, 86, 87, 88, 89, 90, 91, 92, 93, 94, 95, 96, 97, 98, 99, 100, 101, 102, 103] (by decide +kernel) (by decide +kernel)
set_option maxRecDepth 20000 in
theorem gX6_which_X6_suspects : GoodIn wsX6_which (wsV RX6 177 RX6 yX6_suspects wsX6_suspects) := goodIn_app (goodIn_of _ (by decide +kernel)) ggX6_which_X6_suspects
set_option maxRecDepth 20000 in
theorem ggX6_which_J6_bitCount_0f7a4 : GoodIn wsX6_which wsJ6_bitCount_0f7a4 := goodIn_r _ [77, 78, 79, 80] (by decide +kernel) (by decide +kernel)
set_option maxRecDepth 20000 in
theorem gX6_which_J6_bitCount_0f7a4 : GoodIn wsX6_which (va_wsS RX6 99 yJ6_bitCount_0f7a4 wsJ6_bitCount_0f7a4) := goodIn_app (goodIn_of _ (by decide +kernel)) ggX6_which_J6_bitCount_0f7a4
set_option maxRecDepth 20000 in
theorem ggX6_which_X6_holds : GoodIn wsX6_which wsX6_holds := goodIn_r _ [18] (by decide +kernel) (by decide +kernel)
set_option maxRecDepth 20000 in
theorem gX6_which_X6_holds : GoodIn wsX6_which (va_wsS RX6 180 yX6_holds wsX6_holds) := goodIn_app (goodIn_of _ (by decide +kernel)) ggX6_which_X6_holds
theorem dX6_which_0 : decode cX6_which 0 = .ok (.iload_n 1, 1) := by decide +kernel
theorem dX6_which_1 : decode cX6_which 1 = .ok (.ifCond .lt 8, 3) := by decide +kernel
theorem dX6_which_4 : decode cX6_which 4 = .ok (.iload_n 1, 1) := by decide +kernel
theorem dX6_which_5 : decode cX6_which 5 = .ok (.iconst 1, 1) := by decide +kernel
theorem dX6_which_6 : decode cX6_which 6 = .ok (.if_icmp .le 6, 3) := by decide +kernel
theorem dX6_which_9 : decode cX6_which 9 = .ok (.ldc 176, 2) := by decide +kernel
theorem dX6_which_11 : decode cX6_which 11 = .ok (.ireturn, 1) := by decide +kernel
theorem dX6_which_12 : decode cX6_which 12 = .ok (.aload_n 0, 1) := by decide +kernel
theorem dX6_which_13 : decode cX6_which 13 = .ok (.invokevirtual 177, 3) := by decide +kernel
theorem dX6_which_16 : decode cX6_which 16 = .ok (.istore_n 2, 1) := by decide +kernel
theorem dX6_which_17 : decode cX6_which 17 = .ok (.iload_n 1, 1) := by decide +kernel
theorem dX6_which_18 : decode cX6_which 18 = .ok (.ifCond .ne 8, 3) := by decide +kernel
theorem dX6_which_21 : decode cX6_which 21 = .ok (.iload_n 2, 1) := by decide +kernel
theorem dX6_which_22 : decode cX6_which 22 = .ok (.invokestatic 99, 3) := by decide +kernel
theorem dX6_which_25 : decode cX6_which 25 = .ok (.ireturn, 1) := by decide +kernel
theorem dX6_which_26 : decode cX6_which 26 = .ok (.iconst 0, 1) := by decide +kernel
theorem dX6_which_27 : decode cX6_which 27 = .ok (.istore_n 3, 1) := by decide +kernel
theorem dX6_which_28 : decode cX6_which 28 = .ok (.iload_n 3, 1) := by decide +kernel
theorem dX6_which_29 : decode cX6_which 29 = .ok (.aload_n 0, 1) := by decide +kernel
theorem dX6_which_30 : decode cX6_which 30 = .ok (.getfield 12, 3) := by decide +kernel
theorem dX6_which_33 : decode cX6_which 33 = .ok (.getfield 84, 3) := by decide +kernel
theorem dX6_which_36 : decode cX6_which 36 = .ok (.if_icmp .gt 21, 3) := by decide +kernel
theorem dX6_which_39 : decode cX6_which 39 = .ok (.iload_n 2, 1) := by decide +kernel
theorem dX6_which_40 : decode cX6_which 40 = .ok (.iload_n 3, 1) := by decide +kernel
theorem dX6_which_41 : decode cX6_which 41 = .ok (.invokestatic 180, 3) := by decide +kernel
theorem dX6_which_44 : decode cX6_which 44 = .ok (.ifCond .eq 7, 3) := by decide +kernel
theorem dX6_which_47 : decode cX6_which 47 = .ok (.iload_n 3, 1) := by decide +kernel
theorem dX6_which_48 : decode cX6_which 48 = .ok (.iconst 1, 1) := by decide +kernel
theorem dX6_which_49 : decode cX6_which 49 = .ok (.isub, 1) := by decide +kernel
theorem dX6_which_50 : decode cX6_which 50 = .ok (.ireturn, 1) := by decide +kernel
theorem dX6_which_51 : decode cX6_which 51 = .ok (.iinc 3 1, 3) := by decide +kernel
theorem dX6_which_54 : decode cX6_which 54 = .ok (.goto (-26), 3) := by decide +kernel
theorem dX6_which_57 : decode cX6_which 57 = .ok (.ldc 183, 2) := by decide +kernel
theorem dX6_which_59 : decode cX6_which 59 = .ok (.ireturn, 1) := by decide +kernel
set_option maxRecDepth 20000 in
theorem ggX6_ask_X6_suspects : GoodIn wsX6_ask wsX6_suspects := goodIn_r _ [5, 6, 7, 8, 9, 10, 11, 12, 13, 14, 15, 4, 16, 17, 18, 19, 20, 21, 22, 23, 24, 25, 26, 27, 28, 29, 30, 31, 32, 33, 34, 35, 36, 37, 38, 39, 40, 41, 42, 43, 44, 45, 46, 47, 48, 49, 50, 51, 52, 53, 54, 55, 56, 57, 58, 59, 60, 61, 62, 63, 64, 65, 66, 67, 68, 69, 70, 71, 91, 92, 93, 94, 95, 96, 97, 98, 99, 100, 101, 102, 103, 104, 105, 106, 107, 108, 109, 110, 111, 112] (by decide +kernel) (by decide +kernel)
set_option maxRecDepth 20000 in
theorem gX6_ask_X6_suspects : GoodIn wsX6_ask (wsV RX6 177 RX6 yX6_suspects wsX6_suspects) := goodIn_app (goodIn_of _ (by decide +kernel)) ggX6_ask_X6_suspects
set_option maxRecDepth 20000 in
theorem ggX6_ask_J6_bitCount_0f7a4 : GoodIn wsX6_ask wsJ6_bitCount_0f7a4 := goodIn_r _ [75, 76, 77, 78] (by decide +kernel) (by decide +kernel)
set_option maxRecDepth 20000 in
theorem gX6_ask_J6_bitCount_0f7a4 : GoodIn wsX6_ask (va_wsS RX6 99 yJ6_bitCount_0f7a4 wsJ6_bitCount_0f7a4) := goodIn_app (goodIn_of _ (by decide +kernel)) ggX6_ask_J6_bitCount_0f7a4
set_option maxRecDepth 20000 in
theorem ggX6_ask_X6_mostAlike : GoodIn wsX6_ask wsX6_mostAlike := goodIn_r _ [82, 6, 83, 8, 84, 40, 41, 42, 85, 15, 4, 16, 17, 18, 19, 20, 21, 22, 23, 24, 25, 26, 27, 28, 29, 30, 31, 32, 33, 34, 35, 36, 37, 12, 38, 39, 43, 44, 45, 46, 47, 48, 86, 58, 59, 60, 61, 62, 63, 64, 65, 66, 67, 68, 69, 70, 71, 87, 88, 89, 90, 91, 92, 93, 94, 95, 96, 97, 98, 99, 100, 101, 102, 103, 104, 105, 106, 107, 108, 109] (by decide +kernel) (by decide +kernel)
set_option maxRecDepth 20000 in
theorem gX6_ask_X6_mostAlike : GoodIn wsX6_ask (wsV RX6 184 RX6 yX6_mostAlike wsX6_mostAlike) := goodIn_app (goodIn_of _ (by decide +kernel)) ggX6_ask_X6_mostAlike
theorem dX6_ask_0 : decode cX6_ask 0 = .ok (.aload_n 0, 1) := by decide +kernel
theorem dX6_ask_1 : decode cX6_ask 1 = .ok (.invokevirtual 177, 3) := by decide +kernel
theorem dX6_ask_4 : decode cX6_ask 4 = .ok (.istore_n 1, 1) := by decide +kernel
theorem dX6_ask_5 : decode cX6_ask 5 = .ok (.iload_n 1, 1) := by decide +kernel
theorem dX6_ask_6 : decode cX6_ask 6 = .ok (.invokestatic 99, 3) := by decide +kernel
theorem dX6_ask_9 : decode cX6_ask 9 = .ok (.iconst 2, 1) := by decide +kernel
theorem dX6_ask_10 : decode cX6_ask 10 = .ok (.if_icmp .ge 6, 3) := by decide +kernel
theorem dX6_ask_13 : decode cX6_ask 13 = .ok (.bipush (-9), 2) := by decide +kernel
theorem dX6_ask_15 : decode cX6_ask 15 = .ok (.ireturn, 1) := by decide +kernel
theorem dX6_ask_16 : decode cX6_ask 16 = .ok (.bipush (-9), 2) := by decide +kernel
theorem dX6_ask_18 : decode cX6_ask 18 = .ok (.istore_n 2, 1) := by decide +kernel
theorem dX6_ask_19 : decode cX6_ask 19 = .ok (.bipush 10, 2) := by decide +kernel
theorem dX6_ask_21 : decode cX6_ask 21 = .ok (.istore_n 3, 1) := by decide +kernel
theorem dX6_ask_22 : decode cX6_ask 22 = .ok (.bipush 10, 2) := by decide +kernel
theorem dX6_ask_24 : decode cX6_ask 24 = .ok (.istore 4, 2) := by decide +kernel
theorem dX6_ask_26 : decode cX6_ask 26 = .ok (.iload 4, 2) := by decide +kernel
theorem dX6_ask_28 : decode cX6_ask 28 = .ok (.sipush 300, 3) := by decide +kernel
theorem dX6_ask_31 : decode cX6_ask 31 = .ok (.if_icmp .gt 30, 3) := by decide +kernel
theorem dX6_ask_34 : decode cX6_ask 34 = .ok (.aload_n 0, 1) := by decide +kernel
theorem dX6_ask_35 : decode cX6_ask 35 = .ok (.iload_n 1, 1) := by decide +kernel
theorem dX6_ask_36 : decode cX6_ask 36 = .ok (.iload 4, 2) := by decide +kernel
theorem dX6_ask_38 : decode cX6_ask 38 = .ok (.invokevirtual 184, 3) := by decide +kernel
theorem dX6_ask_41 : decode cX6_ask 41 = .ok (.istore 5, 2) := by decide +kernel
theorem dX6_ask_43 : decode cX6_ask 43 = .ok (.iload 5, 2) := by decide +kernel
theorem dX6_ask_45 : decode cX6_ask 45 = .ok (.iload_n 3, 1) := by decide +kernel
theorem dX6_ask_46 : decode cX6_ask 46 = .ok (.if_icmp .ge 9, 3) := by decide +kernel
theorem dX6_ask_49 : decode cX6_ask 49 = .ok (.iload 4, 2) := by decide +kernel
theorem dX6_ask_51 : decode cX6_ask 51 = .ok (.istore_n 2, 1) := by decide +kernel
theorem dX6_ask_52 : decode cX6_ask 52 = .ok (.iload 5, 2) := by decide +kernel
theorem dX6_ask_54 : decode cX6_ask 54 = .ok (.istore_n 3, 1) := by decide +kernel
theorem dX6_ask_55 : decode cX6_ask 55 = .ok (.iinc 4 10, 3) := by decide +kernel
theorem dX6_ask_58 : decode cX6_ask 58 = .ok (.goto (-32), 3) := by decide +kernel
theorem dX6_ask_61 : decode cX6_ask 61 = .ok (.iload_n 2, 1) := by decide +kernel
theorem dX6_ask_62 : decode cX6_ask 62 = .ok (.ireturn, 1) := by decide +kernel
set_option maxRecDepth 20000 in
theorem ggX6_keep_X1_put : GoodIn wsX6_keep wsX1_put := goodIn_r _ [7, 8, 9, 10, 11, 12, 13, 14, 15, 16, 17, 18, 19, 20, 21, 33, 34, 30, 31, 32] (by decide +kernel) (by decide +kernel)
set_option maxRecDepth 20000 in
theorem gX6_keep_X1_put : GoodIn wsX6_keep (wsV RX6 187 RX1 yX1_put wsX1_put) := goodIn_app (goodIn_of _ (by decide +kernel)) ggX6_keep_X1_put
theorem dX6_keep_0 : decode cX6_keep 0 = .ok (.iload_n 1, 1) := by decide +kernel
theorem dX6_keep_1 : decode cX6_keep 1 = .ok (.ifCond .lt 8, 3) := by decide +kernel
theorem dX6_keep_4 : decode cX6_keep 4 = .ok (.iload_n 1, 1) := by decide +kernel
theorem dX6_keep_5 : decode cX6_keep 5 = .ok (.iconst 2, 1) := by decide +kernel
theorem dX6_keep_6 : decode cX6_keep 6 = .ok (.if_icmp .lt 5, 3) := by decide +kernel
theorem dX6_keep_9 : decode cX6_keep 9 = .ok (.iconst (-1), 1) := by decide +kernel
theorem dX6_keep_10 : decode cX6_keep 10 = .ok (.ireturn, 1) := by decide +kernel
theorem dX6_keep_11 : decode cX6_keep 11 = .ok (.aload_n 0, 1) := by decide +kernel
theorem dX6_keep_12 : decode cX6_keep 12 = .ok (.getfield 36, 3) := by decide +kernel
theorem dX6_keep_15 : decode cX6_keep 15 = .ok (.iload_n 1, 1) := by decide +kernel
theorem dX6_keep_16 : decode cX6_keep 16 = .ok (.aload_n 0, 1) := by decide +kernel
theorem dX6_keep_17 : decode cX6_keep 17 = .ok (.getfield 12, 3) := by decide +kernel
theorem dX6_keep_20 : decode cX6_keep 20 = .ok (.invokevirtual 187, 3) := by decide +kernel
theorem dX6_keep_23 : decode cX6_keep 23 = .ok (.aload_n 0, 1) := by decide +kernel
theorem dX6_keep_24 : decode cX6_keep 24 = .ok (.getfield 12, 3) := by decide +kernel
theorem dX6_keep_27 : decode cX6_keep 27 = .ok (.getfield 84, 3) := by decide +kernel
theorem dX6_keep_30 : decode cX6_keep 30 = .ok (.ireturn, 1) := by decide +kernel
set_option maxRecDepth 20000 in
theorem ggX6_back_X1_getInto : GoodIn wsX6_back wsX1_getInto := goodIn_r _ [8, 9, 10, 11, 12, 13, 14, 15, 16, 17, 18, 19, 20, 21, 22, 23, 24, 25, 43, 44, 40, 41, 42] (by decide +kernel) (by decide +kernel)
set_option maxRecDepth 20000 in
theorem gX6_back_X1_getInto : GoodIn wsX6_back (wsV RX6 190 RX1 yX1_getInto wsX1_getInto) := goodIn_app (goodIn_of _ (by decide +kernel)) ggX6_back_X1_getInto
set_option maxRecDepth 20000 in
theorem ggX6_back_X0_empty : GoodIn wsX6_back wsX0_empty := goodIn_r _ [30, 31, 45, 46, 47] (by decide +kernel) (by decide +kernel)
set_option maxRecDepth 20000 in
theorem gX6_back_X0_empty : GoodIn wsX6_back (wsV RX6 194 RX0 yX0_empty wsX0_empty) := goodIn_app (goodIn_of _ (by decide +kernel)) ggX6_back_X0_empty
theorem dX6_back_0 : decode cX6_back 0 = .ok (.iload_n 1, 1) := by decide +kernel
theorem dX6_back_1 : decode cX6_back 1 = .ok (.ifCond .lt 8, 3) := by decide +kernel
theorem dX6_back_4 : decode cX6_back 4 = .ok (.iload_n 1, 1) := by decide +kernel
theorem dX6_back_5 : decode cX6_back 5 = .ok (.iconst 2, 1) := by decide +kernel
theorem dX6_back_6 : decode cX6_back 6 = .ok (.if_icmp .lt 5, 3) := by decide +kernel
theorem dX6_back_9 : decode cX6_back 9 = .ok (.iconst (-1), 1) := by decide +kernel
theorem dX6_back_10 : decode cX6_back 10 = .ok (.ireturn, 1) := by decide +kernel
theorem dX6_back_11 : decode cX6_back 11 = .ok (.aload_n 0, 1) := by decide +kernel
theorem dX6_back_12 : decode cX6_back 12 = .ok (.getfield 36, 3) := by decide +kernel
theorem dX6_back_15 : decode cX6_back 15 = .ok (.iload_n 1, 1) := by decide +kernel
theorem dX6_back_16 : decode cX6_back 16 = .ok (.aload_n 0, 1) := by decide +kernel
theorem dX6_back_17 : decode cX6_back 17 = .ok (.getfield 12, 3) := by decide +kernel
theorem dX6_back_20 : decode cX6_back 20 = .ok (.invokevirtual 190, 3) := by decide +kernel
theorem dX6_back_23 : decode cX6_back 23 = .ok (.ifCond .ne 6, 3) := by decide +kernel
theorem dX6_back_26 : decode cX6_back 26 = .ok (.bipush (-2), 2) := by decide +kernel
theorem dX6_back_28 : decode cX6_back 28 = .ok (.ireturn, 1) := by decide +kernel
theorem dX6_back_29 : decode cX6_back 29 = .ok (.aload_n 0, 1) := by decide +kernel
theorem dX6_back_30 : decode cX6_back 30 = .ok (.getfield 29, 3) := by decide +kernel
theorem dX6_back_33 : decode cX6_back 33 = .ok (.invokevirtual 194, 3) := by decide +kernel
theorem dX6_back_36 : decode cX6_back 36 = .ok (.aload_n 0, 1) := by decide +kernel
theorem dX6_back_37 : decode cX6_back 37 = .ok (.getfield 12, 3) := by decide +kernel
theorem dX6_back_40 : decode cX6_back 40 = .ok (.getfield 84, 3) := by decide +kernel
theorem dX6_back_43 : decode cX6_back 43 = .ok (.ireturn, 1) := by decide +kernel
set_option maxRecDepth 20000 in
theorem ggX6_count_J6_bitCount_0f7a4 : GoodIn wsX6_count wsJ6_bitCount_0f7a4 := goodIn_r _ [8, 9, 10, 11] (by decide +kernel) (by decide +kernel)
set_option maxRecDepth 20000 in
theorem gX6_count_J6_bitCount_0f7a4 : GoodIn wsX6_count (va_wsS RX6 99 yJ6_bitCount_0f7a4 wsJ6_bitCount_0f7a4) := goodIn_app (goodIn_of _ (by decide +kernel)) ggX6_count_J6_bitCount_0f7a4
set_option maxRecDepth 20000 in
theorem ggX6_count_X2_sum : GoodIn wsX6_count wsX2_sum := goodIn_r _ [16, 17, 18, 19, 20, 21, 22, 23, 15, 24, 25, 73, 74, 75] (by decide +kernel) (by decide +kernel)
set_option maxRecDepth 20000 in
theorem gX6_count_X2_sum : GoodIn wsX6_count (wsV RX6 195 RX2 yX2_sum wsX2_sum) := goodIn_app (goodIn_of _ (by decide +kernel)) ggX6_count_X2_sum
set_option maxRecDepth 20000 in
theorem ggX6_count_X6_leaf : GoodIn wsX6_count wsX6_leaf := goodIn_r _ [29, 1, 30, 31, 32, 33, 15, 34, 17, 35, 22, 23, 24, 25, 36, 37, 38, 39, 40, 18, 19, 20, 41, 42, 43, 44, 45, 46, 47, 48, 21, 49, 50, 51, 52, 53, 54, 55, 56, 57, 58, 59, 60, 61, 62, 63, 64, 65, 66, 67, 68, 69, 70, 71, 72, 73, 74, 75, 84, 85, 86, 87, 88, 89, 90, 91] (by decide +kernel) (by decide +kernel)
set_option maxRecDepth 20000 in
theorem gX6_count_X6_leaf : GoodIn wsX6_count (wsV RX6 198 RX6 yX6_leaf wsX6_leaf) := goodIn_app (goodIn_of _ (by decide +kernel)) ggX6_count_X6_leaf
theorem dX6_count_0 : decode cX6_count 0 = .ok (.iload_n 1, 1) := by decide +kernel
theorem dX6_count_1 : decode cX6_count 1 = .ok (.tableswitch 134 0 7 #[47, 55, 66, 82, 94, 110, 118, 126], 47) := by decide +kernel
theorem dX6_count_48 : decode cX6_count 48 = .ok (.aload_n 0, 1) := by decide +kernel
theorem dX6_count_49 : decode cX6_count 49 = .ok (.getfield 12, 3) := by decide +kernel
theorem dX6_count_52 : decode cX6_count 52 = .ok (.getfield 84, 3) := by decide +kernel
theorem dX6_count_55 : decode cX6_count 55 = .ok (.ireturn, 1) := by decide +kernel
theorem dX6_count_56 : decode cX6_count 56 = .ok (.aload_n 0, 1) := by decide +kernel
theorem dX6_count_57 : decode cX6_count 57 = .ok (.getfield 12, 3) := by decide +kernel
theorem dX6_count_60 : decode cX6_count 60 = .ok (.getfield 88, 3) := by decide +kernel
theorem dX6_count_63 : decode cX6_count 63 = .ok (.invokestatic 99, 3) := by decide +kernel
theorem dX6_count_66 : decode cX6_count 66 = .ok (.ireturn, 1) := by decide +kernel
theorem dX6_count_67 : decode cX6_count 67 = .ok (.aload_n 0, 1) := by decide +kernel
theorem dX6_count_68 : decode cX6_count 68 = .ok (.getfield 12, 3) := by decide +kernel
theorem dX6_count_71 : decode cX6_count 71 = .ok (.iconst 1, 1) := by decide +kernel
theorem dX6_count_72 : decode cX6_count 72 = .ok (.aload_n 0, 1) := by decide +kernel
theorem dX6_count_73 : decode cX6_count 73 = .ok (.getfield 12, 3) := by decide +kernel
theorem dX6_count_76 : decode cX6_count 76 = .ok (.getfield 88, 3) := by decide +kernel
theorem dX6_count_79 : decode cX6_count 79 = .ok (.invokevirtual 195, 3) := by decide +kernel
theorem dX6_count_82 : decode cX6_count 82 = .ok (.ireturn, 1) := by decide +kernel
theorem dX6_count_83 : decode cX6_count 83 = .ok (.aload_n 0, 1) := by decide +kernel
theorem dX6_count_84 : decode cX6_count 84 = .ok (.getfield 12, 3) := by decide +kernel
theorem dX6_count_87 : decode cX6_count 87 = .ok (.iconst 0, 1) := by decide +kernel
theorem dX6_count_88 : decode cX6_count 88 = .ok (.sipush 255, 3) := by decide +kernel
theorem dX6_count_91 : decode cX6_count 91 = .ok (.invokevirtual 195, 3) := by decide +kernel
theorem dX6_count_94 : decode cX6_count 94 = .ok (.ireturn, 1) := by decide +kernel
theorem dX6_count_95 : decode cX6_count 95 = .ok (.aload_n 0, 1) := by decide +kernel
theorem dX6_count_96 : decode cX6_count 96 = .ok (.aload_n 0, 1) := by decide +kernel
theorem dX6_count_97 : decode cX6_count 97 = .ok (.getfield 12, 3) := by decide +kernel
theorem dX6_count_100 : decode cX6_count 100 = .ok (.getfield 84, 3) := by decide +kernel
theorem dX6_count_103 : decode cX6_count 103 = .ok (.iconst 1, 1) := by decide +kernel
theorem dX6_count_104 : decode cX6_count 104 = .ok (.isub, 1) := by decide +kernel
theorem dX6_count_105 : decode cX6_count 105 = .ok (.bipush 6, 2) := by decide +kernel
theorem dX6_count_107 : decode cX6_count 107 = .ok (.invokevirtual 198, 3) := by decide +kernel
theorem dX6_count_110 : decode cX6_count 110 = .ok (.ireturn, 1) := by decide +kernel
theorem dX6_count_111 : decode cX6_count 111 = .ok (.aload_n 0, 1) := by decide +kernel
theorem dX6_count_112 : decode cX6_count 112 = .ok (.getfield 43, 3) := by decide +kernel
theorem dX6_count_115 : decode cX6_count 115 = .ok (.getfield 175, 3) := by decide +kernel
theorem dX6_count_118 : decode cX6_count 118 = .ok (.ireturn, 1) := by decide +kernel
theorem dX6_count_119 : decode cX6_count 119 = .ok (.aload_n 0, 1) := by decide +kernel
theorem dX6_count_120 : decode cX6_count 120 = .ok (.getfield 22, 3) := by decide +kernel
theorem dX6_count_123 : decode cX6_count 123 = .ok (.getfield 62, 3) := by decide +kernel
theorem dX6_count_126 : decode cX6_count 126 = .ok (.ireturn, 1) := by decide +kernel
theorem dX6_count_127 : decode cX6_count 127 = .ok (.aload_n 0, 1) := by decide +kernel
theorem dX6_count_128 : decode cX6_count 128 = .ok (.getfield 29, 3) := by decide +kernel
theorem dX6_count_131 : decode cX6_count 131 = .ok (.getfield 128, 3) := by decide +kernel
theorem dX6_count_134 : decode cX6_count 134 = .ok (.ireturn, 1) := by decide +kernel
theorem dX6_count_135 : decode cX6_count 135 = .ok (.iconst (-1), 1) := by decide +kernel
theorem dX6_count_136 : decode cX6_count 136 = .ok (.ireturn, 1) := by decide +kernel
theorem dX6_isLoad_0 : decode cX6_isLoad 0 = .ok (.iload_n 0, 1) := by decide +kernel
theorem dX6_isLoad_1 : decode cX6_isLoad 1 = .ok (.ifCond .lt 14, 3) := by decide +kernel
theorem dX6_isLoad_4 : decode cX6_isLoad 4 = .ok (.iload_n 0, 1) := by decide +kernel
theorem dX6_isLoad_5 : decode cX6_isLoad 5 = .ok (.sipush 999, 3) := by decide +kernel
theorem dX6_isLoad_8 : decode cX6_isLoad 8 = .ok (.if_icmp .gt 7, 3) := by decide +kernel
theorem dX6_isLoad_11 : decode cX6_isLoad 11 = .ok (.iconst 1, 1) := by decide +kernel
theorem dX6_isLoad_12 : decode cX6_isLoad 12 = .ok (.goto 4, 3) := by decide +kernel
theorem dX6_isLoad_15 : decode cX6_isLoad 15 = .ok (.iconst 0, 1) := by decide +kernel
theorem dX6_isLoad_16 : decode cX6_isLoad 16 = .ok (.ireturn, 1) := by decide +kernel
theorem dX6_holds_0 : decode cX6_holds 0 = .ok (.iload_n 0, 1) := by decide +kernel
theorem dX6_holds_1 : decode cX6_holds 1 = .ok (.iload_n 1, 1) := by decide +kernel
theorem dX6_holds_2 : decode cX6_holds 2 = .ok (.ishr, 1) := by decide +kernel
theorem dX6_holds_3 : decode cX6_holds 3 = .ok (.iconst 1, 1) := by decide +kernel
theorem dX6_holds_4 : decode cX6_holds 4 = .ok (.iand, 1) := by decide +kernel
theorem dX6_holds_5 : decode cX6_holds 5 = .ok (.ifCond .eq 7, 3) := by decide +kernel
theorem dX6_holds_8 : decode cX6_holds 8 = .ok (.iconst 1, 1) := by decide +kernel
theorem dX6_holds_9 : decode cX6_holds 9 = .ok (.goto 4, 3) := by decide +kernel
theorem dX6_holds_12 : decode cX6_holds 12 = .ok (.iconst 0, 1) := by decide +kernel
theorem dX6_holds_13 : decode cX6_holds 13 = .ok (.ireturn, 1) := by decide +kernel
set_option maxRecDepth 20000 in
theorem ggX6_stackAll_X3_stack : GoodIn wsX6_stackAll wsX3_stack := goodIn_r _ [7, 8, 9, 10, 11, 12, 13, 14, 15, 16, 17, 18, 19, 20, 21, 22, 23, 24, 25, 26, 27, 28, 29, 30, 39, 40, 41, 42, 43, 44, 45, 46, 47, 48, 49] (by decide +kernel) (by decide +kernel)
set_option maxRecDepth 20000 in
theorem gX6_stackAll_X3_stack : GoodIn wsX6_stackAll (wsV RX6 201 RX3 yX3_stack wsX3_stack) := goodIn_app (goodIn_of _ (by decide +kernel)) ggX6_stackAll_X3_stack
theorem dX6_stackAll_0 : decode cX6_stackAll 0 = .ok (.aload_n 0, 1) := by decide +kernel
theorem dX6_stackAll_1 : decode cX6_stackAll 1 = .ok (.getfield 50, 3) := by decide +kernel
theorem dX6_stackAll_4 : decode cX6_stackAll 4 = .ok (.aload_n 0, 1) := by decide +kernel
theorem dX6_stackAll_5 : decode cX6_stackAll 5 = .ok (.getfield 12, 3) := by decide +kernel
theorem dX6_stackAll_8 : decode cX6_stackAll 8 = .ok (.sipush 255, 3) := by decide +kernel
theorem dX6_stackAll_11 : decode cX6_stackAll 11 = .ok (.iload_n 1, 1) := by decide +kernel
theorem dX6_stackAll_12 : decode cX6_stackAll 12 = .ok (.invokevirtual 201, 3) := by decide +kernel
theorem dX6_stackAll_15 : decode cX6_stackAll 15 = .ok (.return_, 1) := by decide +kernel
set_option maxRecDepth 20000 in
theorem ggX6_partInLowestTerms_X6_greatestDivisor : GoodIn wsX6_partInLowestTerms wsX6_greatestDivisor := goodIn_r _ [4, 5, 6, 7, 8] (by decide +kernel) (by decide +kernel)
set_option maxRecDepth 20000 in
theorem gX6_partInLowestTerms_X6_greatestDivisor : GoodIn wsX6_partInLowestTerms (va_wsS RX6 205 yX6_greatestDivisor wsX6_greatestDivisor) := goodIn_app (goodIn_of _ (by decide +kernel)) ggX6_partInLowestTerms_X6_greatestDivisor
theorem dX6_partInLowestTerms_0 : decode cX6_partInLowestTerms 0 = .ok (.iload_n 0, 1) := by decide +kernel
theorem dX6_partInLowestTerms_1 : decode cX6_partInLowestTerms 1 = .ok (.iload_n 1, 1) := by decide +kernel
theorem dX6_partInLowestTerms_2 : decode cX6_partInLowestTerms 2 = .ok (.invokestatic 205, 3) := by decide +kernel
theorem dX6_partInLowestTerms_5 : decode cX6_partInLowestTerms 5 = .ok (.istore_n 3, 1) := by decide +kernel
theorem dX6_partInLowestTerms_6 : decode cX6_partInLowestTerms 6 = .ok (.iload_n 2, 1) := by decide +kernel
theorem dX6_partInLowestTerms_7 : decode cX6_partInLowestTerms 7 = .ok (.ifCond .ne 7, 3) := by decide +kernel
theorem dX6_partInLowestTerms_10 : decode cX6_partInLowestTerms 10 = .ok (.iload_n 0, 1) := by decide +kernel
theorem dX6_partInLowestTerms_11 : decode cX6_partInLowestTerms 11 = .ok (.goto 4, 3) := by decide +kernel
theorem dX6_partInLowestTerms_14 : decode cX6_partInLowestTerms 14 = .ok (.iload_n 1, 1) := by decide +kernel
theorem dX6_partInLowestTerms_15 : decode cX6_partInLowestTerms 15 = .ok (.iload_n 3, 1) := by decide +kernel
theorem dX6_partInLowestTerms_16 : decode cX6_partInLowestTerms 16 = .ok (.idiv, 1) := by decide +kernel
theorem dX6_partInLowestTerms_17 : decode cX6_partInLowestTerms 17 = .ok (.ireturn, 1) := by decide +kernel
theorem dX6_greatestDivisor_0 : decode cX6_greatestDivisor 0 = .ok (.iload_n 0, 1) := by decide +kernel
theorem dX6_greatestDivisor_1 : decode cX6_greatestDivisor 1 = .ok (.istore_n 2, 1) := by decide +kernel
theorem dX6_greatestDivisor_2 : decode cX6_greatestDivisor 2 = .ok (.iload_n 1, 1) := by decide +kernel
theorem dX6_greatestDivisor_3 : decode cX6_greatestDivisor 3 = .ok (.istore_n 3, 1) := by decide +kernel
theorem dX6_greatestDivisor_4 : decode cX6_greatestDivisor 4 = .ok (.iconst 0, 1) := by decide +kernel
theorem dX6_greatestDivisor_5 : decode cX6_greatestDivisor 5 = .ok (.istore 4, 2) := by decide +kernel
theorem dX6_greatestDivisor_7 : decode cX6_greatestDivisor 7 = .ok (.iload_n 3, 1) := by decide +kernel
theorem dX6_greatestDivisor_8 : decode cX6_greatestDivisor 8 = .ok (.ifCond .le 27, 3) := by decide +kernel
theorem dX6_greatestDivisor_11 : decode cX6_greatestDivisor 11 = .ok (.iload 4, 2) := by decide +kernel
theorem dX6_greatestDivisor_13 : decode cX6_greatestDivisor 13 = .ok (.sipush 1000, 3) := by decide +kernel
theorem dX6_greatestDivisor_16 : decode cX6_greatestDivisor 16 = .ok (.if_icmp .ge 19, 3) := by decide +kernel
theorem dX6_greatestDivisor_19 : decode cX6_greatestDivisor 19 = .ok (.iload_n 2, 1) := by decide +kernel
theorem dX6_greatestDivisor_20 : decode cX6_greatestDivisor 20 = .ok (.iload_n 3, 1) := by decide +kernel
theorem dX6_greatestDivisor_21 : decode cX6_greatestDivisor 21 = .ok (.irem, 1) := by decide +kernel
theorem dX6_greatestDivisor_22 : decode cX6_greatestDivisor 22 = .ok (.istore 5, 2) := by decide +kernel
theorem dX6_greatestDivisor_24 : decode cX6_greatestDivisor 24 = .ok (.iload_n 3, 1) := by decide +kernel
theorem dX6_greatestDivisor_25 : decode cX6_greatestDivisor 25 = .ok (.istore_n 2, 1) := by decide +kernel
theorem dX6_greatestDivisor_26 : decode cX6_greatestDivisor 26 = .ok (.iload 5, 2) := by decide +kernel
theorem dX6_greatestDivisor_28 : decode cX6_greatestDivisor 28 = .ok (.istore_n 3, 1) := by decide +kernel
theorem dX6_greatestDivisor_29 : decode cX6_greatestDivisor 29 = .ok (.iinc 4 1, 3) := by decide +kernel
theorem dX6_greatestDivisor_32 : decode cX6_greatestDivisor 32 = .ok (.goto (-25), 3) := by decide +kernel
theorem dX6_greatestDivisor_35 : decode cX6_greatestDivisor 35 = .ok (.iconst 1, 1) := by decide +kernel
theorem dX6_greatestDivisor_36 : decode cX6_greatestDivisor 36 = .ok (.iload_n 2, 1) := by decide +kernel
theorem dX6_greatestDivisor_37 : decode cX6_greatestDivisor 37 = .ok (.invokestatic 208, 3) := by decide +kernel
theorem dX6_greatestDivisor_40 : decode cX6_greatestDivisor 40 = .ok (.ireturn, 1) := by decide +kernel
set_option maxRecDepth 20000 in
theorem ggX6_fewestThatHold_J6_bitCount_0f7a4 : GoodIn wsX6_fewestThatHold wsJ6_bitCount_0f7a4 := goodIn_r _ [6, 7, 8, 9] (by decide +kernel) (by decide +kernel)
set_option maxRecDepth 20000 in
theorem gX6_fewestThatHold_J6_bitCount_0f7a4 : GoodIn wsX6_fewestThatHold (va_wsS RX6 99 yJ6_bitCount_0f7a4 wsJ6_bitCount_0f7a4) := goodIn_app (goodIn_of _ (by decide +kernel)) ggX6_fewestThatHold_J6_bitCount_0f7a4
set_option maxRecDepth 20000 in
theorem ggX6_fewestThatHold_X3_stack : GoodIn wsX6_fewestThatHold wsX3_stack := goodIn_r _ [14, 15, 16, 17, 18, 19, 20, 21, 22, 23, 24, 25, 26, 27, 28, 29, 30, 31, 32, 33, 34, 35, 36, 37, 70, 71, 72, 73, 74, 75, 76, 77, 78, 79, 80] (by decide +kernel) (by decide +kernel)
set_option maxRecDepth 20000 in
theorem gX6_fewestThatHold_X3_stack : GoodIn wsX6_fewestThatHold (wsV RX6 201 RX3 yX3_stack wsX3_stack) := goodIn_app (goodIn_of _ (by decide +kernel)) ggX6_fewestThatHold_X3_stack
set_option maxRecDepth 20000 in
theorem ggX6_fewestThatHold_X3_bearsWithin : GoodIn wsX6_fewestThatHold wsX3_bearsWithin := goodIn_r _ [41, 42, 43, 44, 45, 46, 13, 47, 15, 16, 17, 18, 48, 20, 21, 22, 49, 50, 51, 52, 53, 54, 55, 56, 19, 57, 58, 59, 60, 61, 29, 30, 31, 73, 74, 75, 76, 77, 78, 79, 80] (by decide +kernel) (by decide +kernel)
set_option maxRecDepth 20000 in
theorem gX6_fewestThatHold_X3_bearsWithin : GoodIn wsX6_fewestThatHold (wsV RX6 213 RX3 yX3_bearsWithin wsX3_bearsWithin) := goodIn_app (goodIn_of _ (by decide +kernel)) ggX6_fewestThatHold_X3_bearsWithin
theorem dX6_fewestThatHold_0 : decode cX6_fewestThatHold 0 = .ok (.aload_n 0, 1) := by decide +kernel
theorem dX6_fewestThatHold_1 : decode cX6_fewestThatHold 1 = .ok (.getfield 12, 3) := by decide +kernel
theorem dX6_fewestThatHold_4 : decode cX6_fewestThatHold 4 = .ok (.getfield 88, 3) := by decide +kernel
theorem dX6_fewestThatHold_7 : decode cX6_fewestThatHold 7 = .ok (.aload_n 0, 1) := by decide +kernel
theorem dX6_fewestThatHold_8 : decode cX6_fewestThatHold 8 = .ok (.getfield 12, 3) := by decide +kernel
theorem dX6_fewestThatHold_11 : decode cX6_fewestThatHold 11 = .ok (.getfield 88, 3) := by decide +kernel
theorem dX6_fewestThatHold_14 : decode cX6_fewestThatHold 14 = .ok (.ineg, 1) := by decide +kernel
theorem dX6_fewestThatHold_15 : decode cX6_fewestThatHold 15 = .ok (.iand, 1) := by decide +kernel
theorem dX6_fewestThatHold_16 : decode cX6_fewestThatHold 16 = .ok (.istore_n 3, 1) := by decide +kernel
theorem dX6_fewestThatHold_17 : decode cX6_fewestThatHold 17 = .ok (.iconst 0, 1) := by decide +kernel
theorem dX6_fewestThatHold_18 : decode cX6_fewestThatHold 18 = .ok (.istore 4, 2) := by decide +kernel
theorem dX6_fewestThatHold_20 : decode cX6_fewestThatHold 20 = .ok (.iconst 1, 1) := by decide +kernel
theorem dX6_fewestThatHold_21 : decode cX6_fewestThatHold 21 = .ok (.istore 5, 2) := by decide +kernel
theorem dX6_fewestThatHold_23 : decode cX6_fewestThatHold 23 = .ok (.iload 5, 2) := by decide +kernel
theorem dX6_fewestThatHold_25 : decode cX6_fewestThatHold 25 = .ok (.sipush 255, 3) := by decide +kernel
theorem dX6_fewestThatHold_28 : decode cX6_fewestThatHold 28 = .ok (.if_icmp .gt 92, 3) := by decide +kernel
theorem dX6_fewestThatHold_31 : decode cX6_fewestThatHold 31 = .ok (.iload 5, 2) := by decide +kernel
theorem dX6_fewestThatHold_33 : decode cX6_fewestThatHold 33 = .ok (.aload_n 0, 1) := by decide +kernel
theorem dX6_fewestThatHold_34 : decode cX6_fewestThatHold 34 = .ok (.getfield 12, 3) := by decide +kernel
theorem dX6_fewestThatHold_37 : decode cX6_fewestThatHold 37 = .ok (.getfield 88, 3) := by decide +kernel
theorem dX6_fewestThatHold_40 : decode cX6_fewestThatHold 40 = .ok (.iconst (-1), 1) := by decide +kernel
theorem dX6_fewestThatHold_41 : decode cX6_fewestThatHold 41 = .ok (.ixor, 1) := by decide +kernel
theorem dX6_fewestThatHold_42 : decode cX6_fewestThatHold 42 = .ok (.iand, 1) := by decide +kernel
theorem dX6_fewestThatHold_43 : decode cX6_fewestThatHold 43 = .ok (.ifCond .ne 14, 3) := by decide +kernel
theorem dX6_fewestThatHold_46 : decode cX6_fewestThatHold 46 = .ok (.iload 5, 2) := by decide +kernel
theorem dX6_fewestThatHold_48 : decode cX6_fewestThatHold 48 = .ok (.iload_n 3, 1) := by decide +kernel
theorem dX6_fewestThatHold_49 : decode cX6_fewestThatHold 49 = .ok (.iand, 1) := by decide +kernel
theorem dX6_fewestThatHold_50 : decode cX6_fewestThatHold 50 = .ok (.ifCond .eq 7, 3) := by decide +kernel
theorem dX6_fewestThatHold_53 : decode cX6_fewestThatHold 53 = .ok (.iconst 1, 1) := by decide +kernel
theorem dX6_fewestThatHold_54 : decode cX6_fewestThatHold 54 = .ok (.goto 4, 3) := by decide +kernel
theorem dX6_fewestThatHold_57 : decode cX6_fewestThatHold 57 = .ok (.iconst 0, 1) := by decide +kernel
theorem dX6_fewestThatHold_58 : decode cX6_fewestThatHold 58 = .ok (.istore 6, 2) := by decide +kernel
theorem dX6_fewestThatHold_60 : decode cX6_fewestThatHold 60 = .ok (.iload 6, 2) := by decide +kernel
theorem dX6_fewestThatHold_62 : decode cX6_fewestThatHold 62 = .ok (.ifCond .eq 52, 3) := by decide +kernel
theorem dX6_fewestThatHold_65 : decode cX6_fewestThatHold 65 = .ok (.iload 4, 2) := by decide +kernel
theorem dX6_fewestThatHold_67 : decode cX6_fewestThatHold 67 = .ok (.ifCond .eq 16, 3) := by decide +kernel
theorem dX6_fewestThatHold_70 : decode cX6_fewestThatHold 70 = .ok (.iload 5, 2) := by decide +kernel
theorem dX6_fewestThatHold_72 : decode cX6_fewestThatHold 72 = .ok (.invokestatic 99, 3) := by decide +kernel
theorem dX6_fewestThatHold_75 : decode cX6_fewestThatHold 75 = .ok (.iload 4, 2) := by decide +kernel
theorem dX6_fewestThatHold_77 : decode cX6_fewestThatHold 77 = .ok (.invokestatic 99, 3) := by decide +kernel
theorem dX6_fewestThatHold_80 : decode cX6_fewestThatHold 80 = .ok (.if_icmp .ge 34, 3) := by decide +kernel
theorem dX6_fewestThatHold_83 : decode cX6_fewestThatHold 83 = .ok (.aload_n 0, 1) := by decide +kernel
theorem dX6_fewestThatHold_84 : decode cX6_fewestThatHold 84 = .ok (.getfield 50, 3) := by decide +kernel
theorem dX6_fewestThatHold_87 : decode cX6_fewestThatHold 87 = .ok (.aload_n 0, 1) := by decide +kernel
theorem dX6_fewestThatHold_88 : decode cX6_fewestThatHold 88 = .ok (.getfield 12, 3) := by decide +kernel
theorem dX6_fewestThatHold_91 : decode cX6_fewestThatHold 91 = .ok (.iload 5, 2) := by decide +kernel
theorem dX6_fewestThatHold_93 : decode cX6_fewestThatHold 93 = .ok (.iload 5, 2) := by decide +kernel
theorem dX6_fewestThatHold_95 : decode cX6_fewestThatHold 95 = .ok (.invokevirtual 201, 3) := by decide +kernel
theorem dX6_fewestThatHold_98 : decode cX6_fewestThatHold 98 = .ok (.aload_n 0, 1) := by decide +kernel
theorem dX6_fewestThatHold_99 : decode cX6_fewestThatHold 99 = .ok (.getfield 50, 3) := by decide +kernel
theorem dX6_fewestThatHold_102 : decode cX6_fewestThatHold 102 = .ok (.iload_n 1, 1) := by decide +kernel
theorem dX6_fewestThatHold_103 : decode cX6_fewestThatHold 103 = .ok (.iload_n 2, 1) := by decide +kernel
theorem dX6_fewestThatHold_104 : decode cX6_fewestThatHold 104 = .ok (.invokevirtual 213, 3) := by decide +kernel
theorem dX6_fewestThatHold_107 : decode cX6_fewestThatHold 107 = .ok (.ifCond .eq 7, 3) := by decide +kernel
theorem dX6_fewestThatHold_110 : decode cX6_fewestThatHold 110 = .ok (.iload 5, 2) := by decide +kernel
theorem dX6_fewestThatHold_112 : decode cX6_fewestThatHold 112 = .ok (.istore 4, 2) := by decide +kernel
theorem dX6_fewestThatHold_114 : decode cX6_fewestThatHold 114 = .ok (.iinc 5 1, 3) := by decide +kernel
theorem dX6_fewestThatHold_117 : decode cX6_fewestThatHold 117 = .ok (.goto (-94), 3) := by decide +kernel
theorem dX6_fewestThatHold_120 : decode cX6_fewestThatHold 120 = .ok (.iload 4, 2) := by decide +kernel
theorem dX6_fewestThatHold_122 : decode cX6_fewestThatHold 122 = .ok (.ireturn, 1) := by decide +kernel
set_option maxRecDepth 20000 in
theorem ggX6_suspects_X2_isWhole : GoodIn wsX6_suspects wsX2_isWhole := goodIn_r _ [8, 9, 10, 11, 12, 76, 77, 78] (by decide +kernel) (by decide +kernel)
set_option maxRecDepth 20000 in
theorem gX6_suspects_X2_isWhole : GoodIn wsX6_suspects (wsV RX6 107 RX2 yX2_isWhole wsX2_isWhole) := goodIn_app (goodIn_of _ (by decide +kernel)) ggX6_suspects_X2_isWhole
set_option maxRecDepth 20000 in
theorem ggX6_suspects_X6_stackSuspect : GoodIn wsX6_suspects wsX6_stackSuspect := goodIn_r _ [16, 1, 17, 18, 19, 11, 20, 3, 21, 22, 23, 24, 25, 26, 27, 28, 29, 30, 10, 12, 31, 32, 33, 7, 34, 35, 36, 37, 38, 39, 40, 41, 42, 43, 44, 68, 69, 70, 71, 72, 73, 74, 75, 76, 77, 78, 79, 80, 81, 82, 83, 84, 85, 86] (by decide +kernel) (by decide +kernel)
set_option maxRecDepth 20000 in
theorem gX6_suspects_X6_stackSuspect : GoodIn wsX6_suspects (wsV RX6 216 RX6 yX6_stackSuspect wsX6_stackSuspect) := goodIn_app (goodIn_of _ (by decide +kernel)) ggX6_suspects_X6_stackSuspect
set_option maxRecDepth 20000 in
theorem ggX6_suspects_X4_agreeWith : GoodIn wsX6_suspects wsX4_agreeWith := goodIn_r _ [49, 50, 51, 52, 53, 54, 55, 24, 56, 57, 58, 59, 60, 26, 27, 28, 29, 61, 62, 63, 10, 11, 12, 64, 65, 66, 67, 87, 88, 89, 79, 80, 81, 82, 83, 84, 85, 86] (by decide +kernel) (by decide +kernel)
set_option maxRecDepth 20000 in
theorem gX6_suspects_X4_agreeWith : GoodIn wsX6_suspects (wsV RX6 219 RX4 yX4_agreeWith wsX4_agreeWith) := goodIn_app (goodIn_of _ (by decide +kernel)) ggX6_suspects_X4_agreeWith
theorem dX6_suspects_0 : decode cX6_suspects 0 = .ok (.iconst 0, 1) := by decide +kernel
theorem dX6_suspects_1 : decode cX6_suspects 1 = .ok (.istore_n 1, 1) := by decide +kernel
theorem dX6_suspects_2 : decode cX6_suspects 2 = .ok (.iconst 0, 1) := by decide +kernel
theorem dX6_suspects_3 : decode cX6_suspects 3 = .ok (.istore_n 2, 1) := by decide +kernel
theorem dX6_suspects_4 : decode cX6_suspects 4 = .ok (.iload_n 2, 1) := by decide +kernel
theorem dX6_suspects_5 : decode cX6_suspects 5 = .ok (.aload_n 0, 1) := by decide +kernel
theorem dX6_suspects_6 : decode cX6_suspects 6 = .ok (.getfield 12, 3) := by decide +kernel
theorem dX6_suspects_9 : decode cX6_suspects 9 = .ok (.getfield 84, 3) := by decide +kernel
theorem dX6_suspects_12 : decode cX6_suspects 12 = .ok (.if_icmp .gt 51, 3) := by decide +kernel
theorem dX6_suspects_15 : decode cX6_suspects 15 = .ok (.iload_n 2, 1) := by decide +kernel
theorem dX6_suspects_16 : decode cX6_suspects 16 = .ok (.ifCond .eq 16, 3) := by decide +kernel
theorem dX6_suspects_19 : decode cX6_suspects 19 = .ok (.aload_n 0, 1) := by decide +kernel
theorem dX6_suspects_20 : decode cX6_suspects 20 = .ok (.getfield 12, 3) := by decide +kernel
theorem dX6_suspects_23 : decode cX6_suspects 23 = .ok (.iload_n 2, 1) := by decide +kernel
theorem dX6_suspects_24 : decode cX6_suspects 24 = .ok (.iconst 1, 1) := by decide +kernel
theorem dX6_suspects_25 : decode cX6_suspects 25 = .ok (.isub, 1) := by decide +kernel
theorem dX6_suspects_26 : decode cX6_suspects 26 = .ok (.invokevirtual 107, 3) := by decide +kernel
theorem dX6_suspects_29 : decode cX6_suspects 29 = .ok (.ifCond .eq 28, 3) := by decide +kernel
theorem dX6_suspects_32 : decode cX6_suspects 32 = .ok (.aload_n 0, 1) := by decide +kernel
theorem dX6_suspects_33 : decode cX6_suspects 33 = .ok (.iload_n 2, 1) := by decide +kernel
theorem dX6_suspects_34 : decode cX6_suspects 34 = .ok (.invokevirtual 216, 3) := by decide +kernel
theorem dX6_suspects_37 : decode cX6_suspects 37 = .ok (.aload_n 0, 1) := by decide +kernel
theorem dX6_suspects_38 : decode cX6_suspects 38 = .ok (.getfield 43, 3) := by decide +kernel
theorem dX6_suspects_41 : decode cX6_suspects 41 = .ok (.aload_n 0, 1) := by decide +kernel
theorem dX6_suspects_42 : decode cX6_suspects 42 = .ok (.getfield 50, 3) := by decide +kernel
theorem dX6_suspects_45 : decode cX6_suspects 45 = .ok (.invokevirtual 219, 3) := by decide +kernel
theorem dX6_suspects_48 : decode cX6_suspects 48 = .ok (.ifCond .eq 9, 3) := by decide +kernel
theorem dX6_suspects_51 : decode cX6_suspects 51 = .ok (.iload_n 1, 1) := by decide +kernel
theorem dX6_suspects_52 : decode cX6_suspects 52 = .ok (.iconst 1, 1) := by decide +kernel
theorem dX6_suspects_53 : decode cX6_suspects 53 = .ok (.iload_n 2, 1) := by decide +kernel
theorem dX6_suspects_54 : decode cX6_suspects 54 = .ok (.ishl, 1) := by decide +kernel
theorem dX6_suspects_55 : decode cX6_suspects 55 = .ok (.ior, 1) := by decide +kernel
theorem dX6_suspects_56 : decode cX6_suspects 56 = .ok (.istore_n 1, 1) := by decide +kernel
theorem dX6_suspects_57 : decode cX6_suspects 57 = .ok (.iinc 2 1, 3) := by decide +kernel
theorem dX6_suspects_60 : decode cX6_suspects 60 = .ok (.goto (-56), 3) := by decide +kernel
theorem dX6_suspects_63 : decode cX6_suspects 63 = .ok (.iload_n 1, 1) := by decide +kernel
theorem dX6_suspects_64 : decode cX6_suspects 64 = .ok (.ireturn, 1) := by decide +kernel
set_option maxRecDepth 20000 in
theorem ggX6_stackSuspect_X6_stackAll : GoodIn wsX6_stackSuspect wsX6_stackAll := goodIn_r _ [6, 7, 1, 8, 9, 10, 11, 12, 13, 14, 15, 16, 17, 18, 5, 19, 20, 21, 22, 23, 24, 25, 26, 27, 28, 29, 30, 31, 32, 33, 34, 35, 36, 37, 38, 39, 40, 41, 42, 43, 44, 45, 46, 47, 48, 49, 50, 51, 52, 53] (by decide +kernel) (by decide +kernel)
set_option maxRecDepth 20000 in
theorem gX6_stackSuspect_X6_stackAll : GoodIn wsX6_stackSuspect (wsV RX6 91 RX6 yX6_stackAll wsX6_stackAll) := goodIn_app (goodIn_of _ (by decide +kernel)) ggX6_stackSuspect_X6_stackAll
theorem dX6_stackSuspect_0 : decode cX6_stackSuspect 0 = .ok (.iload_n 1, 1) := by decide +kernel
theorem dX6_stackSuspect_1 : decode cX6_stackSuspect 1 = .ok (.ifCond .ne 7, 3) := by decide +kernel
theorem dX6_stackSuspect_4 : decode cX6_stackSuspect 4 = .ok (.iconst 0, 1) := by decide +kernel
theorem dX6_stackSuspect_5 : decode cX6_stackSuspect 5 = .ok (.goto 8, 3) := by decide +kernel
theorem dX6_stackSuspect_8 : decode cX6_stackSuspect 8 = .ok (.iconst 1, 1) := by decide +kernel
theorem dX6_stackSuspect_9 : decode cX6_stackSuspect 9 = .ok (.iload_n 1, 1) := by decide +kernel
theorem dX6_stackSuspect_10 : decode cX6_stackSuspect 10 = .ok (.iconst 1, 1) := by decide +kernel
theorem dX6_stackSuspect_11 : decode cX6_stackSuspect 11 = .ok (.isub, 1) := by decide +kernel
theorem dX6_stackSuspect_12 : decode cX6_stackSuspect 12 = .ok (.ishl, 1) := by decide +kernel
theorem dX6_stackSuspect_13 : decode cX6_stackSuspect 13 = .ok (.istore_n 2, 1) := by decide +kernel
theorem dX6_stackSuspect_14 : decode cX6_stackSuspect 14 = .ok (.aload_n 0, 1) := by decide +kernel
theorem dX6_stackSuspect_15 : decode cX6_stackSuspect 15 = .ok (.aload_n 0, 1) := by decide +kernel
theorem dX6_stackSuspect_16 : decode cX6_stackSuspect 16 = .ok (.getfield 12, 3) := by decide +kernel
theorem dX6_stackSuspect_19 : decode cX6_stackSuspect 19 = .ok (.getfield 88, 3) := by decide +kernel
theorem dX6_stackSuspect_22 : decode cX6_stackSuspect 22 = .ok (.iload_n 2, 1) := by decide +kernel
theorem dX6_stackSuspect_23 : decode cX6_stackSuspect 23 = .ok (.iconst (-1), 1) := by decide +kernel
theorem dX6_stackSuspect_24 : decode cX6_stackSuspect 24 = .ok (.ixor, 1) := by decide +kernel
theorem dX6_stackSuspect_25 : decode cX6_stackSuspect 25 = .ok (.iand, 1) := by decide +kernel
theorem dX6_stackSuspect_26 : decode cX6_stackSuspect 26 = .ok (.invokevirtual 91, 3) := by decide +kernel
theorem dX6_stackSuspect_29 : decode cX6_stackSuspect 29 = .ok (.return_, 1) := by decide +kernel
set_option maxRecDepth 20000 in
theorem ggX6_mostAlike_X6_holds : GoodIn wsX6_mostAlike wsX6_holds := goodIn_r _ [11] (by decide +kernel) (by decide +kernel)
set_option maxRecDepth 20000 in
theorem gX6_mostAlike_X6_holds : GoodIn wsX6_mostAlike (va_wsS RX6 180 yX6_holds wsX6_holds) := goodIn_app (goodIn_of _ (by decide +kernel)) ggX6_mostAlike_X6_holds
set_option maxRecDepth 20000 in
theorem ggX6_mostAlike_X6_stackSuspect : GoodIn wsX6_mostAlike wsX6_stackSuspect := goodIn_r _ [15, 1, 16, 17, 18, 10, 19, 3, 20, 21, 22, 23, 24, 25, 26, 27, 28, 29, 9, 11, 30, 31, 32, 33, 34, 35, 5, 6, 7, 36, 37, 38, 39, 40, 41, 61, 62, 63, 64, 65, 66, 67, 68, 69, 70, 71, 72, 73, 74, 75, 76, 77, 78, 79] (by decide +kernel) (by decide +kernel)
set_option maxRecDepth 20000 in
theorem gX6_mostAlike_X6_stackSuspect : GoodIn wsX6_mostAlike (wsV RX6 216 RX6 yX6_stackSuspect wsX6_stackSuspect) := goodIn_app (goodIn_of _ (by decide +kernel)) ggX6_mostAlike_X6_stackSuspect
set_option maxRecDepth 20000 in
theorem ggX6_mostAlike_X3_cutBy : GoodIn wsX6_mostAlike wsX3_cutBy := goodIn_r _ [45, 46, 47, 48, 23, 49, 25, 26, 27, 28, 50, 51, 52, 9, 10, 11, 53, 54, 55, 56, 72, 73, 74, 75, 76, 77, 78, 79] (by decide +kernel) (by decide +kernel)
set_option maxRecDepth 20000 in
theorem gX6_mostAlike_X3_cutBy : GoodIn wsX6_mostAlike (wsV RX6 223 RX3 yX3_cutBy wsX3_cutBy) := goodIn_app (goodIn_of _ (by decide +kernel)) ggX6_mostAlike_X3_cutBy
set_option maxRecDepth 20000 in
theorem ggX6_mostAlike_X6_alikeUpTo : GoodIn wsX6_mostAlike wsX6_alikeUpTo := goodIn_r _ [60, 2, 8, 9, 10, 11, 61, 62, 63, 64, 65, 66, 67, 68] (by decide +kernel) (by decide +kernel)
set_option maxRecDepth 20000 in
theorem gX6_mostAlike_X6_alikeUpTo : GoodIn wsX6_mostAlike (wsV RX6 226 RX6 yX6_alikeUpTo wsX6_alikeUpTo) := goodIn_app (goodIn_of _ (by decide +kernel)) ggX6_mostAlike_X6_alikeUpTo
theorem dX6_mostAlike_0 : decode cX6_mostAlike 0 = .ok (.iconst 0, 1) := by decide +kernel
theorem dX6_mostAlike_1 : decode cX6_mostAlike 1 = .ok (.istore_n 3, 1) := by decide +kernel
theorem dX6_mostAlike_2 : decode cX6_mostAlike 2 = .ok (.iconst 0, 1) := by decide +kernel
theorem dX6_mostAlike_3 : decode cX6_mostAlike 3 = .ok (.istore 4, 2) := by decide +kernel
theorem dX6_mostAlike_5 : decode cX6_mostAlike 5 = .ok (.iload 4, 2) := by decide +kernel
theorem dX6_mostAlike_7 : decode cX6_mostAlike 7 = .ok (.aload_n 0, 1) := by decide +kernel
theorem dX6_mostAlike_8 : decode cX6_mostAlike 8 = .ok (.getfield 12, 3) := by decide +kernel
theorem dX6_mostAlike_11 : decode cX6_mostAlike 11 = .ok (.getfield 84, 3) := by decide +kernel
theorem dX6_mostAlike_14 : decode cX6_mostAlike 14 = .ok (.if_icmp .gt 51, 3) := by decide +kernel
theorem dX6_mostAlike_17 : decode cX6_mostAlike 17 = .ok (.iload_n 1, 1) := by decide +kernel
theorem dX6_mostAlike_18 : decode cX6_mostAlike 18 = .ok (.iload 4, 2) := by decide +kernel
theorem dX6_mostAlike_20 : decode cX6_mostAlike 20 = .ok (.invokestatic 180, 3) := by decide +kernel
theorem dX6_mostAlike_23 : decode cX6_mostAlike 23 = .ok (.ifCond .eq 36, 3) := by decide +kernel
theorem dX6_mostAlike_26 : decode cX6_mostAlike 26 = .ok (.aload_n 0, 1) := by decide +kernel
theorem dX6_mostAlike_27 : decode cX6_mostAlike 27 = .ok (.iload 4, 2) := by decide +kernel
theorem dX6_mostAlike_29 : decode cX6_mostAlike 29 = .ok (.invokevirtual 216, 3) := by decide +kernel
theorem dX6_mostAlike_32 : decode cX6_mostAlike 32 = .ok (.aload_n 0, 1) := by decide +kernel
theorem dX6_mostAlike_33 : decode cX6_mostAlike 33 = .ok (.getfield 54, 3) := by decide +kernel
theorem dX6_mostAlike_36 : decode cX6_mostAlike 36 = .ok (.iload 4, 2) := by decide +kernel
theorem dX6_mostAlike_38 : decode cX6_mostAlike 38 = .ok (.aload_n 0, 1) := by decide +kernel
theorem dX6_mostAlike_39 : decode cX6_mostAlike 39 = .ok (.getfield 50, 3) := by decide +kernel
theorem dX6_mostAlike_42 : decode cX6_mostAlike 42 = .ok (.iload_n 2, 1) := by decide +kernel
theorem dX6_mostAlike_43 : decode cX6_mostAlike 43 = .ok (.invokevirtual 223, 3) := by decide +kernel
theorem dX6_mostAlike_46 : decode cX6_mostAlike 46 = .ok (.iastore, 1) := by decide +kernel
theorem dX6_mostAlike_47 : decode cX6_mostAlike 47 = .ok (.iload_n 3, 1) := by decide +kernel
theorem dX6_mostAlike_48 : decode cX6_mostAlike 48 = .ok (.aload_n 0, 1) := by decide +kernel
theorem dX6_mostAlike_49 : decode cX6_mostAlike 49 = .ok (.iload_n 1, 1) := by decide +kernel
theorem dX6_mostAlike_50 : decode cX6_mostAlike 50 = .ok (.iload 4, 2) := by decide +kernel
theorem dX6_mostAlike_52 : decode cX6_mostAlike 52 = .ok (.invokevirtual 226, 3) := by decide +kernel
theorem dX6_mostAlike_55 : decode cX6_mostAlike 55 = .ok (.invokestatic 208, 3) := by decide +kernel
theorem dX6_mostAlike_58 : decode cX6_mostAlike 58 = .ok (.istore_n 3, 1) := by decide +kernel
theorem dX6_mostAlike_59 : decode cX6_mostAlike 59 = .ok (.iinc 4 1, 3) := by decide +kernel
theorem dX6_mostAlike_62 : decode cX6_mostAlike 62 = .ok (.goto (-57), 3) := by decide +kernel
theorem dX6_mostAlike_65 : decode cX6_mostAlike 65 = .ok (.iload_n 3, 1) := by decide +kernel
theorem dX6_mostAlike_66 : decode cX6_mostAlike 66 = .ok (.ireturn, 1) := by decide +kernel
set_option maxRecDepth 20000 in
theorem ggX6_alikeUpTo_X6_holds : GoodIn wsX6_alikeUpTo wsX6_holds := goodIn_r _ [5] (by decide +kernel) (by decide +kernel)
set_option maxRecDepth 20000 in
theorem gX6_alikeUpTo_X6_holds : GoodIn wsX6_alikeUpTo (va_wsS RX6 180 yX6_holds wsX6_holds) := goodIn_app (goodIn_of _ (by decide +kernel)) ggX6_alikeUpTo_X6_holds
theorem dX6_alikeUpTo_0 : decode cX6_alikeUpTo 0 = .ok (.iconst 0, 1) := by decide +kernel
theorem dX6_alikeUpTo_1 : decode cX6_alikeUpTo 1 = .ok (.istore_n 3, 1) := by decide +kernel
theorem dX6_alikeUpTo_2 : decode cX6_alikeUpTo 2 = .ok (.iconst 0, 1) := by decide +kernel
theorem dX6_alikeUpTo_3 : decode cX6_alikeUpTo 3 = .ok (.istore 4, 2) := by decide +kernel
theorem dX6_alikeUpTo_5 : decode cX6_alikeUpTo 5 = .ok (.iload 4, 2) := by decide +kernel
theorem dX6_alikeUpTo_7 : decode cX6_alikeUpTo 7 = .ok (.iload_n 2, 1) := by decide +kernel
theorem dX6_alikeUpTo_8 : decode cX6_alikeUpTo 8 = .ok (.if_icmp .gt 37, 3) := by decide +kernel
theorem dX6_alikeUpTo_11 : decode cX6_alikeUpTo 11 = .ok (.iload_n 1, 1) := by decide +kernel
theorem dX6_alikeUpTo_12 : decode cX6_alikeUpTo 12 = .ok (.iload 4, 2) := by decide +kernel
theorem dX6_alikeUpTo_14 : decode cX6_alikeUpTo 14 = .ok (.invokestatic 180, 3) := by decide +kernel
theorem dX6_alikeUpTo_17 : decode cX6_alikeUpTo 17 = .ok (.ifCond .eq 22, 3) := by decide +kernel
theorem dX6_alikeUpTo_20 : decode cX6_alikeUpTo 20 = .ok (.aload_n 0, 1) := by decide +kernel
theorem dX6_alikeUpTo_21 : decode cX6_alikeUpTo 21 = .ok (.getfield 54, 3) := by decide +kernel
theorem dX6_alikeUpTo_24 : decode cX6_alikeUpTo 24 = .ok (.iload 4, 2) := by decide +kernel
theorem dX6_alikeUpTo_26 : decode cX6_alikeUpTo 26 = .ok (.iaload, 1) := by decide +kernel
theorem dX6_alikeUpTo_27 : decode cX6_alikeUpTo 27 = .ok (.aload_n 0, 1) := by decide +kernel
theorem dX6_alikeUpTo_28 : decode cX6_alikeUpTo 28 = .ok (.getfield 54, 3) := by decide +kernel
theorem dX6_alikeUpTo_31 : decode cX6_alikeUpTo 31 = .ok (.iload_n 2, 1) := by decide +kernel
theorem dX6_alikeUpTo_32 : decode cX6_alikeUpTo 32 = .ok (.iaload, 1) := by decide +kernel
theorem dX6_alikeUpTo_33 : decode cX6_alikeUpTo 33 = .ok (.if_icmp .ne 6, 3) := by decide +kernel
theorem dX6_alikeUpTo_36 : decode cX6_alikeUpTo 36 = .ok (.iinc 3 1, 3) := by decide +kernel
theorem dX6_alikeUpTo_39 : decode cX6_alikeUpTo 39 = .ok (.iinc 4 1, 3) := by decide +kernel
theorem dX6_alikeUpTo_42 : decode cX6_alikeUpTo 42 = .ok (.goto (-37), 3) := by decide +kernel
theorem dX6_alikeUpTo_45 : decode cX6_alikeUpTo 45 = .ok (.iload_n 3, 1) := by decide +kernel
theorem dX6_alikeUpTo_46 : decode cX6_alikeUpTo 46 = .ok (.ireturn, 1) := by decide +kernel
end
section
theorem dX7_init_0 : decode cX7_init 0 = .ok (.aload_n 0, 1) := by decide +kernel
theorem dX7_init_1 : decode cX7_init 1 = .ok (.invokespecial 1, 3) := by decide +kernel
theorem dX7_init_4 : decode cX7_init 4 = .ok (.aload_n 0, 1) := by decide +kernel
theorem dX7_init_5 : decode cX7_init 5 = .ok (.bipush 41, 2) := by decide +kernel
theorem dX7_init_7 : decode cX7_init 7 = .ok (.newarray .int, 2) := by decide +kernel
theorem dX7_init_9 : decode cX7_init 9 = .ok (.putfield 7, 3) := by decide +kernel
theorem dX7_init_12 : decode cX7_init 12 = .ok (.aload_n 0, 1) := by decide +kernel
theorem dX7_init_13 : decode cX7_init 13 = .ok (.bipush 41, 2) := by decide +kernel
theorem dX7_init_15 : decode cX7_init 15 = .ok (.newarray .int, 2) := by decide +kernel
theorem dX7_init_17 : decode cX7_init 17 = .ok (.putfield 13, 3) := by decide +kernel
theorem dX7_init_20 : decode cX7_init 20 = .ok (.aload_n 0, 1) := by decide +kernel
theorem dX7_init_21 : decode cX7_init 21 = .ok (.sipush 246, 3) := by decide +kernel
theorem dX7_init_24 : decode cX7_init 24 = .ok (.newarray .int, 2) := by decide +kernel
theorem dX7_init_26 : decode cX7_init 26 = .ok (.putfield 16, 3) := by decide +kernel
theorem dX7_init_29 : decode cX7_init 29 = .ok (.aload_n 0, 1) := by decide +kernel
theorem dX7_init_30 : decode cX7_init 30 = .ok (.bipush 82, 2) := by decide +kernel
theorem dX7_init_32 : decode cX7_init 32 = .ok (.newarray .int, 2) := by decide +kernel
theorem dX7_init_34 : decode cX7_init 34 = .ok (.putfield 19, 3) := by decide +kernel
theorem dX7_init_37 : decode cX7_init 37 = .ok (.aload_n 0, 1) := by decide +kernel
theorem dX7_init_38 : decode cX7_init 38 = .ok (.iconst 2, 1) := by decide +kernel
theorem dX7_init_39 : decode cX7_init 39 = .ok (.newarray .boolean, 2) := by decide +kernel
theorem dX7_init_41 : decode cX7_init 41 = .ok (.putfield 22, 3) := by decide +kernel
theorem dX7_init_44 : decode cX7_init 44 = .ok (.aload_n 0, 1) := by decide +kernel
theorem dX7_init_45 : decode cX7_init 45 = .ok (.bipush 6, 2) := by decide +kernel
theorem dX7_init_47 : decode cX7_init 47 = .ok (.newarray .int, 2) := by decide +kernel
theorem dX7_init_49 : decode cX7_init 49 = .ok (.putfield 26, 3) := by decide +kernel
theorem dX7_init_52 : decode cX7_init 52 = .ok (.aload_n 0, 1) := by decide +kernel
theorem dX7_init_53 : decode cX7_init 53 = .ok (.bipush 6, 2) := by decide +kernel
theorem dX7_init_55 : decode cX7_init 55 = .ok (.newarray .int, 2) := by decide +kernel
theorem dX7_init_57 : decode cX7_init 57 = .ok (.putfield 29, 3) := by decide +kernel
theorem dX7_init_60 : decode cX7_init 60 = .ok (.aload_n 0, 1) := by decide +kernel
theorem dX7_init_61 : decode cX7_init 61 = .ok (.bipush 100, 2) := by decide +kernel
theorem dX7_init_63 : decode cX7_init 63 = .ok (.newarray .int, 2) := by decide +kernel
theorem dX7_init_65 : decode cX7_init 65 = .ok (.putfield 32, 3) := by decide +kernel
theorem dX7_init_68 : decode cX7_init 68 = .ok (.aload_n 0, 1) := by decide +kernel
theorem dX7_init_69 : decode cX7_init 69 = .ok (.bipush 8, 2) := by decide +kernel
theorem dX7_init_71 : decode cX7_init 71 = .ok (.newarray .int, 2) := by decide +kernel
theorem dX7_init_73 : decode cX7_init 73 = .ok (.putfield 35, 3) := by decide +kernel
theorem dX7_init_76 : decode cX7_init 76 = .ok (.aload_n 0, 1) := by decide +kernel
theorem dX7_init_77 : decode cX7_init 77 = .ok (.bipush 8, 2) := by decide +kernel
theorem dX7_init_79 : decode cX7_init 79 = .ok (.newarray .int, 2) := by decide +kernel
theorem dX7_init_81 : decode cX7_init 81 = .ok (.putfield 38, 3) := by decide +kernel
theorem dX7_init_84 : decode cX7_init 84 = .ok (.aload_n 0, 1) := by decide +kernel
theorem dX7_init_85 : decode cX7_init 85 = .ok (.bipush 9, 2) := by decide +kernel
theorem dX7_init_87 : decode cX7_init 87 = .ok (.newarray .boolean, 2) := by decide +kernel
theorem dX7_init_89 : decode cX7_init 89 = .ok (.putfield 41, 3) := by decide +kernel
theorem dX7_init_92 : decode cX7_init 92 = .ok (.aload_n 0, 1) := by decide +kernel
theorem dX7_init_93 : decode cX7_init 93 = .ok (.bipush 9, 2) := by decide +kernel
theorem dX7_init_95 : decode cX7_init 95 = .ok (.newarray .int, 2) := by decide +kernel
theorem dX7_init_97 : decode cX7_init 97 = .ok (.putfield 44, 3) := by decide +kernel
theorem dX7_init_100 : decode cX7_init 100 = .ok (.aload_n 0, 1) := by decide +kernel
theorem dX7_init_101 : decode cX7_init 101 = .ok (.getfield 7, 3) := by decide +kernel
theorem dX7_init_104 : decode cX7_init 104 = .ok (.iconst 0, 1) := by decide +kernel
theorem dX7_init_105 : decode cX7_init 105 = .ok (.iconst 1, 1) := by decide +kernel
theorem dX7_init_106 : decode cX7_init 106 = .ok (.iastore, 1) := by decide +kernel
theorem dX7_init_107 : decode cX7_init 107 = .ok (.aload_n 0, 1) := by decide +kernel
theorem dX7_init_108 : decode cX7_init 108 = .ok (.getfield 7, 3) := by decide +kernel
theorem dX7_init_111 : decode cX7_init 111 = .ok (.iconst 1, 1) := by decide +kernel
theorem dX7_init_112 : decode cX7_init 112 = .ok (.iconst 1, 1) := by decide +kernel
theorem dX7_init_113 : decode cX7_init 113 = .ok (.iastore, 1) := by decide +kernel
theorem dX7_init_114 : decode cX7_init 114 = .ok (.aload_n 0, 1) := by decide +kernel
theorem dX7_init_115 : decode cX7_init 115 = .ok (.getfield 7, 3) := by decide +kernel
theorem dX7_init_118 : decode cX7_init 118 = .ok (.iconst 2, 1) := by decide +kernel
theorem dX7_init_119 : decode cX7_init 119 = .ok (.iconst 1, 1) := by decide +kernel
theorem dX7_init_120 : decode cX7_init 120 = .ok (.iastore, 1) := by decide +kernel
theorem dX7_init_121 : decode cX7_init 121 = .ok (.aload_n 0, 1) := by decide +kernel
theorem dX7_init_122 : decode cX7_init 122 = .ok (.getfield 7, 3) := by decide +kernel
theorem dX7_init_125 : decode cX7_init 125 = .ok (.iconst 4, 1) := by decide +kernel
theorem dX7_init_126 : decode cX7_init 126 = .ok (.bipush 99, 2) := by decide +kernel
theorem dX7_init_128 : decode cX7_init 128 = .ok (.iastore, 1) := by decide +kernel
theorem dX7_init_129 : decode cX7_init 129 = .ok (.aload_n 0, 1) := by decide +kernel
theorem dX7_init_130 : decode cX7_init 130 = .ok (.getfield 7, 3) := by decide +kernel
theorem dX7_init_133 : decode cX7_init 133 = .ok (.iconst 5, 1) := by decide +kernel
theorem dX7_init_134 : decode cX7_init 134 = .ok (.iconst 1, 1) := by decide +kernel
theorem dX7_init_135 : decode cX7_init 135 = .ok (.iastore, 1) := by decide +kernel
theorem dX7_init_136 : decode cX7_init 136 = .ok (.return_, 1) := by decide +kernel
theorem dX7_in_0 : decode cX7_in 0 = .ok (.iload_n 0, 1) := by decide +kernel
theorem dX7_in_1 : decode cX7_in 1 = .ok (.iload_n 1, 1) := by decide +kernel
theorem dX7_in_2 : decode cX7_in 2 = .ok (.if_icmp .lt 12, 3) := by decide +kernel
theorem dX7_in_5 : decode cX7_in 5 = .ok (.iload_n 0, 1) := by decide +kernel
theorem dX7_in_6 : decode cX7_in 6 = .ok (.iload_n 2, 1) := by decide +kernel
theorem dX7_in_7 : decode cX7_in 7 = .ok (.if_icmp .gt 7, 3) := by decide +kernel
theorem dX7_in_10 : decode cX7_in 10 = .ok (.iconst 1, 1) := by decide +kernel
theorem dX7_in_11 : decode cX7_in 11 = .ok (.goto 4, 3) := by decide +kernel
theorem dX7_in_14 : decode cX7_in 14 = .ok (.iconst 0, 1) := by decide +kernel
theorem dX7_in_15 : decode cX7_in 15 = .ok (.ireturn, 1) := by decide +kernel
theorem dX7_has_0 : decode cX7_has 0 = .ok (.iload_n 0, 1) := by decide +kernel
theorem dX7_has_1 : decode cX7_has 1 = .ok (.iload_n 1, 1) := by decide +kernel
theorem dX7_has_2 : decode cX7_has 2 = .ok (.ishr, 1) := by decide +kernel
theorem dX7_has_3 : decode cX7_has 3 = .ok (.iconst 1, 1) := by decide +kernel
theorem dX7_has_4 : decode cX7_has 4 = .ok (.iand, 1) := by decide +kernel
theorem dX7_has_5 : decode cX7_has 5 = .ok (.iconst 1, 1) := by decide +kernel
theorem dX7_has_6 : decode cX7_has 6 = .ok (.if_icmp .ne 7, 3) := by decide +kernel
theorem dX7_has_9 : decode cX7_has 9 = .ok (.iconst 1, 1) := by decide +kernel
theorem dX7_has_10 : decode cX7_has 10 = .ok (.goto 4, 3) := by decide +kernel
theorem dX7_has_13 : decode cX7_has 13 = .ok (.iconst 0, 1) := by decide +kernel
theorem dX7_has_14 : decode cX7_has 14 = .ok (.ireturn, 1) := by decide +kernel
set_option maxRecDepth 20000 in
theorem ggX7_isLeaf_X7_in : GoodIn wsX7_isLeaf wsX7_in := goodIn_r _ [5] (by decide +kernel) (by decide +kernel)
set_option maxRecDepth 20000 in
theorem gX7_isLeaf_X7_in : GoodIn wsX7_isLeaf (va_wsS RX7 47 yX7_in wsX7_in) := goodIn_app (goodIn_of _ (by decide +kernel)) ggX7_isLeaf_X7_in
theorem dX7_isLeaf_0 : decode cX7_isLeaf 0 = .ok (.iload_n 1, 1) := by decide +kernel
theorem dX7_isLeaf_1 : decode cX7_isLeaf 1 = .ok (.iconst 0, 1) := by decide +kernel
theorem dX7_isLeaf_2 : decode cX7_isLeaf 2 = .ok (.aload_n 0, 1) := by decide +kernel
theorem dX7_isLeaf_3 : decode cX7_isLeaf 3 = .ok (.getfield 7, 3) := by decide +kernel
theorem dX7_isLeaf_6 : decode cX7_isLeaf 6 = .ok (.iconst 0, 1) := by decide +kernel
theorem dX7_isLeaf_7 : decode cX7_isLeaf 7 = .ok (.iaload, 1) := by decide +kernel
theorem dX7_isLeaf_8 : decode cX7_isLeaf 8 = .ok (.iconst 1, 1) := by decide +kernel
theorem dX7_isLeaf_9 : decode cX7_isLeaf 9 = .ok (.isub, 1) := by decide +kernel
theorem dX7_isLeaf_10 : decode cX7_isLeaf 10 = .ok (.invokestatic 47, 3) := by decide +kernel
theorem dX7_isLeaf_13 : decode cX7_isLeaf 13 = .ok (.ireturn, 1) := by decide +kernel
theorem dX7_of_0 : decode cX7_of 0 = .ok (.aload_n 0, 1) := by decide +kernel
theorem dX7_of_1 : decode cX7_of 1 = .ok (.getfield 7, 3) := by decide +kernel
theorem dX7_of_4 : decode cX7_of 4 = .ok (.iconst 5, 1) := by decide +kernel
theorem dX7_of_5 : decode cX7_of 5 = .ok (.iload_n 1, 1) := by decide +kernel
theorem dX7_of_6 : decode cX7_of 6 = .ok (.imul, 1) := by decide +kernel
theorem dX7_of_7 : decode cX7_of 7 = .ok (.iload_n 2, 1) := by decide +kernel
theorem dX7_of_8 : decode cX7_of 8 = .ok (.iadd, 1) := by decide +kernel
theorem dX7_of_9 : decode cX7_of 9 = .ok (.iaload, 1) := by decide +kernel
theorem dX7_of_10 : decode cX7_of 10 = .ok (.ireturn, 1) := by decide +kernel
set_option maxRecDepth 20000 in
theorem ggX7_isWhole_X7_of : GoodIn wsX7_isWhole wsX7_of := goodIn_r _ [5, 6, 7, 8, 9, 10, 11, 12, 13, 14, 15, 16, 17, 18, 19, 20, 21, 22, 23, 24, 25, 26, 27, 28, 29] (by decide +kernel) (by decide +kernel)
set_option maxRecDepth 20000 in
theorem gX7_isWhole_X7_of : GoodIn wsX7_isWhole (wsV RX7 51 RX7 yX7_of wsX7_of) := goodIn_app (goodIn_of _ (by decide +kernel)) ggX7_isWhole_X7_of
theorem dX7_isWhole_0 : decode cX7_isWhole 0 = .ok (.aload_n 0, 1) := by decide +kernel
theorem dX7_isWhole_1 : decode cX7_isWhole 1 = .ok (.iload_n 1, 1) := by decide +kernel
theorem dX7_isWhole_2 : decode cX7_isWhole 2 = .ok (.iconst 5, 1) := by decide +kernel
theorem dX7_isWhole_3 : decode cX7_isWhole 3 = .ok (.invokevirtual 51, 3) := by decide +kernel
theorem dX7_isWhole_6 : decode cX7_isWhole 6 = .ok (.iconst 1, 1) := by decide +kernel
theorem dX7_isWhole_7 : decode cX7_isWhole 7 = .ok (.if_icmp .ne 7, 3) := by decide +kernel
theorem dX7_isWhole_10 : decode cX7_isWhole 10 = .ok (.iconst 1, 1) := by decide +kernel
theorem dX7_isWhole_11 : decode cX7_isWhole 11 = .ok (.goto 4, 3) := by decide +kernel
theorem dX7_isWhole_14 : decode cX7_isWhole 14 = .ok (.iconst 0, 1) := by decide +kernel
theorem dX7_isWhole_15 : decode cX7_isWhole 15 = .ok (.ireturn, 1) := by decide +kernel
theorem dX7_all_0 : decode cX7_all 0 = .ok (.iconst 1, 1) := by decide +kernel
theorem dX7_all_1 : decode cX7_all 1 = .ok (.aload_n 0, 1) := by decide +kernel
theorem dX7_all_2 : decode cX7_all 2 = .ok (.getfield 7, 3) := by decide +kernel
theorem dX7_all_5 : decode cX7_all 5 = .ok (.iconst 0, 1) := by decide +kernel
theorem dX7_all_6 : decode cX7_all 6 = .ok (.iaload, 1) := by decide +kernel
theorem dX7_all_7 : decode cX7_all 7 = .ok (.ishl, 1) := by decide +kernel
theorem dX7_all_8 : decode cX7_all 8 = .ok (.iconst 1, 1) := by decide +kernel
theorem dX7_all_9 : decode cX7_all 9 = .ok (.isub, 1) := by decide +kernel
theorem dX7_all_10 : decode cX7_all 10 = .ok (.ireturn, 1) := by decide +kernel
set_option maxRecDepth 20000 in
theorem ggX7_whole_X7_isWhole : GoodIn wsX7_whole wsX7_isWhole := goodIn_r _ [6, 7, 8, 9, 5, 10, 1, 11, 12, 13, 14, 15, 16, 17, 18, 19, 20, 21, 22, 23, 24, 25, 26, 27, 28, 29, 30, 31, 32, 33] (by decide +kernel) (by decide +kernel)
set_option maxRecDepth 20000 in
theorem gX7_whole_X7_isWhole : GoodIn wsX7_whole (wsV RX7 55 RX7 yX7_isWhole wsX7_isWhole) := goodIn_app (goodIn_of _ (by decide +kernel)) ggX7_whole_X7_isWhole
theorem dX7_whole_0 : decode cX7_whole 0 = .ok (.iconst 0, 1) := by decide +kernel
theorem dX7_whole_1 : decode cX7_whole 1 = .ok (.istore_n 1, 1) := by decide +kernel
theorem dX7_whole_2 : decode cX7_whole 2 = .ok (.iconst 0, 1) := by decide +kernel
theorem dX7_whole_3 : decode cX7_whole 3 = .ok (.istore_n 2, 1) := by decide +kernel
theorem dX7_whole_4 : decode cX7_whole 4 = .ok (.iload_n 2, 1) := by decide +kernel
theorem dX7_whole_5 : decode cX7_whole 5 = .ok (.aload_n 0, 1) := by decide +kernel
theorem dX7_whole_6 : decode cX7_whole 6 = .ok (.getfield 7, 3) := by decide +kernel
theorem dX7_whole_9 : decode cX7_whole 9 = .ok (.iconst 0, 1) := by decide +kernel
theorem dX7_whole_10 : decode cX7_whole 10 = .ok (.iaload, 1) := by decide +kernel
theorem dX7_whole_11 : decode cX7_whole 11 = .ok (.if_icmp .ge 27, 3) := by decide +kernel
theorem dX7_whole_14 : decode cX7_whole 14 = .ok (.iload_n 1, 1) := by decide +kernel
theorem dX7_whole_15 : decode cX7_whole 15 = .ok (.aload_n 0, 1) := by decide +kernel
theorem dX7_whole_16 : decode cX7_whole 16 = .ok (.iload_n 2, 1) := by decide +kernel
theorem dX7_whole_17 : decode cX7_whole 17 = .ok (.invokevirtual 55, 3) := by decide +kernel
theorem dX7_whole_20 : decode cX7_whole 20 = .ok (.ifCond .eq 9, 3) := by decide +kernel
theorem dX7_whole_23 : decode cX7_whole 23 = .ok (.iconst 1, 1) := by decide +kernel
theorem dX7_whole_24 : decode cX7_whole 24 = .ok (.iload_n 2, 1) := by decide +kernel
theorem dX7_whole_25 : decode cX7_whole 25 = .ok (.ishl, 1) := by decide +kernel
theorem dX7_whole_26 : decode cX7_whole 26 = .ok (.goto 4, 3) := by decide +kernel
theorem dX7_whole_29 : decode cX7_whole 29 = .ok (.iconst 0, 1) := by decide +kernel
theorem dX7_whole_30 : decode cX7_whole 30 = .ok (.ior, 1) := by decide +kernel
theorem dX7_whole_31 : decode cX7_whole 31 = .ok (.istore_n 1, 1) := by decide +kernel
theorem dX7_whole_32 : decode cX7_whole 32 = .ok (.iinc 2 1, 3) := by decide +kernel
theorem dX7_whole_35 : decode cX7_whole 35 = .ok (.goto (-31), 3) := by decide +kernel
theorem dX7_whole_38 : decode cX7_whole 38 = .ok (.iload_n 1, 1) := by decide +kernel
theorem dX7_whole_39 : decode cX7_whole 39 = .ok (.ireturn, 1) := by decide +kernel
set_option maxRecDepth 20000 in
theorem ggX7_ones_X7_has : GoodIn wsX7_ones wsX7_has := goodIn_r _ [4] (by decide +kernel) (by decide +kernel)
set_option maxRecDepth 20000 in
theorem gX7_ones_X7_has : GoodIn wsX7_ones (va_wsS RX7 59 yX7_has wsX7_has) := goodIn_app (goodIn_of _ (by decide +kernel)) ggX7_ones_X7_has
theorem dX7_ones_0 : decode cX7_ones 0 = .ok (.iconst 0, 1) := by decide +kernel
theorem dX7_ones_1 : decode cX7_ones 1 = .ok (.istore_n 1, 1) := by decide +kernel
theorem dX7_ones_2 : decode cX7_ones 2 = .ok (.iconst 0, 1) := by decide +kernel
theorem dX7_ones_3 : decode cX7_ones 3 = .ok (.istore_n 2, 1) := by decide +kernel
theorem dX7_ones_4 : decode cX7_ones 4 = .ok (.iload_n 2, 1) := by decide +kernel
theorem dX7_ones_5 : decode cX7_ones 5 = .ok (.bipush 8, 2) := by decide +kernel
theorem dX7_ones_7 : decode cX7_ones 7 = .ok (.if_icmp .ge 25, 3) := by decide +kernel
theorem dX7_ones_10 : decode cX7_ones 10 = .ok (.iload_n 1, 1) := by decide +kernel
theorem dX7_ones_11 : decode cX7_ones 11 = .ok (.iload_n 0, 1) := by decide +kernel
theorem dX7_ones_12 : decode cX7_ones 12 = .ok (.iload_n 2, 1) := by decide +kernel
theorem dX7_ones_13 : decode cX7_ones 13 = .ok (.invokestatic 59, 3) := by decide +kernel
theorem dX7_ones_16 : decode cX7_ones 16 = .ok (.ifCond .eq 7, 3) := by decide +kernel
theorem dX7_ones_19 : decode cX7_ones 19 = .ok (.iconst 1, 1) := by decide +kernel
theorem dX7_ones_20 : decode cX7_ones 20 = .ok (.goto 4, 3) := by decide +kernel
theorem dX7_ones_23 : decode cX7_ones 23 = .ok (.iconst 0, 1) := by decide +kernel
theorem dX7_ones_24 : decode cX7_ones 24 = .ok (.iadd, 1) := by decide +kernel
theorem dX7_ones_25 : decode cX7_ones 25 = .ok (.istore_n 1, 1) := by decide +kernel
theorem dX7_ones_26 : decode cX7_ones 26 = .ok (.iinc 2 1, 3) := by decide +kernel
theorem dX7_ones_29 : decode cX7_ones 29 = .ok (.goto (-25), 3) := by decide +kernel
theorem dX7_ones_32 : decode cX7_ones 32 = .ok (.iload_n 1, 1) := by decide +kernel
theorem dX7_ones_33 : decode cX7_ones 33 = .ok (.ireturn, 1) := by decide +kernel
set_option maxRecDepth 20000 in
theorem ggX7_type_X7_in : GoodIn wsX7_type wsX7_in := goodIn_r _ [6] (by decide +kernel) (by decide +kernel)
set_option maxRecDepth 20000 in
theorem gX7_type_X7_in : GoodIn wsX7_type (va_wsS RX7 47 yX7_in wsX7_in) := goodIn_app (goodIn_of _ (by decide +kernel)) ggX7_type_X7_in
theorem dX7_type_0 : decode cX7_type 0 = .ok (.iload_n 1, 1) := by decide +kernel
theorem dX7_type_1 : decode cX7_type 1 = .ok (.iconst 0, 1) := by decide +kernel
theorem dX7_type_2 : decode cX7_type 2 = .ok (.sipush 255, 3) := by decide +kernel
theorem dX7_type_5 : decode cX7_type 5 = .ok (.invokestatic 47, 3) := by decide +kernel
theorem dX7_type_8 : decode cX7_type 8 = .ok (.ifCond .ne 5, 3) := by decide +kernel
theorem dX7_type_11 : decode cX7_type 11 = .ok (.iconst (-1), 1) := by decide +kernel
theorem dX7_type_12 : decode cX7_type 12 = .ok (.ireturn, 1) := by decide +kernel
theorem dX7_type_13 : decode cX7_type 13 = .ok (.aload_n 0, 1) := by decide +kernel
theorem dX7_type_14 : decode cX7_type 14 = .ok (.getfield 63, 3) := by decide +kernel
theorem dX7_type_17 : decode cX7_type 17 = .ok (.bipush 100, 2) := by decide +kernel
theorem dX7_type_19 : decode cX7_type 19 = .ok (.if_icmp .ne 6, 3) := by decide +kernel
theorem dX7_type_22 : decode cX7_type 22 = .ok (.bipush (-3), 2) := by decide +kernel
theorem dX7_type_24 : decode cX7_type 24 = .ok (.ireturn, 1) := by decide +kernel
theorem dX7_type_25 : decode cX7_type 25 = .ok (.aload_n 0, 1) := by decide +kernel
theorem dX7_type_26 : decode cX7_type 26 = .ok (.getfield 32, 3) := by decide +kernel
theorem dX7_type_29 : decode cX7_type 29 = .ok (.aload_n 0, 1) := by decide +kernel
theorem dX7_type_30 : decode cX7_type 30 = .ok (.getfield 63, 3) := by decide +kernel
theorem dX7_type_33 : decode cX7_type 33 = .ok (.iload_n 1, 1) := by decide +kernel
theorem dX7_type_34 : decode cX7_type 34 = .ok (.iastore, 1) := by decide +kernel
theorem dX7_type_35 : decode cX7_type 35 = .ok (.aload_n 0, 1) := by decide +kernel
theorem dX7_type_36 : decode cX7_type 36 = .ok (.dup, 1) := by decide +kernel
theorem dX7_type_37 : decode cX7_type 37 = .ok (.getfield 63, 3) := by decide +kernel
theorem dX7_type_40 : decode cX7_type 40 = .ok (.iconst 1, 1) := by decide +kernel
theorem dX7_type_41 : decode cX7_type 41 = .ok (.iadd, 1) := by decide +kernel
theorem dX7_type_42 : decode cX7_type 42 = .ok (.putfield 63, 3) := by decide +kernel
theorem dX7_type_45 : decode cX7_type 45 = .ok (.aload_n 0, 1) := by decide +kernel
theorem dX7_type_46 : decode cX7_type 46 = .ok (.getfield 63, 3) := by decide +kernel
theorem dX7_type_49 : decode cX7_type 49 = .ok (.ireturn, 1) := by decide +kernel
theorem dX7_clear_0 : decode cX7_clear 0 = .ok (.aload_n 0, 1) := by decide +kernel
theorem dX7_clear_1 : decode cX7_clear 1 = .ok (.getfield 63, 3) := by decide +kernel
theorem dX7_clear_4 : decode cX7_clear 4 = .ok (.istore_n 1, 1) := by decide +kernel
theorem dX7_clear_5 : decode cX7_clear 5 = .ok (.aload_n 0, 1) := by decide +kernel
theorem dX7_clear_6 : decode cX7_clear 6 = .ok (.iconst 0, 1) := by decide +kernel
theorem dX7_clear_7 : decode cX7_clear 7 = .ok (.putfield 63, 3) := by decide +kernel
theorem dX7_clear_10 : decode cX7_clear 10 = .ok (.iload_n 1, 1) := by decide +kernel
theorem dX7_clear_11 : decode cX7_clear 11 = .ok (.ireturn, 1) := by decide +kernel
theorem dX7_letterAt_0 : decode cX7_letterAt 0 = .ok (.iload_n 1, 1) := by decide +kernel
theorem dX7_letterAt_1 : decode cX7_letterAt 1 = .ok (.aload_n 0, 1) := by decide +kernel
theorem dX7_letterAt_2 : decode cX7_letterAt 2 = .ok (.getfield 63, 3) := by decide +kernel
theorem dX7_letterAt_5 : decode cX7_letterAt 5 = .ok (.if_icmp .ge 12, 3) := by decide +kernel
theorem dX7_letterAt_8 : decode cX7_letterAt 8 = .ok (.aload_n 0, 1) := by decide +kernel
theorem dX7_letterAt_9 : decode cX7_letterAt 9 = .ok (.getfield 32, 3) := by decide +kernel
theorem dX7_letterAt_12 : decode cX7_letterAt 12 = .ok (.iload_n 1, 1) := by decide +kernel
theorem dX7_letterAt_13 : decode cX7_letterAt 13 = .ok (.iaload, 1) := by decide +kernel
theorem dX7_letterAt_14 : decode cX7_letterAt 14 = .ok (.goto 4, 3) := by decide +kernel
theorem dX7_letterAt_17 : decode cX7_letterAt 17 = .ok (.iconst (-1), 1) := by decide +kernel
theorem dX7_letterAt_18 : decode cX7_letterAt 18 = .ok (.ireturn, 1) := by decide +kernel
set_option maxRecDepth 20000 in
theorem ggX7_isFigure_X7_in : GoodIn wsX7_isFigure wsX7_in := goodIn_r _ [4] (by decide +kernel) (by decide +kernel)
set_option maxRecDepth 20000 in
theorem gX7_isFigure_X7_in : GoodIn wsX7_isFigure (va_wsS RX7 47 yX7_in wsX7_in) := goodIn_app (goodIn_of _ (by decide +kernel)) ggX7_isFigure_X7_in
theorem dX7_isFigure_0 : decode cX7_isFigure 0 = .ok (.iload_n 0, 1) := by decide +kernel
theorem dX7_isFigure_1 : decode cX7_isFigure 1 = .ok (.bipush 48, 2) := by decide +kernel
theorem dX7_isFigure_3 : decode cX7_isFigure 3 = .ok (.bipush 57, 2) := by decide +kernel
theorem dX7_isFigure_5 : decode cX7_isFigure 5 = .ok (.invokestatic 47, 3) := by decide +kernel
theorem dX7_isFigure_8 : decode cX7_isFigure 8 = .ok (.ireturn, 1) := by decide +kernel
set_option maxRecDepth 20000 in
theorem ggX7_token_X7_letterAt : GoodIn wsX7_token wsX7_letterAt := goodIn_r _ [10, 11, 5, 18, 19, 20, 21, 22, 23, 24, 25, 26, 27, 28, 29, 30, 31, 32, 33, 34, 35, 36, 37, 38, 39, 40] (by decide +kernel) (by decide +kernel)
set_option maxRecDepth 20000 in
theorem gX7_token_X7_letterAt : GoodIn wsX7_token (wsV RX7 70 RX7 yX7_letterAt wsX7_letterAt) := goodIn_app (goodIn_of _ (by decide +kernel)) ggX7_token_X7_letterAt
set_option maxRecDepth 20000 in
theorem ggX7_token_X7_isFigure : GoodIn wsX7_token wsX7_isFigure := goodIn_r _ [14, 15, 16, 9, 17] (by decide +kernel) (by decide +kernel)
set_option maxRecDepth 20000 in
theorem gX7_token_X7_isFigure : GoodIn wsX7_token (va_wsS RX7 77 yX7_isFigure wsX7_isFigure) := goodIn_app (goodIn_of _ (by decide +kernel)) ggX7_token_X7_isFigure
theorem dX7_token_0 : decode cX7_token 0 = .ok (.aload_n 0, 1) := by decide +kernel
theorem dX7_token_1 : decode cX7_token 1 = .ok (.aload_n 0, 1) := by decide +kernel
theorem dX7_token_2 : decode cX7_token 2 = .ok (.getfield 67, 3) := by decide +kernel
theorem dX7_token_5 : decode cX7_token 5 = .ok (.invokevirtual 70, 3) := by decide +kernel
theorem dX7_token_8 : decode cX7_token 8 = .ok (.bipush 32, 2) := by decide +kernel
theorem dX7_token_10 : decode cX7_token 10 = .ok (.if_icmp .ne 16, 3) := by decide +kernel
theorem dX7_token_13 : decode cX7_token 13 = .ok (.aload_n 0, 1) := by decide +kernel
theorem dX7_token_14 : decode cX7_token 14 = .ok (.dup, 1) := by decide +kernel
theorem dX7_token_15 : decode cX7_token 15 = .ok (.getfield 67, 3) := by decide +kernel
theorem dX7_token_18 : decode cX7_token 18 = .ok (.iconst 1, 1) := by decide +kernel
theorem dX7_token_19 : decode cX7_token 19 = .ok (.iadd, 1) := by decide +kernel
theorem dX7_token_20 : decode cX7_token 20 = .ok (.putfield 67, 3) := by decide +kernel
theorem dX7_token_23 : decode cX7_token 23 = .ok (.goto (-23), 3) := by decide +kernel
theorem dX7_token_26 : decode cX7_token 26 = .ok (.aload_n 0, 1) := by decide +kernel
theorem dX7_token_27 : decode cX7_token 27 = .ok (.aload_n 0, 1) := by decide +kernel
theorem dX7_token_28 : decode cX7_token 28 = .ok (.getfield 67, 3) := by decide +kernel
theorem dX7_token_31 : decode cX7_token 31 = .ok (.putfield 74, 3) := by decide +kernel
theorem dX7_token_34 : decode cX7_token 34 = .ok (.aload_n 0, 1) := by decide +kernel
theorem dX7_token_35 : decode cX7_token 35 = .ok (.aload_n 0, 1) := by decide +kernel
theorem dX7_token_36 : decode cX7_token 36 = .ok (.getfield 67, 3) := by decide +kernel
theorem dX7_token_39 : decode cX7_token 39 = .ok (.invokevirtual 70, 3) := by decide +kernel
theorem dX7_token_42 : decode cX7_token 42 = .ok (.istore_n 1, 1) := by decide +kernel
theorem dX7_token_43 : decode cX7_token 43 = .ok (.aload_n 0, 1) := by decide +kernel
theorem dX7_token_44 : decode cX7_token 44 = .ok (.iload_n 1, 1) := by decide +kernel
theorem dX7_token_45 : decode cX7_token 45 = .ok (.ifCond .ge 7, 3) := by decide +kernel
theorem dX7_token_48 : decode cX7_token 48 = .ok (.iconst 0, 1) := by decide +kernel
theorem dX7_token_49 : decode cX7_token 49 = .ok (.goto 35, 3) := by decide +kernel
theorem dX7_token_52 : decode cX7_token 52 = .ok (.iload_n 1, 1) := by decide +kernel
theorem dX7_token_53 : decode cX7_token 53 = .ok (.bipush 108, 2) := by decide +kernel
theorem dX7_token_55 : decode cX7_token 55 = .ok (.if_icmp .ne 7, 3) := by decide +kernel
theorem dX7_token_58 : decode cX7_token 58 = .ok (.iconst 1, 1) := by decide +kernel
theorem dX7_token_59 : decode cX7_token 59 = .ok (.goto 25, 3) := by decide +kernel
theorem dX7_token_62 : decode cX7_token 62 = .ok (.iload_n 1, 1) := by decide +kernel
theorem dX7_token_63 : decode cX7_token 63 = .ok (.invokestatic 77, 3) := by decide +kernel
theorem dX7_token_66 : decode cX7_token 66 = .ok (.ifCond .eq 7, 3) := by decide +kernel
theorem dX7_token_69 : decode cX7_token 69 = .ok (.iconst 2, 1) := by decide +kernel
theorem dX7_token_70 : decode cX7_token 70 = .ok (.goto 14, 3) := by decide +kernel
theorem dX7_token_73 : decode cX7_token 73 = .ok (.iload_n 1, 1) := by decide +kernel
theorem dX7_token_74 : decode cX7_token 74 = .ok (.bipush 59, 2) := by decide +kernel
theorem dX7_token_76 : decode cX7_token 76 = .ok (.if_icmp .ne 7, 3) := by decide +kernel
theorem dX7_token_79 : decode cX7_token 79 = .ok (.iconst 3, 1) := by decide +kernel
theorem dX7_token_80 : decode cX7_token 80 = .ok (.goto 4, 3) := by decide +kernel
theorem dX7_token_83 : decode cX7_token 83 = .ok (.iconst 4, 1) := by decide +kernel
theorem dX7_token_84 : decode cX7_token 84 = .ok (.putfield 80, 3) := by decide +kernel
theorem dX7_token_87 : decode cX7_token 87 = .ok (.aload_n 0, 1) := by decide +kernel
theorem dX7_token_88 : decode cX7_token 88 = .ok (.dup, 1) := by decide +kernel
theorem dX7_token_89 : decode cX7_token 89 = .ok (.getfield 67, 3) := by decide +kernel
theorem dX7_token_92 : decode cX7_token 92 = .ok (.iload_n 1, 1) := by decide +kernel
theorem dX7_token_93 : decode cX7_token 93 = .ok (.ifCond .ge 7, 3) := by decide +kernel
theorem dX7_token_96 : decode cX7_token 96 = .ok (.iconst 0, 1) := by decide +kernel
theorem dX7_token_97 : decode cX7_token 97 = .ok (.goto 4, 3) := by decide +kernel
theorem dX7_token_100 : decode cX7_token 100 = .ok (.iconst 1, 1) := by decide +kernel
theorem dX7_token_101 : decode cX7_token 101 = .ok (.iadd, 1) := by decide +kernel
theorem dX7_token_102 : decode cX7_token 102 = .ok (.putfield 67, 3) := by decide +kernel
theorem dX7_token_105 : decode cX7_token 105 = .ok (.aload_n 0, 1) := by decide +kernel
theorem dX7_token_106 : decode cX7_token 106 = .ok (.getfield 80, 3) := by decide +kernel
theorem dX7_token_109 : decode cX7_token 109 = .ok (.iconst 2, 1) := by decide +kernel
theorem dX7_token_110 : decode cX7_token 110 = .ok (.if_icmp .ne 83, 3) := by decide +kernel
theorem dX7_token_113 : decode cX7_token 113 = .ok (.aload_n 0, 1) := by decide +kernel
theorem dX7_token_114 : decode cX7_token 114 = .ok (.iload_n 1, 1) := by decide +kernel
theorem dX7_token_115 : decode cX7_token 115 = .ok (.bipush 48, 2) := by decide +kernel
theorem dX7_token_117 : decode cX7_token 117 = .ok (.isub, 1) := by decide +kernel
theorem dX7_token_118 : decode cX7_token 118 = .ok (.putfield 83, 3) := by decide +kernel
theorem dX7_token_121 : decode cX7_token 121 = .ok (.aload_n 0, 1) := by decide +kernel
theorem dX7_token_122 : decode cX7_token 122 = .ok (.aload_n 0, 1) := by decide +kernel
theorem dX7_token_123 : decode cX7_token 123 = .ok (.getfield 67, 3) := by decide +kernel
theorem dX7_token_126 : decode cX7_token 126 = .ok (.invokevirtual 70, 3) := by decide +kernel
theorem dX7_token_129 : decode cX7_token 129 = .ok (.invokestatic 77, 3) := by decide +kernel
theorem dX7_token_132 : decode cX7_token 132 = .ok (.ifCond .eq 61, 3) := by decide +kernel
theorem dX7_token_135 : decode cX7_token 135 = .ok (.aload_n 0, 1) := by decide +kernel
theorem dX7_token_136 : decode cX7_token 136 = .ok (.iload_n 1, 1) := by decide +kernel
theorem dX7_token_137 : decode cX7_token 137 = .ok (.bipush 48, 2) := by decide +kernel
theorem dX7_token_139 : decode cX7_token 139 = .ok (.if_icmp .eq 12, 3) := by decide +kernel
theorem dX7_token_142 : decode cX7_token 142 = .ok (.aload_n 0, 1) := by decide +kernel
theorem dX7_token_143 : decode cX7_token 143 = .ok (.getfield 83, 3) := by decide +kernel
theorem dX7_token_146 : decode cX7_token 146 = .ok (.bipush 99, 2) := by decide +kernel
theorem dX7_token_148 : decode cX7_token 148 = .ok (.if_icmp .le 9, 3) := by decide +kernel
theorem dX7_token_151 : decode cX7_token 151 = .ok (.sipush 1000, 3) := by decide +kernel
theorem dX7_token_154 : decode cX7_token 154 = .ok (.goto 23, 3) := by decide +kernel
theorem dX7_token_157 : decode cX7_token 157 = .ok (.bipush 10, 2) := by decide +kernel
theorem dX7_token_159 : decode cX7_token 159 = .ok (.aload_n 0, 1) := by decide +kernel
theorem dX7_token_160 : decode cX7_token 160 = .ok (.getfield 83, 3) := by decide +kernel
theorem dX7_token_163 : decode cX7_token 163 = .ok (.imul, 1) := by decide +kernel
theorem dX7_token_164 : decode cX7_token 164 = .ok (.aload_n 0, 1) := by decide +kernel
theorem dX7_token_165 : decode cX7_token 165 = .ok (.getfield 32, 3) := by decide +kernel
theorem dX7_token_168 : decode cX7_token 168 = .ok (.aload_n 0, 1) := by decide +kernel
theorem dX7_token_169 : decode cX7_token 169 = .ok (.getfield 67, 3) := by decide +kernel
theorem dX7_token_172 : decode cX7_token 172 = .ok (.iaload, 1) := by decide +kernel
theorem dX7_token_173 : decode cX7_token 173 = .ok (.iadd, 1) := by decide +kernel
theorem dX7_token_174 : decode cX7_token 174 = .ok (.bipush 48, 2) := by decide +kernel
theorem dX7_token_176 : decode cX7_token 176 = .ok (.isub, 1) := by decide +kernel
theorem dX7_token_177 : decode cX7_token 177 = .ok (.putfield 83, 3) := by decide +kernel
theorem dX7_token_180 : decode cX7_token 180 = .ok (.aload_n 0, 1) := by decide +kernel
theorem dX7_token_181 : decode cX7_token 181 = .ok (.dup, 1) := by decide +kernel
theorem dX7_token_182 : decode cX7_token 182 = .ok (.getfield 67, 3) := by decide +kernel
theorem dX7_token_185 : decode cX7_token 185 = .ok (.iconst 1, 1) := by decide +kernel
theorem dX7_token_186 : decode cX7_token 186 = .ok (.iadd, 1) := by decide +kernel
theorem dX7_token_187 : decode cX7_token 187 = .ok (.putfield 67, 3) := by decide +kernel
theorem dX7_token_190 : decode cX7_token 190 = .ok (.goto (-69), 3) := by decide +kernel
theorem dX7_token_193 : decode cX7_token 193 = .ok (.return_, 1) := by decide +kernel
set_option maxRecDepth 20000 in
theorem ggX7_number_X7_token : GoodIn wsX7_number wsX7_token := goodIn_r _ [8, 9, 10, 3, 2, 11, 12, 13, 14, 7, 15, 16, 17, 18, 19, 20, 21, 22, 23, 24, 25, 26, 27, 28, 29, 30, 31, 32, 33, 34, 35, 36, 37, 38, 39, 40, 41, 42, 43, 44, 45] (by decide +kernel) (by decide +kernel)
set_option maxRecDepth 20000 in
theorem gX7_number_X7_token : GoodIn wsX7_number (wsV RX7 86 RX7 yX7_token wsX7_token) := goodIn_app (goodIn_of _ (by decide +kernel)) ggX7_number_X7_token
set_option maxRecDepth 20000 in
theorem ggX7_number_X7_in : GoodIn wsX7_number wsX7_in := goodIn_r _ [22] (by decide +kernel) (by decide +kernel)
set_option maxRecDepth 20000 in
theorem gX7_number_X7_in : GoodIn wsX7_number (va_wsS RX7 47 yX7_in wsX7_in) := goodIn_app (goodIn_of _ (by decide +kernel)) ggX7_number_X7_in
theorem dX7_number_0 : decode cX7_number 0 = .ok (.aload_n 0, 1) := by decide +kernel
theorem dX7_number_1 : decode cX7_number 1 = .ok (.invokevirtual 86, 3) := by decide +kernel
theorem dX7_number_4 : decode cX7_number 4 = .ok (.aload_n 0, 1) := by decide +kernel
theorem dX7_number_5 : decode cX7_number 5 = .ok (.getfield 13, 3) := by decide +kernel
theorem dX7_number_8 : decode cX7_number 8 = .ok (.iload_n 1, 1) := by decide +kernel
theorem dX7_number_9 : decode cX7_number 9 = .ok (.aload_n 0, 1) := by decide +kernel
theorem dX7_number_10 : decode cX7_number 10 = .ok (.getfield 83, 3) := by decide +kernel
theorem dX7_number_13 : decode cX7_number 13 = .ok (.iastore, 1) := by decide +kernel
theorem dX7_number_14 : decode cX7_number 14 = .ok (.aload_n 0, 1) := by decide +kernel
theorem dX7_number_15 : decode cX7_number 15 = .ok (.getfield 80, 3) := by decide +kernel
theorem dX7_number_18 : decode cX7_number 18 = .ok (.iconst 2, 1) := by decide +kernel
theorem dX7_number_19 : decode cX7_number 19 = .ok (.if_icmp .ne 19, 3) := by decide +kernel
theorem dX7_number_22 : decode cX7_number 22 = .ok (.aload_n 0, 1) := by decide +kernel
theorem dX7_number_23 : decode cX7_number 23 = .ok (.getfield 83, 3) := by decide +kernel
theorem dX7_number_26 : decode cX7_number 26 = .ok (.iload_n 2, 1) := by decide +kernel
theorem dX7_number_27 : decode cX7_number 27 = .ok (.iload_n 3, 1) := by decide +kernel
theorem dX7_number_28 : decode cX7_number 28 = .ok (.invokestatic 47, 3) := by decide +kernel
theorem dX7_number_31 : decode cX7_number 31 = .ok (.ifCond .eq 7, 3) := by decide +kernel
theorem dX7_number_34 : decode cX7_number 34 = .ok (.iconst 1, 1) := by decide +kernel
theorem dX7_number_35 : decode cX7_number 35 = .ok (.goto 4, 3) := by decide +kernel
theorem dX7_number_38 : decode cX7_number 38 = .ok (.iconst 0, 1) := by decide +kernel
theorem dX7_number_39 : decode cX7_number 39 = .ok (.ireturn, 1) := by decide +kernel
set_option maxRecDepth 20000 in
theorem ggX7_readsLeaf_X7_number : GoodIn wsX7_readsLeaf wsX7_number := goodIn_r _ [7, 1, 8, 2, 9, 10, 11, 6, 12, 13, 14, 15, 16, 17, 18, 19, 20, 21, 22, 23, 24, 25, 26, 27, 28, 29, 30, 31, 32, 33, 34, 35, 36, 37, 38, 39, 40, 41, 42, 43, 44, 45, 46, 47, 48, 49] (by decide +kernel) (by decide +kernel)
set_option maxRecDepth 20000 in
theorem gX7_readsLeaf_X7_number : GoodIn wsX7_readsLeaf (wsV RX7 89 RX7 yX7_number wsX7_number) := goodIn_app (goodIn_of _ (by decide +kernel)) ggX7_readsLeaf_X7_number
set_option maxRecDepth 20000 in
theorem ggX7_readsLeaf_X7_token : GoodIn wsX7_readsLeaf wsX7_token := goodIn_r _ [12, 13, 14, 2, 8, 15, 16, 17, 18, 6, 19, 20, 21, 22, 23, 24, 25, 26, 27, 28, 29, 30, 31, 32, 33, 34, 35, 36, 37, 38, 39, 40, 41, 42, 43, 44, 45, 46, 47, 48, 49] (by decide +kernel) (by decide +kernel)
set_option maxRecDepth 20000 in
theorem gX7_readsLeaf_X7_token : GoodIn wsX7_readsLeaf (wsV RX7 86 RX7 yX7_token wsX7_token) := goodIn_app (goodIn_of _ (by decide +kernel)) ggX7_readsLeaf_X7_token
theorem dX7_readsLeaf_0 : decode cX7_readsLeaf 0 = .ok (.aload_n 0, 1) := by decide +kernel
theorem dX7_readsLeaf_1 : decode cX7_readsLeaf 1 = .ok (.getfield 13, 3) := by decide +kernel
theorem dX7_readsLeaf_4 : decode cX7_readsLeaf 4 = .ok (.iconst 0, 1) := by decide +kernel
theorem dX7_readsLeaf_5 : decode cX7_readsLeaf 5 = .ok (.iaload, 1) := by decide +kernel
theorem dX7_readsLeaf_6 : decode cX7_readsLeaf 6 = .ok (.istore_n 1, 1) := by decide +kernel
theorem dX7_readsLeaf_7 : decode cX7_readsLeaf 7 = .ok (.aload_n 0, 1) := by decide +kernel
theorem dX7_readsLeaf_8 : decode cX7_readsLeaf 8 = .ok (.getfield 80, 3) := by decide +kernel
theorem dX7_readsLeaf_11 : decode cX7_readsLeaf 11 = .ok (.iconst 1, 1) := by decide +kernel
theorem dX7_readsLeaf_12 : decode cX7_readsLeaf 12 = .ok (.if_icmp .ne 9, 3) := by decide +kernel
theorem dX7_readsLeaf_15 : decode cX7_readsLeaf 15 = .ok (.iload_n 1, 1) := by decide +kernel
theorem dX7_readsLeaf_16 : decode cX7_readsLeaf 16 = .ok (.bipush 8, 2) := by decide +kernel
theorem dX7_readsLeaf_18 : decode cX7_readsLeaf 18 = .ok (.if_icmp .ne 5, 3) := by decide +kernel
theorem dX7_readsLeaf_21 : decode cX7_readsLeaf 21 = .ok (.iconst 0, 1) := by decide +kernel
theorem dX7_readsLeaf_22 : decode cX7_readsLeaf 22 = .ok (.ireturn, 1) := by decide +kernel
theorem dX7_readsLeaf_23 : decode cX7_readsLeaf 23 = .ok (.iconst 5, 1) := by decide +kernel
theorem dX7_readsLeaf_24 : decode cX7_readsLeaf 24 = .ok (.iload_n 1, 1) := by decide +kernel
theorem dX7_readsLeaf_25 : decode cX7_readsLeaf 25 = .ok (.imul, 1) := by decide +kernel
theorem dX7_readsLeaf_26 : decode cX7_readsLeaf 26 = .ok (.istore_n 2, 1) := by decide +kernel
theorem dX7_readsLeaf_27 : decode cX7_readsLeaf 27 = .ok (.iload_n 1, 1) := by decide +kernel
theorem dX7_readsLeaf_28 : decode cX7_readsLeaf 28 = .ok (.ifCond .ne 8, 3) := by decide +kernel
theorem dX7_readsLeaf_31 : decode cX7_readsLeaf 31 = .ok (.bipush 9, 2) := by decide +kernel
theorem dX7_readsLeaf_33 : decode cX7_readsLeaf 33 = .ok (.goto 13, 3) := by decide +kernel
theorem dX7_readsLeaf_36 : decode cX7_readsLeaf 36 = .ok (.aload_n 0, 1) := by decide +kernel
theorem dX7_readsLeaf_37 : decode cX7_readsLeaf 37 = .ok (.getfield 13, 3) := by decide +kernel
theorem dX7_readsLeaf_40 : decode cX7_readsLeaf 40 = .ok (.iload_n 2, 1) := by decide +kernel
theorem dX7_readsLeaf_41 : decode cX7_readsLeaf 41 = .ok (.iconst 5, 1) := by decide +kernel
theorem dX7_readsLeaf_42 : decode cX7_readsLeaf 42 = .ok (.isub, 1) := by decide +kernel
theorem dX7_readsLeaf_43 : decode cX7_readsLeaf 43 = .ok (.iconst 1, 1) := by decide +kernel
theorem dX7_readsLeaf_44 : decode cX7_readsLeaf 44 = .ok (.iadd, 1) := by decide +kernel
theorem dX7_readsLeaf_45 : decode cX7_readsLeaf 45 = .ok (.iaload, 1) := by decide +kernel
theorem dX7_readsLeaf_46 : decode cX7_readsLeaf 46 = .ok (.istore_n 3, 1) := by decide +kernel
theorem dX7_readsLeaf_47 : decode cX7_readsLeaf 47 = .ok (.aload_n 0, 1) := by decide +kernel
theorem dX7_readsLeaf_48 : decode cX7_readsLeaf 48 = .ok (.iload_n 2, 1) := by decide +kernel
theorem dX7_readsLeaf_49 : decode cX7_readsLeaf 49 = .ok (.iconst 1, 1) := by decide +kernel
theorem dX7_readsLeaf_50 : decode cX7_readsLeaf 50 = .ok (.iadd, 1) := by decide +kernel
theorem dX7_readsLeaf_51 : decode cX7_readsLeaf 51 = .ok (.iconst 1, 1) := by decide +kernel
theorem dX7_readsLeaf_52 : decode cX7_readsLeaf 52 = .ok (.iload_n 3, 1) := by decide +kernel
theorem dX7_readsLeaf_53 : decode cX7_readsLeaf 53 = .ok (.invokevirtual 89, 3) := by decide +kernel
theorem dX7_readsLeaf_56 : decode cX7_readsLeaf 56 = .ok (.ifCond .eq 42, 3) := by decide +kernel
theorem dX7_readsLeaf_59 : decode cX7_readsLeaf 59 = .ok (.aload_n 0, 1) := by decide +kernel
theorem dX7_readsLeaf_60 : decode cX7_readsLeaf 60 = .ok (.iload_n 2, 1) := by decide +kernel
theorem dX7_readsLeaf_61 : decode cX7_readsLeaf 61 = .ok (.iconst 2, 1) := by decide +kernel
theorem dX7_readsLeaf_62 : decode cX7_readsLeaf 62 = .ok (.iadd, 1) := by decide +kernel
theorem dX7_readsLeaf_63 : decode cX7_readsLeaf 63 = .ok (.iconst 1, 1) := by decide +kernel
theorem dX7_readsLeaf_64 : decode cX7_readsLeaf 64 = .ok (.bipush 9, 2) := by decide +kernel
theorem dX7_readsLeaf_66 : decode cX7_readsLeaf 66 = .ok (.invokevirtual 89, 3) := by decide +kernel
theorem dX7_readsLeaf_69 : decode cX7_readsLeaf 69 = .ok (.ifCond .eq 29, 3) := by decide +kernel
theorem dX7_readsLeaf_72 : decode cX7_readsLeaf 72 = .ok (.aload_n 0, 1) := by decide +kernel
theorem dX7_readsLeaf_73 : decode cX7_readsLeaf 73 = .ok (.iload_n 2, 1) := by decide +kernel
theorem dX7_readsLeaf_74 : decode cX7_readsLeaf 74 = .ok (.iconst 3, 1) := by decide +kernel
theorem dX7_readsLeaf_75 : decode cX7_readsLeaf 75 = .ok (.iadd, 1) := by decide +kernel
theorem dX7_readsLeaf_76 : decode cX7_readsLeaf 76 = .ok (.iconst 0, 1) := by decide +kernel
theorem dX7_readsLeaf_77 : decode cX7_readsLeaf 77 = .ok (.bipush 30, 2) := by decide +kernel
theorem dX7_readsLeaf_79 : decode cX7_readsLeaf 79 = .ok (.invokevirtual 89, 3) := by decide +kernel
theorem dX7_readsLeaf_82 : decode cX7_readsLeaf 82 = .ok (.ifCond .eq 16, 3) := by decide +kernel
theorem dX7_readsLeaf_85 : decode cX7_readsLeaf 85 = .ok (.aload_n 0, 1) := by decide +kernel
theorem dX7_readsLeaf_86 : decode cX7_readsLeaf 86 = .ok (.iload_n 2, 1) := by decide +kernel
theorem dX7_readsLeaf_87 : decode cX7_readsLeaf 87 = .ok (.iconst 4, 1) := by decide +kernel
theorem dX7_readsLeaf_88 : decode cX7_readsLeaf 88 = .ok (.iadd, 1) := by decide +kernel
theorem dX7_readsLeaf_89 : decode cX7_readsLeaf 89 = .ok (.iconst 1, 1) := by decide +kernel
theorem dX7_readsLeaf_90 : decode cX7_readsLeaf 90 = .ok (.bipush 99, 2) := by decide +kernel
theorem dX7_readsLeaf_92 : decode cX7_readsLeaf 92 = .ok (.invokevirtual 89, 3) := by decide +kernel
theorem dX7_readsLeaf_95 : decode cX7_readsLeaf 95 = .ok (.ifCond .ne 5, 3) := by decide +kernel
theorem dX7_readsLeaf_98 : decode cX7_readsLeaf 98 = .ok (.iconst 0, 1) := by decide +kernel
theorem dX7_readsLeaf_99 : decode cX7_readsLeaf 99 = .ok (.ireturn, 1) := by decide +kernel
theorem dX7_readsLeaf_100 : decode cX7_readsLeaf 100 = .ok (.aload_n 0, 1) := by decide +kernel
theorem dX7_readsLeaf_101 : decode cX7_readsLeaf 101 = .ok (.getfield 13, 3) := by decide +kernel
theorem dX7_readsLeaf_104 : decode cX7_readsLeaf 104 = .ok (.iload_n 2, 1) := by decide +kernel
theorem dX7_readsLeaf_105 : decode cX7_readsLeaf 105 = .ok (.iconst 5, 1) := by decide +kernel
theorem dX7_readsLeaf_106 : decode cX7_readsLeaf 106 = .ok (.iadd, 1) := by decide +kernel
theorem dX7_readsLeaf_107 : decode cX7_readsLeaf 107 = .ok (.iconst 1, 1) := by decide +kernel
theorem dX7_readsLeaf_108 : decode cX7_readsLeaf 108 = .ok (.iastore, 1) := by decide +kernel
theorem dX7_readsLeaf_109 : decode cX7_readsLeaf 109 = .ok (.aload_n 0, 1) := by decide +kernel
theorem dX7_readsLeaf_110 : decode cX7_readsLeaf 110 = .ok (.getfield 13, 3) := by decide +kernel
theorem dX7_readsLeaf_113 : decode cX7_readsLeaf 113 = .ok (.iconst 0, 1) := by decide +kernel
theorem dX7_readsLeaf_114 : decode cX7_readsLeaf 114 = .ok (.dup2, 1) := by decide +kernel
theorem dX7_readsLeaf_115 : decode cX7_readsLeaf 115 = .ok (.iaload, 1) := by decide +kernel
theorem dX7_readsLeaf_116 : decode cX7_readsLeaf 116 = .ok (.iconst 1, 1) := by decide +kernel
theorem dX7_readsLeaf_117 : decode cX7_readsLeaf 117 = .ok (.iadd, 1) := by decide +kernel
theorem dX7_readsLeaf_118 : decode cX7_readsLeaf 118 = .ok (.iastore, 1) := by decide +kernel
theorem dX7_readsLeaf_119 : decode cX7_readsLeaf 119 = .ok (.aload_n 0, 1) := by decide +kernel
theorem dX7_readsLeaf_120 : decode cX7_readsLeaf 120 = .ok (.invokevirtual 86, 3) := by decide +kernel
theorem dX7_readsLeaf_123 : decode cX7_readsLeaf 123 = .ok (.aload_n 0, 1) := by decide +kernel
theorem dX7_readsLeaf_124 : decode cX7_readsLeaf 124 = .ok (.getfield 80, 3) := by decide +kernel
theorem dX7_readsLeaf_127 : decode cX7_readsLeaf 127 = .ok (.iconst 3, 1) := by decide +kernel
theorem dX7_readsLeaf_128 : decode cX7_readsLeaf 128 = .ok (.if_icmp .ne 7, 3) := by decide +kernel
theorem dX7_readsLeaf_131 : decode cX7_readsLeaf 131 = .ok (.iconst 1, 1) := by decide +kernel
theorem dX7_readsLeaf_132 : decode cX7_readsLeaf 132 = .ok (.goto 4, 3) := by decide +kernel
theorem dX7_readsLeaf_135 : decode cX7_readsLeaf 135 = .ok (.iconst 0, 1) := by decide +kernel
theorem dX7_readsLeaf_136 : decode cX7_readsLeaf 136 = .ok (.ireturn, 1) := by decide +kernel
set_option maxRecDepth 20000 in
theorem ggX7_reads_X7_token : GoodIn wsX7_reads wsX7_token := goodIn_r _ [8, 2, 9, 3, 10, 11, 12, 13, 14, 7, 15, 16, 17, 18, 19, 20, 21, 22, 31, 32, 33, 34, 35, 36, 37, 38, 39, 40, 41, 42, 43, 44, 45, 46, 47, 48, 49, 50, 51, 52, 53] (by decide +kernel) (by decide +kernel)
set_option maxRecDepth 20000 in
theorem gX7_reads_X7_token : GoodIn wsX7_reads (wsV RX7 86 RX7 yX7_token wsX7_token) := goodIn_app (goodIn_of _ (by decide +kernel)) ggX7_reads_X7_token
set_option maxRecDepth 20000 in
theorem ggX7_reads_X7_readsLeaf : GoodIn wsX7_reads wsX7_readsLeaf := goodIn_r _ [26, 1, 3, 27, 28, 29, 7, 30, 10, 4, 5, 6, 8, 2, 9, 11, 12, 13, 14, 15, 16, 17, 18, 19, 20, 21, 22, 31, 32, 33, 34, 35, 36, 37, 38, 39, 40, 41, 42, 43, 44, 45, 46, 47, 48, 49, 50, 51, 52, 53] (by decide +kernel) (by decide +kernel)
set_option maxRecDepth 20000 in
theorem gX7_reads_X7_readsLeaf : GoodIn wsX7_reads (wsV RX7 92 RX7 yX7_readsLeaf wsX7_readsLeaf) := goodIn_app (goodIn_of _ (by decide +kernel)) ggX7_reads_X7_readsLeaf
theorem dX7_reads_0 : decode cX7_reads 0 = .ok (.iconst 0, 1) := by decide +kernel
theorem dX7_reads_1 : decode cX7_reads 1 = .ok (.istore_n 1, 1) := by decide +kernel
theorem dX7_reads_2 : decode cX7_reads 2 = .ok (.iload_n 1, 1) := by decide +kernel
theorem dX7_reads_3 : decode cX7_reads 3 = .ok (.bipush 41, 2) := by decide +kernel
theorem dX7_reads_5 : decode cX7_reads 5 = .ok (.if_icmp .ge 16, 3) := by decide +kernel
theorem dX7_reads_8 : decode cX7_reads 8 = .ok (.aload_n 0, 1) := by decide +kernel
theorem dX7_reads_9 : decode cX7_reads 9 = .ok (.getfield 13, 3) := by decide +kernel
theorem dX7_reads_12 : decode cX7_reads 12 = .ok (.iload_n 1, 1) := by decide +kernel
theorem dX7_reads_13 : decode cX7_reads 13 = .ok (.iconst 0, 1) := by decide +kernel
theorem dX7_reads_14 : decode cX7_reads 14 = .ok (.iastore, 1) := by decide +kernel
theorem dX7_reads_15 : decode cX7_reads 15 = .ok (.iinc 1 1, 3) := by decide +kernel
theorem dX7_reads_18 : decode cX7_reads 18 = .ok (.goto (-16), 3) := by decide +kernel
theorem dX7_reads_21 : decode cX7_reads 21 = .ok (.aload_n 0, 1) := by decide +kernel
theorem dX7_reads_22 : decode cX7_reads 22 = .ok (.iconst 0, 1) := by decide +kernel
theorem dX7_reads_23 : decode cX7_reads 23 = .ok (.putfield 67, 3) := by decide +kernel
theorem dX7_reads_26 : decode cX7_reads 26 = .ok (.aload_n 0, 1) := by decide +kernel
theorem dX7_reads_27 : decode cX7_reads 27 = .ok (.invokevirtual 86, 3) := by decide +kernel
theorem dX7_reads_30 : decode cX7_reads 30 = .ok (.aload_n 0, 1) := by decide +kernel
theorem dX7_reads_31 : decode cX7_reads 31 = .ok (.invokevirtual 92, 3) := by decide +kernel
theorem dX7_reads_34 : decode cX7_reads 34 = .ok (.ifCond .ne 5, 3) := by decide +kernel
theorem dX7_reads_37 : decode cX7_reads 37 = .ok (.iconst 0, 1) := by decide +kernel
theorem dX7_reads_38 : decode cX7_reads 38 = .ok (.ireturn, 1) := by decide +kernel
theorem dX7_reads_39 : decode cX7_reads 39 = .ok (.aload_n 0, 1) := by decide +kernel
theorem dX7_reads_40 : decode cX7_reads 40 = .ok (.invokevirtual 86, 3) := by decide +kernel
theorem dX7_reads_43 : decode cX7_reads 43 = .ok (.aload_n 0, 1) := by decide +kernel
theorem dX7_reads_44 : decode cX7_reads 44 = .ok (.getfield 80, 3) := by decide +kernel
theorem dX7_reads_47 : decode cX7_reads 47 = .ok (.ifCond .ne (-17), 3) := by decide +kernel
theorem dX7_reads_50 : decode cX7_reads 50 = .ok (.iconst 1, 1) := by decide +kernel
theorem dX7_reads_51 : decode cX7_reads 51 = .ok (.ireturn, 1) := by decide +kernel
set_option maxRecDepth 20000 in
theorem ggX7_tells_X7_reads : GoodIn wsX7_tells wsX7_reads := goodIn_r _ [11, 3, 12, 13, 14, 15, 16, 10, 17, 1, 18, 19, 20, 21, 22, 23, 4, 24, 25, 26, 27, 28, 29, 30, 31, 32, 33, 34, 35, 36, 37, 44, 45, 46, 47, 48, 49, 50, 51, 52, 53, 54, 55, 56, 57, 58, 59, 60, 61, 62, 63, 64, 65, 66] (by decide +kernel) (by decide +kernel)
set_option maxRecDepth 20000 in
theorem gX7_tells_X7_reads : GoodIn wsX7_tells (wsV RX7 96 RX7 yX7_reads wsX7_reads) := goodIn_app (goodIn_of _ (by decide +kernel)) ggX7_tells_X7_reads
set_option maxRecDepth 20000 in
theorem ggX7_tells_X7_notes : GoodIn wsX7_tells wsX7_notes := goodIn_r _ [41, 42, 43, 2, 44, 45, 46, 47, 48, 49, 50, 51, 52, 53, 54, 55, 56, 57, 58, 59, 60, 61, 62, 63, 64, 65, 66] (by decide +kernel) (by decide +kernel)
set_option maxRecDepth 20000 in
theorem gX7_tells_X7_notes : GoodIn wsX7_tells (wsV RX7 99 RX7 yX7_notes wsX7_notes) := goodIn_app (goodIn_of _ (by decide +kernel)) ggX7_tells_X7_notes
theorem dX7_tells_0 : decode cX7_tells 0 = .ok (.aload_n 0, 1) := by decide +kernel
theorem dX7_tells_1 : decode cX7_tells 1 = .ok (.invokevirtual 96, 3) := by decide +kernel
theorem dX7_tells_4 : decode cX7_tells 4 = .ok (.ifCond .ne 11, 3) := by decide +kernel
theorem dX7_tells_7 : decode cX7_tells 7 = .ok (.bipush (-10), 2) := by decide +kernel
theorem dX7_tells_9 : decode cX7_tells 9 = .ok (.aload_n 0, 1) := by decide +kernel
theorem dX7_tells_10 : decode cX7_tells 10 = .ok (.getfield 74, 3) := by decide +kernel
theorem dX7_tells_13 : decode cX7_tells 13 = .ok (.isub, 1) := by decide +kernel
theorem dX7_tells_14 : decode cX7_tells 14 = .ok (.ireturn, 1) := by decide +kernel
theorem dX7_tells_15 : decode cX7_tells 15 = .ok (.aload_n 0, 1) := by decide +kernel
theorem dX7_tells_16 : decode cX7_tells 16 = .ok (.invokevirtual 99, 3) := by decide +kernel
theorem dX7_tells_19 : decode cX7_tells 19 = .ok (.iconst 0, 1) := by decide +kernel
theorem dX7_tells_20 : decode cX7_tells 20 = .ok (.istore_n 1, 1) := by decide +kernel
theorem dX7_tells_21 : decode cX7_tells 21 = .ok (.iload_n 1, 1) := by decide +kernel
theorem dX7_tells_22 : decode cX7_tells 22 = .ok (.bipush 41, 2) := by decide +kernel
theorem dX7_tells_24 : decode cX7_tells 24 = .ok (.if_icmp .ge 21, 3) := by decide +kernel
theorem dX7_tells_27 : decode cX7_tells 27 = .ok (.aload_n 0, 1) := by decide +kernel
theorem dX7_tells_28 : decode cX7_tells 28 = .ok (.getfield 7, 3) := by decide +kernel
theorem dX7_tells_31 : decode cX7_tells 31 = .ok (.iload_n 1, 1) := by decide +kernel
theorem dX7_tells_32 : decode cX7_tells 32 = .ok (.aload_n 0, 1) := by decide +kernel
theorem dX7_tells_33 : decode cX7_tells 33 = .ok (.getfield 13, 3) := by decide +kernel
theorem dX7_tells_36 : decode cX7_tells 36 = .ok (.iload_n 1, 1) := by decide +kernel
theorem dX7_tells_37 : decode cX7_tells 37 = .ok (.iaload, 1) := by decide +kernel
theorem dX7_tells_38 : decode cX7_tells 38 = .ok (.iastore, 1) := by decide +kernel
theorem dX7_tells_39 : decode cX7_tells 39 = .ok (.iinc 1 1, 3) := by decide +kernel
theorem dX7_tells_42 : decode cX7_tells 42 = .ok (.goto (-21), 3) := by decide +kernel
theorem dX7_tells_45 : decode cX7_tells 45 = .ok (.aload_n 0, 1) := by decide +kernel
theorem dX7_tells_46 : decode cX7_tells 46 = .ok (.iconst 0, 1) := by decide +kernel
theorem dX7_tells_47 : decode cX7_tells 47 = .ok (.putfield 63, 3) := by decide +kernel
theorem dX7_tells_50 : decode cX7_tells 50 = .ok (.aload_n 0, 1) := by decide +kernel
theorem dX7_tells_51 : decode cX7_tells 51 = .ok (.iconst 0, 1) := by decide +kernel
theorem dX7_tells_52 : decode cX7_tells 52 = .ok (.putfield 102, 3) := by decide +kernel
theorem dX7_tells_55 : decode cX7_tells 55 = .ok (.aload_n 0, 1) := by decide +kernel
theorem dX7_tells_56 : decode cX7_tells 56 = .ok (.getfield 22, 3) := by decide +kernel
theorem dX7_tells_59 : decode cX7_tells 59 = .ok (.iconst 0, 1) := by decide +kernel
theorem dX7_tells_60 : decode cX7_tells 60 = .ok (.iconst 0, 1) := by decide +kernel
theorem dX7_tells_61 : decode cX7_tells 61 = .ok (.bastore, 1) := by decide +kernel
theorem dX7_tells_62 : decode cX7_tells 62 = .ok (.aload_n 0, 1) := by decide +kernel
theorem dX7_tells_63 : decode cX7_tells 63 = .ok (.getfield 22, 3) := by decide +kernel
theorem dX7_tells_66 : decode cX7_tells 66 = .ok (.iconst 1, 1) := by decide +kernel
theorem dX7_tells_67 : decode cX7_tells 67 = .ok (.iconst 0, 1) := by decide +kernel
theorem dX7_tells_68 : decode cX7_tells 68 = .ok (.bastore, 1) := by decide +kernel
theorem dX7_tells_69 : decode cX7_tells 69 = .ok (.aload_n 0, 1) := by decide +kernel
theorem dX7_tells_70 : decode cX7_tells 70 = .ok (.getfield 7, 3) := by decide +kernel
theorem dX7_tells_73 : decode cX7_tells 73 = .ok (.iconst 0, 1) := by decide +kernel
theorem dX7_tells_74 : decode cX7_tells 74 = .ok (.iaload, 1) := by decide +kernel
theorem dX7_tells_75 : decode cX7_tells 75 = .ok (.ireturn, 1) := by decide +kernel
theorem dX7_notes_0 : decode cX7_notes 0 = .ok (.aload_n 0, 1) := by decide +kernel
theorem dX7_notes_1 : decode cX7_notes 1 = .ok (.getfield 105, 3) := by decide +kernel
theorem dX7_notes_4 : decode cX7_notes 4 = .ok (.bipush 6, 2) := by decide +kernel
theorem dX7_notes_6 : decode cX7_notes 6 = .ok (.if_icmp .ne 43, 3) := by decide +kernel
theorem dX7_notes_9 : decode cX7_notes 9 = .ok (.iconst 0, 1) := by decide +kernel
theorem dX7_notes_10 : decode cX7_notes 10 = .ok (.istore_n 1, 1) := by decide +kernel
theorem dX7_notes_11 : decode cX7_notes 11 = .ok (.iload_n 1, 1) := by decide +kernel
theorem dX7_notes_12 : decode cX7_notes 12 = .ok (.sipush 205, 3) := by decide +kernel
theorem dX7_notes_15 : decode cX7_notes 15 = .ok (.if_icmp .ge 24, 3) := by decide +kernel
theorem dX7_notes_18 : decode cX7_notes 18 = .ok (.aload_n 0, 1) := by decide +kernel
theorem dX7_notes_19 : decode cX7_notes 19 = .ok (.getfield 16, 3) := by decide +kernel
theorem dX7_notes_22 : decode cX7_notes 22 = .ok (.iload_n 1, 1) := by decide +kernel
theorem dX7_notes_23 : decode cX7_notes 23 = .ok (.aload_n 0, 1) := by decide +kernel
theorem dX7_notes_24 : decode cX7_notes 24 = .ok (.getfield 16, 3) := by decide +kernel
theorem dX7_notes_27 : decode cX7_notes 27 = .ok (.iload_n 1, 1) := by decide +kernel
theorem dX7_notes_28 : decode cX7_notes 28 = .ok (.bipush 41, 2) := by decide +kernel
theorem dX7_notes_30 : decode cX7_notes 30 = .ok (.iadd, 1) := by decide +kernel
theorem dX7_notes_31 : decode cX7_notes 31 = .ok (.iaload, 1) := by decide +kernel
theorem dX7_notes_32 : decode cX7_notes 32 = .ok (.iastore, 1) := by decide +kernel
theorem dX7_notes_33 : decode cX7_notes 33 = .ok (.iinc 1 1, 3) := by decide +kernel
theorem dX7_notes_36 : decode cX7_notes 36 = .ok (.goto (-25), 3) := by decide +kernel
theorem dX7_notes_39 : decode cX7_notes 39 = .ok (.aload_n 0, 1) := by decide +kernel
theorem dX7_notes_40 : decode cX7_notes 40 = .ok (.dup, 1) := by decide +kernel
theorem dX7_notes_41 : decode cX7_notes 41 = .ok (.getfield 105, 3) := by decide +kernel
theorem dX7_notes_44 : decode cX7_notes 44 = .ok (.iconst 1, 1) := by decide +kernel
theorem dX7_notes_45 : decode cX7_notes 45 = .ok (.isub, 1) := by decide +kernel
theorem dX7_notes_46 : decode cX7_notes 46 = .ok (.putfield 105, 3) := by decide +kernel
theorem dX7_notes_49 : decode cX7_notes 49 = .ok (.iconst 0, 1) := by decide +kernel
theorem dX7_notes_50 : decode cX7_notes 50 = .ok (.istore_n 1, 1) := by decide +kernel
theorem dX7_notes_51 : decode cX7_notes 51 = .ok (.iload_n 1, 1) := by decide +kernel
theorem dX7_notes_52 : decode cX7_notes 52 = .ok (.bipush 41, 2) := by decide +kernel
theorem dX7_notes_54 : decode cX7_notes 54 = .ok (.if_icmp .ge 29, 3) := by decide +kernel
theorem dX7_notes_57 : decode cX7_notes 57 = .ok (.aload_n 0, 1) := by decide +kernel
theorem dX7_notes_58 : decode cX7_notes 58 = .ok (.getfield 16, 3) := by decide +kernel
theorem dX7_notes_61 : decode cX7_notes 61 = .ok (.bipush 41, 2) := by decide +kernel
theorem dX7_notes_63 : decode cX7_notes 63 = .ok (.aload_n 0, 1) := by decide +kernel
theorem dX7_notes_64 : decode cX7_notes 64 = .ok (.getfield 105, 3) := by decide +kernel
theorem dX7_notes_67 : decode cX7_notes 67 = .ok (.imul, 1) := by decide +kernel
theorem dX7_notes_68 : decode cX7_notes 68 = .ok (.iload_n 1, 1) := by decide +kernel
theorem dX7_notes_69 : decode cX7_notes 69 = .ok (.iadd, 1) := by decide +kernel
theorem dX7_notes_70 : decode cX7_notes 70 = .ok (.aload_n 0, 1) := by decide +kernel
theorem dX7_notes_71 : decode cX7_notes 71 = .ok (.getfield 7, 3) := by decide +kernel
theorem dX7_notes_74 : decode cX7_notes 74 = .ok (.iload_n 1, 1) := by decide +kernel
theorem dX7_notes_75 : decode cX7_notes 75 = .ok (.iaload, 1) := by decide +kernel
theorem dX7_notes_76 : decode cX7_notes 76 = .ok (.iastore, 1) := by decide +kernel
theorem dX7_notes_77 : decode cX7_notes 77 = .ok (.iinc 1 1, 3) := by decide +kernel
theorem dX7_notes_80 : decode cX7_notes 80 = .ok (.goto (-29), 3) := by decide +kernel
theorem dX7_notes_83 : decode cX7_notes 83 = .ok (.aload_n 0, 1) := by decide +kernel
theorem dX7_notes_84 : decode cX7_notes 84 = .ok (.dup, 1) := by decide +kernel
theorem dX7_notes_85 : decode cX7_notes 85 = .ok (.getfield 105, 3) := by decide +kernel
theorem dX7_notes_88 : decode cX7_notes 88 = .ok (.iconst 1, 1) := by decide +kernel
theorem dX7_notes_89 : decode cX7_notes 89 = .ok (.iadd, 1) := by decide +kernel
theorem dX7_notes_90 : decode cX7_notes 90 = .ok (.putfield 105, 3) := by decide +kernel
theorem dX7_notes_93 : decode cX7_notes 93 = .ok (.return_, 1) := by decide +kernel
theorem dX7_undo_0 : decode cX7_undo 0 = .ok (.aload_n 0, 1) := by decide +kernel
theorem dX7_undo_1 : decode cX7_undo 1 = .ok (.getfield 105, 3) := by decide +kernel
theorem dX7_undo_4 : decode cX7_undo 4 = .ok (.ifCond .ne 6, 3) := by decide +kernel
theorem dX7_undo_7 : decode cX7_undo 7 = .ok (.bipush (-2), 2) := by decide +kernel
theorem dX7_undo_9 : decode cX7_undo 9 = .ok (.ireturn, 1) := by decide +kernel
theorem dX7_undo_10 : decode cX7_undo 10 = .ok (.aload_n 0, 1) := by decide +kernel
theorem dX7_undo_11 : decode cX7_undo 11 = .ok (.dup, 1) := by decide +kernel
theorem dX7_undo_12 : decode cX7_undo 12 = .ok (.getfield 105, 3) := by decide +kernel
theorem dX7_undo_15 : decode cX7_undo 15 = .ok (.iconst 1, 1) := by decide +kernel
theorem dX7_undo_16 : decode cX7_undo 16 = .ok (.isub, 1) := by decide +kernel
theorem dX7_undo_17 : decode cX7_undo 17 = .ok (.putfield 105, 3) := by decide +kernel
theorem dX7_undo_20 : decode cX7_undo 20 = .ok (.iconst 0, 1) := by decide +kernel
theorem dX7_undo_21 : decode cX7_undo 21 = .ok (.istore_n 1, 1) := by decide +kernel
theorem dX7_undo_22 : decode cX7_undo 22 = .ok (.iload_n 1, 1) := by decide +kernel
theorem dX7_undo_23 : decode cX7_undo 23 = .ok (.bipush 41, 2) := by decide +kernel
theorem dX7_undo_25 : decode cX7_undo 25 = .ok (.if_icmp .ge 29, 3) := by decide +kernel
theorem dX7_undo_28 : decode cX7_undo 28 = .ok (.aload_n 0, 1) := by decide +kernel
theorem dX7_undo_29 : decode cX7_undo 29 = .ok (.getfield 7, 3) := by decide +kernel
theorem dX7_undo_32 : decode cX7_undo 32 = .ok (.iload_n 1, 1) := by decide +kernel
theorem dX7_undo_33 : decode cX7_undo 33 = .ok (.aload_n 0, 1) := by decide +kernel
theorem dX7_undo_34 : decode cX7_undo 34 = .ok (.getfield 16, 3) := by decide +kernel
theorem dX7_undo_37 : decode cX7_undo 37 = .ok (.bipush 41, 2) := by decide +kernel
theorem dX7_undo_39 : decode cX7_undo 39 = .ok (.aload_n 0, 1) := by decide +kernel
theorem dX7_undo_40 : decode cX7_undo 40 = .ok (.getfield 105, 3) := by decide +kernel
theorem dX7_undo_43 : decode cX7_undo 43 = .ok (.imul, 1) := by decide +kernel
theorem dX7_undo_44 : decode cX7_undo 44 = .ok (.iload_n 1, 1) := by decide +kernel
theorem dX7_undo_45 : decode cX7_undo 45 = .ok (.iadd, 1) := by decide +kernel
theorem dX7_undo_46 : decode cX7_undo 46 = .ok (.iaload, 1) := by decide +kernel
theorem dX7_undo_47 : decode cX7_undo 47 = .ok (.iastore, 1) := by decide +kernel
theorem dX7_undo_48 : decode cX7_undo 48 = .ok (.iinc 1 1, 3) := by decide +kernel
theorem dX7_undo_51 : decode cX7_undo 51 = .ok (.goto (-29), 3) := by decide +kernel
theorem dX7_undo_54 : decode cX7_undo 54 = .ok (.aload_n 0, 1) := by decide +kernel
theorem dX7_undo_55 : decode cX7_undo 55 = .ok (.getfield 105, 3) := by decide +kernel
theorem dX7_undo_58 : decode cX7_undo 58 = .ok (.ireturn, 1) := by decide +kernel
set_option maxRecDepth 20000 in
theorem ggX7_reaches_X7_has : GoodIn wsX7_reaches wsX7_has := goodIn_r _ [7] (by decide +kernel) (by decide +kernel)
set_option maxRecDepth 20000 in
theorem gX7_reaches_X7_has : GoodIn wsX7_reaches (va_wsS RX7 59 yX7_has wsX7_has) := goodIn_app (goodIn_of _ (by decide +kernel)) ggX7_reaches_X7_has
set_option maxRecDepth 20000 in
theorem ggX7_reaches_X7_of : GoodIn wsX7_reaches wsX7_of := goodIn_r _ [11, 1, 12, 13, 14, 15, 16, 17, 18, 19, 20, 21, 22, 23, 24, 25, 26, 27, 28, 29, 30, 31, 32, 33, 34] (by decide +kernel) (by decide +kernel)
set_option maxRecDepth 20000 in
theorem gX7_reaches_X7_of : GoodIn wsX7_reaches (wsV RX7 51 RX7 yX7_of wsX7_of) := goodIn_app (goodIn_of _ (by decide +kernel)) ggX7_reaches_X7_of
theorem dX7_reaches_0 : decode cX7_reaches 0 = .ok (.bipush (-9), 2) := by decide +kernel
theorem dX7_reaches_2 : decode cX7_reaches 2 = .ok (.istore_n 2, 1) := by decide +kernel
theorem dX7_reaches_3 : decode cX7_reaches 3 = .ok (.iconst 0, 1) := by decide +kernel
theorem dX7_reaches_4 : decode cX7_reaches 4 = .ok (.istore_n 3, 1) := by decide +kernel
theorem dX7_reaches_5 : decode cX7_reaches 5 = .ok (.iconst 0, 1) := by decide +kernel
theorem dX7_reaches_6 : decode cX7_reaches 6 = .ok (.istore 4, 2) := by decide +kernel
theorem dX7_reaches_8 : decode cX7_reaches 8 = .ok (.iload 4, 2) := by decide +kernel
theorem dX7_reaches_10 : decode cX7_reaches 10 = .ok (.aload_n 0, 1) := by decide +kernel
theorem dX7_reaches_11 : decode cX7_reaches 11 = .ok (.getfield 7, 3) := by decide +kernel
theorem dX7_reaches_14 : decode cX7_reaches 14 = .ok (.iconst 0, 1) := by decide +kernel
theorem dX7_reaches_15 : decode cX7_reaches 15 = .ok (.iaload, 1) := by decide +kernel
theorem dX7_reaches_16 : decode cX7_reaches 16 = .ok (.if_icmp .ge 91, 3) := by decide +kernel
theorem dX7_reaches_19 : decode cX7_reaches 19 = .ok (.iload_n 1, 1) := by decide +kernel
theorem dX7_reaches_20 : decode cX7_reaches 20 = .ok (.iload 4, 2) := by decide +kernel
theorem dX7_reaches_22 : decode cX7_reaches 22 = .ok (.invokestatic 59, 3) := by decide +kernel
theorem dX7_reaches_25 : decode cX7_reaches 25 = .ok (.ifCond .eq 76, 3) := by decide +kernel
theorem dX7_reaches_28 : decode cX7_reaches 28 = .ok (.iload_n 2, 1) := by decide +kernel
theorem dX7_reaches_29 : decode cX7_reaches 29 = .ok (.bipush (-9), 2) := by decide +kernel
theorem dX7_reaches_31 : decode cX7_reaches 31 = .ok (.if_icmp .ne 7, 3) := by decide +kernel
theorem dX7_reaches_34 : decode cX7_reaches 34 = .ok (.iconst 0, 1) := by decide +kernel
theorem dX7_reaches_35 : decode cX7_reaches 35 = .ok (.goto 25, 3) := by decide +kernel
theorem dX7_reaches_38 : decode cX7_reaches 38 = .ok (.aload_n 0, 1) := by decide +kernel
theorem dX7_reaches_39 : decode cX7_reaches 39 = .ok (.iload_n 2, 1) := by decide +kernel
theorem dX7_reaches_40 : decode cX7_reaches 40 = .ok (.ifCond .ge 7, 3) := by decide +kernel
theorem dX7_reaches_43 : decode cX7_reaches 43 = .ok (.iconst 0, 1) := by decide +kernel
theorem dX7_reaches_44 : decode cX7_reaches 44 = .ok (.goto 4, 3) := by decide +kernel
theorem dX7_reaches_47 : decode cX7_reaches 47 = .ok (.iload_n 2, 1) := by decide +kernel
theorem dX7_reaches_48 : decode cX7_reaches 48 = .ok (.iconst 3, 1) := by decide +kernel
theorem dX7_reaches_49 : decode cX7_reaches 49 = .ok (.invokevirtual 51, 3) := by decide +kernel
theorem dX7_reaches_52 : decode cX7_reaches 52 = .ok (.aload_n 0, 1) := by decide +kernel
theorem dX7_reaches_53 : decode cX7_reaches 53 = .ok (.iload 4, 2) := by decide +kernel
theorem dX7_reaches_55 : decode cX7_reaches 55 = .ok (.iconst 3, 1) := by decide +kernel
theorem dX7_reaches_56 : decode cX7_reaches 56 = .ok (.invokevirtual 51, 3) := by decide +kernel
theorem dX7_reaches_59 : decode cX7_reaches 59 = .ok (.isub, 1) := by decide +kernel
theorem dX7_reaches_60 : decode cX7_reaches 60 = .ok (.istore 5, 2) := by decide +kernel
theorem dX7_reaches_62 : decode cX7_reaches 62 = .ok (.aload_n 0, 1) := by decide +kernel
theorem dX7_reaches_63 : decode cX7_reaches 63 = .ok (.getfield 35, 3) := by decide +kernel
theorem dX7_reaches_66 : decode cX7_reaches 66 = .ok (.iload 4, 2) := by decide +kernel
theorem dX7_reaches_68 : decode cX7_reaches 68 = .ok (.iload 5, 2) := by decide +kernel
theorem dX7_reaches_70 : decode cX7_reaches 70 = .ok (.ifCond .ge 7, 3) := by decide +kernel
theorem dX7_reaches_73 : decode cX7_reaches 73 = .ok (.iconst 0, 1) := by decide +kernel
theorem dX7_reaches_74 : decode cX7_reaches 74 = .ok (.goto 5, 3) := by decide +kernel
theorem dX7_reaches_77 : decode cX7_reaches 77 = .ok (.iload 5, 2) := by decide +kernel
theorem dX7_reaches_79 : decode cX7_reaches 79 = .ok (.iastore, 1) := by decide +kernel
theorem dX7_reaches_80 : decode cX7_reaches 80 = .ok (.iload_n 3, 1) := by decide +kernel
theorem dX7_reaches_81 : decode cX7_reaches 81 = .ok (.aload_n 0, 1) := by decide +kernel
theorem dX7_reaches_82 : decode cX7_reaches 82 = .ok (.getfield 35, 3) := by decide +kernel
theorem dX7_reaches_85 : decode cX7_reaches 85 = .ok (.iload 4, 2) := by decide +kernel
theorem dX7_reaches_87 : decode cX7_reaches 87 = .ok (.iaload, 1) := by decide +kernel
theorem dX7_reaches_88 : decode cX7_reaches 88 = .ok (.iadd, 1) := by decide +kernel
theorem dX7_reaches_89 : decode cX7_reaches 89 = .ok (.istore_n 3, 1) := by decide +kernel
theorem dX7_reaches_90 : decode cX7_reaches 90 = .ok (.aload_n 0, 1) := by decide +kernel
theorem dX7_reaches_91 : decode cX7_reaches 91 = .ok (.getfield 38, 3) := by decide +kernel
theorem dX7_reaches_94 : decode cX7_reaches 94 = .ok (.iload 4, 2) := by decide +kernel
theorem dX7_reaches_96 : decode cX7_reaches 96 = .ok (.iload_n 3, 1) := by decide +kernel
theorem dX7_reaches_97 : decode cX7_reaches 97 = .ok (.iastore, 1) := by decide +kernel
theorem dX7_reaches_98 : decode cX7_reaches 98 = .ok (.iload 4, 2) := by decide +kernel
theorem dX7_reaches_100 : decode cX7_reaches 100 = .ok (.istore_n 2, 1) := by decide +kernel
theorem dX7_reaches_101 : decode cX7_reaches 101 = .ok (.iinc 4 1, 3) := by decide +kernel
theorem dX7_reaches_104 : decode cX7_reaches 104 = .ok (.goto (-96), 3) := by decide +kernel
theorem dX7_reaches_107 : decode cX7_reaches 107 = .ok (.return_, 1) := by decide +kernel
set_option maxRecDepth 20000 in
theorem ggX7_bends_X7_reaches : GoodIn wsX7_bends wsX7_reaches := goodIn_r _ [11, 5, 12, 6, 13, 14, 10, 15, 16, 17, 18, 19, 20, 21, 22, 23, 24, 25, 26, 27, 28, 29, 30, 31, 32, 33, 34, 35, 36, 37, 38, 39, 40, 41, 42] (by decide +kernel) (by decide +kernel)
set_option maxRecDepth 20000 in
theorem gX7_bends_X7_reaches : GoodIn wsX7_bends (wsV RX7 108 RX7 yX7_reaches wsX7_reaches) := goodIn_app (goodIn_of _ (by decide +kernel)) ggX7_bends_X7_reaches
set_option maxRecDepth 20000 in
theorem ggX7_bends_X7_has : GoodIn wsX7_bends wsX7_has := goodIn_r _ [15] (by decide +kernel) (by decide +kernel)
set_option maxRecDepth 20000 in
theorem gX7_bends_X7_has : GoodIn wsX7_bends (va_wsS RX7 59 yX7_has wsX7_has) := goodIn_app (goodIn_of _ (by decide +kernel)) ggX7_bends_X7_has
set_option maxRecDepth 20000 in
theorem ggX7_bends_X7_of : GoodIn wsX7_bends wsX7_of := goodIn_r _ [19, 5, 20, 21, 22, 23, 24, 25, 26, 27, 28, 29, 30, 31, 32, 33, 34, 35, 36, 37, 38, 39, 40, 41, 42] (by decide +kernel) (by decide +kernel)
set_option maxRecDepth 20000 in
theorem gX7_bends_X7_of : GoodIn wsX7_bends (wsV RX7 51 RX7 yX7_of wsX7_of) := goodIn_app (goodIn_of _ (by decide +kernel)) ggX7_bends_X7_of
theorem dX7_bends_0 : decode cX7_bends 0 = .ok (.aload_n 0, 1) := by decide +kernel
theorem dX7_bends_1 : decode cX7_bends 1 = .ok (.iload_n 1, 1) := by decide +kernel
theorem dX7_bends_2 : decode cX7_bends 2 = .ok (.invokevirtual 108, 3) := by decide +kernel
theorem dX7_bends_5 : decode cX7_bends 5 = .ok (.aload_n 0, 1) := by decide +kernel
theorem dX7_bends_6 : decode cX7_bends 6 = .ok (.iconst 0, 1) := by decide +kernel
theorem dX7_bends_7 : decode cX7_bends 7 = .ok (.putfield 112, 3) := by decide +kernel
theorem dX7_bends_10 : decode cX7_bends 10 = .ok (.aload_n 0, 1) := by decide +kernel
theorem dX7_bends_11 : decode cX7_bends 11 = .ok (.iconst 1, 1) := by decide +kernel
theorem dX7_bends_12 : decode cX7_bends 12 = .ok (.putfield 115, 3) := by decide +kernel
theorem dX7_bends_15 : decode cX7_bends 15 = .ok (.aload_n 0, 1) := by decide +kernel
theorem dX7_bends_16 : decode cX7_bends 16 = .ok (.iconst 0, 1) := by decide +kernel
theorem dX7_bends_17 : decode cX7_bends 17 = .ok (.putfield 118, 3) := by decide +kernel
theorem dX7_bends_20 : decode cX7_bends 20 = .ok (.aload_n 0, 1) := by decide +kernel
theorem dX7_bends_21 : decode cX7_bends 21 = .ok (.iload_n 3, 1) := by decide +kernel
theorem dX7_bends_22 : decode cX7_bends 22 = .ok (.ifCond .eq 7, 3) := by decide +kernel
theorem dX7_bends_25 : decode cX7_bends 25 = .ok (.iload_n 2, 1) := by decide +kernel
theorem dX7_bends_26 : decode cX7_bends 26 = .ok (.ifCond .eq 7, 3) := by decide +kernel
theorem dX7_bends_29 : decode cX7_bends 29 = .ok (.iconst 1, 1) := by decide +kernel
theorem dX7_bends_30 : decode cX7_bends 30 = .ok (.goto 4, 3) := by decide +kernel
theorem dX7_bends_33 : decode cX7_bends 33 = .ok (.iconst 0, 1) := by decide +kernel
theorem dX7_bends_34 : decode cX7_bends 34 = .ok (.putfield 121, 3) := by decide +kernel
theorem dX7_bends_37 : decode cX7_bends 37 = .ok (.iconst 0, 1) := by decide +kernel
theorem dX7_bends_38 : decode cX7_bends 38 = .ok (.istore 4, 2) := by decide +kernel
theorem dX7_bends_40 : decode cX7_bends 40 = .ok (.iconst 0, 1) := by decide +kernel
theorem dX7_bends_41 : decode cX7_bends 41 = .ok (.istore 5, 2) := by decide +kernel
theorem dX7_bends_43 : decode cX7_bends 43 = .ok (.iconst 0, 1) := by decide +kernel
theorem dX7_bends_44 : decode cX7_bends 44 = .ok (.istore 6, 2) := by decide +kernel
theorem dX7_bends_46 : decode cX7_bends 46 = .ok (.iload 6, 2) := by decide +kernel
theorem dX7_bends_48 : decode cX7_bends 48 = .ok (.aload_n 0, 1) := by decide +kernel
theorem dX7_bends_49 : decode cX7_bends 49 = .ok (.getfield 7, 3) := by decide +kernel
theorem dX7_bends_52 : decode cX7_bends 52 = .ok (.iconst 0, 1) := by decide +kernel
theorem dX7_bends_53 : decode cX7_bends 53 = .ok (.iaload, 1) := by decide +kernel
theorem dX7_bends_54 : decode cX7_bends 54 = .ok (.if_icmp .ge 108, 3) := by decide +kernel
theorem dX7_bends_57 : decode cX7_bends 57 = .ok (.iload_n 3, 1) := by decide +kernel
theorem dX7_bends_58 : decode cX7_bends 58 = .ok (.ifCond .le 104, 3) := by decide +kernel
theorem dX7_bends_61 : decode cX7_bends 61 = .ok (.iload_n 2, 1) := by decide +kernel
theorem dX7_bends_62 : decode cX7_bends 62 = .ok (.iload 6, 2) := by decide +kernel
theorem dX7_bends_64 : decode cX7_bends 64 = .ok (.invokestatic 59, 3) := by decide +kernel
theorem dX7_bends_67 : decode cX7_bends 67 = .ok (.ifCond .eq 29, 3) := by decide +kernel
theorem dX7_bends_70 : decode cX7_bends 70 = .ok (.iload 5, 2) := by decide +kernel
theorem dX7_bends_72 : decode cX7_bends 72 = .ok (.ifCond .eq 20, 3) := by decide +kernel
theorem dX7_bends_75 : decode cX7_bends 75 = .ok (.iload_n 3, 1) := by decide +kernel
theorem dX7_bends_76 : decode cX7_bends 76 = .ok (.iload 4, 2) := by decide +kernel
theorem dX7_bends_78 : decode cX7_bends 78 = .ok (.iadd, 1) := by decide +kernel
theorem dX7_bends_79 : decode cX7_bends 79 = .ok (.aload_n 0, 1) := by decide +kernel
theorem dX7_bends_80 : decode cX7_bends 80 = .ok (.getfield 38, 3) := by decide +kernel
theorem dX7_bends_83 : decode cX7_bends 83 = .ok (.iload 6, 2) := by decide +kernel
theorem dX7_bends_85 : decode cX7_bends 85 = .ok (.iaload, 1) := by decide +kernel
theorem dX7_bends_86 : decode cX7_bends 86 = .ok (.iload 5, 2) := by decide +kernel
theorem dX7_bends_88 : decode cX7_bends 88 = .ok (.imul, 1) := by decide +kernel
theorem dX7_bends_89 : decode cX7_bends 89 = .ok (.if_icmp .le 7, 3) := by decide +kernel
theorem dX7_bends_92 : decode cX7_bends 92 = .ok (.iconst 1, 1) := by decide +kernel
theorem dX7_bends_93 : decode cX7_bends 93 = .ok (.goto 4, 3) := by decide +kernel
theorem dX7_bends_96 : decode cX7_bends 96 = .ok (.iconst 0, 1) := by decide +kernel
theorem dX7_bends_97 : decode cX7_bends 97 = .ok (.istore 7, 2) := by decide +kernel
theorem dX7_bends_99 : decode cX7_bends 99 = .ok (.iload 7, 2) := by decide +kernel
theorem dX7_bends_101 : decode cX7_bends 101 = .ok (.ifCond .eq 55, 3) := by decide +kernel
theorem dX7_bends_104 : decode cX7_bends 104 = .ok (.iload 5, 2) := by decide +kernel
theorem dX7_bends_106 : decode cX7_bends 106 = .ok (.aload_n 0, 1) := by decide +kernel
theorem dX7_bends_107 : decode cX7_bends 107 = .ok (.iload 6, 2) := by decide +kernel
theorem dX7_bends_109 : decode cX7_bends 109 = .ok (.iconst 2, 1) := by decide +kernel
theorem dX7_bends_110 : decode cX7_bends 110 = .ok (.invokevirtual 51, 3) := by decide +kernel
theorem dX7_bends_113 : decode cX7_bends 113 = .ok (.iadd, 1) := by decide +kernel
theorem dX7_bends_114 : decode cX7_bends 114 = .ok (.istore 5, 2) := by decide +kernel
theorem dX7_bends_116 : decode cX7_bends 116 = .ok (.iload 4, 2) := by decide +kernel
theorem dX7_bends_118 : decode cX7_bends 118 = .ok (.aload_n 0, 1) := by decide +kernel
theorem dX7_bends_119 : decode cX7_bends 119 = .ok (.iload 6, 2) := by decide +kernel
theorem dX7_bends_121 : decode cX7_bends 121 = .ok (.iconst 2, 1) := by decide +kernel
theorem dX7_bends_122 : decode cX7_bends 122 = .ok (.invokevirtual 51, 3) := by decide +kernel
theorem dX7_bends_125 : decode cX7_bends 125 = .ok (.aload_n 0, 1) := by decide +kernel
theorem dX7_bends_126 : decode cX7_bends 126 = .ok (.getfield 38, 3) := by decide +kernel
theorem dX7_bends_129 : decode cX7_bends 129 = .ok (.iload 6, 2) := by decide +kernel
theorem dX7_bends_131 : decode cX7_bends 131 = .ok (.iaload, 1) := by decide +kernel
theorem dX7_bends_132 : decode cX7_bends 132 = .ok (.imul, 1) := by decide +kernel
theorem dX7_bends_133 : decode cX7_bends 133 = .ok (.iadd, 1) := by decide +kernel
theorem dX7_bends_134 : decode cX7_bends 134 = .ok (.istore 4, 2) := by decide +kernel
theorem dX7_bends_136 : decode cX7_bends 136 = .ok (.aload_n 0, 1) := by decide +kernel
theorem dX7_bends_137 : decode cX7_bends 137 = .ok (.iload_n 3, 1) := by decide +kernel
theorem dX7_bends_138 : decode cX7_bends 138 = .ok (.iload 4, 2) := by decide +kernel
theorem dX7_bends_140 : decode cX7_bends 140 = .ok (.iadd, 1) := by decide +kernel
theorem dX7_bends_141 : decode cX7_bends 141 = .ok (.putfield 112, 3) := by decide +kernel
theorem dX7_bends_144 : decode cX7_bends 144 = .ok (.aload_n 0, 1) := by decide +kernel
theorem dX7_bends_145 : decode cX7_bends 145 = .ok (.iload 5, 2) := by decide +kernel
theorem dX7_bends_147 : decode cX7_bends 147 = .ok (.putfield 115, 3) := by decide +kernel
theorem dX7_bends_150 : decode cX7_bends 150 = .ok (.aload_n 0, 1) := by decide +kernel
theorem dX7_bends_151 : decode cX7_bends 151 = .ok (.iload 5, 2) := by decide +kernel
theorem dX7_bends_153 : decode cX7_bends 153 = .ok (.putfield 118, 3) := by decide +kernel
theorem dX7_bends_156 : decode cX7_bends 156 = .ok (.iinc 6 1, 3) := by decide +kernel
theorem dX7_bends_159 : decode cX7_bends 159 = .ok (.goto (-113), 3) := by decide +kernel
theorem dX7_bends_162 : decode cX7_bends 162 = .ok (.return_, 1) := by decide +kernel
set_option maxRecDepth 20000 in
theorem ggX7_bearsBy_X7_has : GoodIn wsX7_bearsBy wsX7_has := goodIn_r _ [7] (by decide +kernel) (by decide +kernel)
set_option maxRecDepth 20000 in
theorem gX7_bearsBy_X7_has : GoodIn wsX7_bearsBy (va_wsS RX7 59 yX7_has wsX7_has) := goodIn_app (goodIn_of _ (by decide +kernel)) ggX7_bearsBy_X7_has
set_option maxRecDepth 20000 in
theorem ggX7_bearsBy_X7_of : GoodIn wsX7_bearsBy wsX7_of := goodIn_r _ [11, 12, 13, 14, 15, 16, 17, 18, 19, 20, 21, 22, 23, 24, 25, 26, 27, 28, 29, 30, 31, 32, 33, 34, 35] (by decide +kernel) (by decide +kernel)
set_option maxRecDepth 20000 in
theorem gX7_bearsBy_X7_of : GoodIn wsX7_bearsBy (wsV RX7 51 RX7 yX7_of wsX7_of) := goodIn_app (goodIn_of _ (by decide +kernel)) ggX7_bearsBy_X7_of
theorem dX7_bearsBy_0 : decode cX7_bearsBy 0 = .ok (.iload_n 1, 1) := by decide +kernel
theorem dX7_bearsBy_1 : decode cX7_bearsBy 1 = .ok (.iload_n 2, 1) := by decide +kernel
theorem dX7_bearsBy_2 : decode cX7_bearsBy 2 = .ok (.invokestatic 59, 3) := by decide +kernel
theorem dX7_bearsBy_5 : decode cX7_bearsBy 5 = .ok (.ifCond .eq 22, 3) := by decide +kernel
theorem dX7_bearsBy_8 : decode cX7_bearsBy 8 = .ok (.aload_n 0, 1) := by decide +kernel
theorem dX7_bearsBy_9 : decode cX7_bearsBy 9 = .ok (.getfield 112, 3) := by decide +kernel
theorem dX7_bearsBy_12 : decode cX7_bearsBy 12 = .ok (.aload_n 0, 1) := by decide +kernel
theorem dX7_bearsBy_13 : decode cX7_bearsBy 13 = .ok (.getfield 38, 3) := by decide +kernel
theorem dX7_bearsBy_16 : decode cX7_bearsBy 16 = .ok (.iload_n 2, 1) := by decide +kernel
theorem dX7_bearsBy_17 : decode cX7_bearsBy 17 = .ok (.iaload, 1) := by decide +kernel
theorem dX7_bearsBy_18 : decode cX7_bearsBy 18 = .ok (.aload_n 0, 1) := by decide +kernel
theorem dX7_bearsBy_19 : decode cX7_bearsBy 19 = .ok (.getfield 115, 3) := by decide +kernel
theorem dX7_bearsBy_22 : decode cX7_bearsBy 22 = .ok (.imul, 1) := by decide +kernel
theorem dX7_bearsBy_23 : decode cX7_bearsBy 23 = .ok (.isub, 1) := by decide +kernel
theorem dX7_bearsBy_24 : decode cX7_bearsBy 24 = .ok (.goto 4, 3) := by decide +kernel
theorem dX7_bearsBy_27 : decode cX7_bearsBy 27 = .ok (.iconst 0, 1) := by decide +kernel
theorem dX7_bearsBy_28 : decode cX7_bearsBy 28 = .ok (.istore_n 3, 1) := by decide +kernel
theorem dX7_bearsBy_29 : decode cX7_bearsBy 29 = .ok (.iload_n 3, 1) := by decide +kernel
theorem dX7_bearsBy_30 : decode cX7_bearsBy 30 = .ok (.ifCond .ge 7, 3) := by decide +kernel
theorem dX7_bearsBy_33 : decode cX7_bearsBy 33 = .ok (.iconst 0, 1) := by decide +kernel
theorem dX7_bearsBy_34 : decode cX7_bearsBy 34 = .ok (.goto 11, 3) := by decide +kernel
theorem dX7_bearsBy_37 : decode cX7_bearsBy 37 = .ok (.iload_n 3, 1) := by decide +kernel
theorem dX7_bearsBy_38 : decode cX7_bearsBy 38 = .ok (.aload_n 0, 1) := by decide +kernel
theorem dX7_bearsBy_39 : decode cX7_bearsBy 39 = .ok (.iload_n 2, 1) := by decide +kernel
theorem dX7_bearsBy_40 : decode cX7_bearsBy 40 = .ok (.iconst 2, 1) := by decide +kernel
theorem dX7_bearsBy_41 : decode cX7_bearsBy 41 = .ok (.invokevirtual 51, 3) := by decide +kernel
theorem dX7_bearsBy_44 : decode cX7_bearsBy 44 = .ok (.imul, 1) := by decide +kernel
theorem dX7_bearsBy_45 : decode cX7_bearsBy 45 = .ok (.ireturn, 1) := by decide +kernel
set_option maxRecDepth 20000 in
theorem ggX7_beyond_X7_bearsBy : GoodIn wsX7_beyond wsX7_bearsBy := goodIn_r _ [6, 7, 8, 1, 9, 10, 5, 11, 12, 13, 14, 15, 16, 17, 18, 19, 20, 21, 22, 23, 24, 25, 26, 27, 28, 29, 30, 31, 32, 33, 34, 35, 36, 37, 38, 39] (by decide +kernel) (by decide +kernel)
set_option maxRecDepth 20000 in
theorem gX7_beyond_X7_bearsBy : GoodIn wsX7_beyond (wsV RX7 125 RX7 yX7_bearsBy wsX7_bearsBy) := goodIn_app (goodIn_of _ (by decide +kernel)) ggX7_beyond_X7_bearsBy
set_option maxRecDepth 20000 in
theorem ggX7_beyond_X7_of : GoodIn wsX7_beyond wsX7_of := goodIn_r _ [15, 16, 17, 18, 19, 20, 21, 22, 23, 24, 25, 26, 27, 28, 29, 30, 31, 32, 33, 34, 35, 36, 37, 38, 39] (by decide +kernel) (by decide +kernel)
set_option maxRecDepth 20000 in
theorem gX7_beyond_X7_of : GoodIn wsX7_beyond (wsV RX7 51 RX7 yX7_of wsX7_of) := goodIn_app (goodIn_of _ (by decide +kernel)) ggX7_beyond_X7_of
theorem dX7_beyond_0 : decode cX7_beyond 0 = .ok (.aload_n 0, 1) := by decide +kernel
theorem dX7_beyond_1 : decode cX7_beyond 1 = .ok (.iload_n 1, 1) := by decide +kernel
theorem dX7_beyond_2 : decode cX7_beyond 2 = .ok (.iload_n 2, 1) := by decide +kernel
theorem dX7_beyond_3 : decode cX7_beyond 3 = .ok (.invokevirtual 125, 3) := by decide +kernel
theorem dX7_beyond_6 : decode cX7_beyond 6 = .ok (.aload_n 0, 1) := by decide +kernel
theorem dX7_beyond_7 : decode cX7_beyond 7 = .ok (.iload_n 2, 1) := by decide +kernel
theorem dX7_beyond_8 : decode cX7_beyond 8 = .ok (.iconst 4, 1) := by decide +kernel
theorem dX7_beyond_9 : decode cX7_beyond 9 = .ok (.invokevirtual 51, 3) := by decide +kernel
theorem dX7_beyond_12 : decode cX7_beyond 12 = .ok (.aload_n 0, 1) := by decide +kernel
theorem dX7_beyond_13 : decode cX7_beyond 13 = .ok (.getfield 115, 3) := by decide +kernel
theorem dX7_beyond_16 : decode cX7_beyond 16 = .ok (.imul, 1) := by decide +kernel
theorem dX7_beyond_17 : decode cX7_beyond 17 = .ok (.isub, 1) := by decide +kernel
theorem dX7_beyond_18 : decode cX7_beyond 18 = .ok (.ireturn, 1) := by decide +kernel
set_option maxRecDepth 20000 in
theorem ggX7_breaking_X7_has : GoodIn wsX7_breaking wsX7_has := goodIn_r _ [5] (by decide +kernel) (by decide +kernel)
set_option maxRecDepth 20000 in
theorem gX7_breaking_X7_has : GoodIn wsX7_breaking (va_wsS RX7 59 yX7_has wsX7_has) := goodIn_app (goodIn_of _ (by decide +kernel)) ggX7_breaking_X7_has
set_option maxRecDepth 20000 in
theorem ggX7_breaking_X7_beyond : GoodIn wsX7_breaking wsX7_beyond := goodIn_r _ [9, 10, 11, 12, 13, 4, 14, 15, 16, 2, 3, 5, 17, 18, 19, 20, 1, 21, 22, 23, 24, 25, 26, 27, 28, 29, 30, 31, 32, 33, 34, 35, 36, 37, 38, 39, 40, 41, 42, 43] (by decide +kernel) (by decide +kernel)
set_option maxRecDepth 20000 in
theorem gX7_breaking_X7_beyond : GoodIn wsX7_breaking (wsV RX7 128 RX7 yX7_beyond wsX7_beyond) := goodIn_app (goodIn_of _ (by decide +kernel)) ggX7_breaking_X7_beyond
theorem dX7_breaking_0 : decode cX7_breaking 0 = .ok (.bipush (-9), 2) := by decide +kernel
theorem dX7_breaking_2 : decode cX7_breaking 2 = .ok (.istore_n 2, 1) := by decide +kernel
theorem dX7_breaking_3 : decode cX7_breaking 3 = .ok (.iconst 0, 1) := by decide +kernel
theorem dX7_breaking_4 : decode cX7_breaking 4 = .ok (.istore_n 3, 1) := by decide +kernel
theorem dX7_breaking_5 : decode cX7_breaking 5 = .ok (.iload_n 3, 1) := by decide +kernel
theorem dX7_breaking_6 : decode cX7_breaking 6 = .ok (.aload_n 0, 1) := by decide +kernel
theorem dX7_breaking_7 : decode cX7_breaking 7 = .ok (.getfield 7, 3) := by decide +kernel
theorem dX7_breaking_10 : decode cX7_breaking 10 = .ok (.iconst 0, 1) := by decide +kernel
theorem dX7_breaking_11 : decode cX7_breaking 11 = .ok (.iaload, 1) := by decide +kernel
theorem dX7_breaking_12 : decode cX7_breaking 12 = .ok (.if_icmp .ge 73, 3) := by decide +kernel
theorem dX7_breaking_15 : decode cX7_breaking 15 = .ok (.iload_n 1, 1) := by decide +kernel
theorem dX7_breaking_16 : decode cX7_breaking 16 = .ok (.iload_n 3, 1) := by decide +kernel
theorem dX7_breaking_17 : decode cX7_breaking 17 = .ok (.invokestatic 59, 3) := by decide +kernel
theorem dX7_breaking_20 : decode cX7_breaking 20 = .ok (.ifCond .eq 16, 3) := by decide +kernel
theorem dX7_breaking_23 : decode cX7_breaking 23 = .ok (.aload_n 0, 1) := by decide +kernel
theorem dX7_breaking_24 : decode cX7_breaking 24 = .ok (.iload_n 1, 1) := by decide +kernel
theorem dX7_breaking_25 : decode cX7_breaking 25 = .ok (.iload_n 3, 1) := by decide +kernel
theorem dX7_breaking_26 : decode cX7_breaking 26 = .ok (.invokevirtual 128, 3) := by decide +kernel
theorem dX7_breaking_29 : decode cX7_breaking 29 = .ok (.ifCond .le 7, 3) := by decide +kernel
theorem dX7_breaking_32 : decode cX7_breaking 32 = .ok (.iconst 1, 1) := by decide +kernel
theorem dX7_breaking_33 : decode cX7_breaking 33 = .ok (.goto 4, 3) := by decide +kernel
theorem dX7_breaking_36 : decode cX7_breaking 36 = .ok (.iconst 0, 1) := by decide +kernel
theorem dX7_breaking_37 : decode cX7_breaking 37 = .ok (.istore 4, 2) := by decide +kernel
theorem dX7_breaking_39 : decode cX7_breaking 39 = .ok (.iload 4, 2) := by decide +kernel
theorem dX7_breaking_41 : decode cX7_breaking 41 = .ok (.ifCond .eq 36, 3) := by decide +kernel
theorem dX7_breaking_44 : decode cX7_breaking 44 = .ok (.iload_n 2, 1) := by decide +kernel
theorem dX7_breaking_45 : decode cX7_breaking 45 = .ok (.bipush (-9), 2) := by decide +kernel
theorem dX7_breaking_47 : decode cX7_breaking 47 = .ok (.if_icmp .eq 26, 3) := by decide +kernel
theorem dX7_breaking_50 : decode cX7_breaking 50 = .ok (.aload_n 0, 1) := by decide +kernel
theorem dX7_breaking_51 : decode cX7_breaking 51 = .ok (.iload_n 1, 1) := by decide +kernel
theorem dX7_breaking_52 : decode cX7_breaking 52 = .ok (.iload_n 3, 1) := by decide +kernel
theorem dX7_breaking_53 : decode cX7_breaking 53 = .ok (.invokevirtual 128, 3) := by decide +kernel
theorem dX7_breaking_56 : decode cX7_breaking 56 = .ok (.aload_n 0, 1) := by decide +kernel
theorem dX7_breaking_57 : decode cX7_breaking 57 = .ok (.iload_n 1, 1) := by decide +kernel
theorem dX7_breaking_58 : decode cX7_breaking 58 = .ok (.iload_n 2, 1) := by decide +kernel
theorem dX7_breaking_59 : decode cX7_breaking 59 = .ok (.ifCond .ge 7, 3) := by decide +kernel
theorem dX7_breaking_62 : decode cX7_breaking 62 = .ok (.iconst 0, 1) := by decide +kernel
theorem dX7_breaking_63 : decode cX7_breaking 63 = .ok (.goto 4, 3) := by decide +kernel
theorem dX7_breaking_66 : decode cX7_breaking 66 = .ok (.iload_n 2, 1) := by decide +kernel
theorem dX7_breaking_67 : decode cX7_breaking 67 = .ok (.invokevirtual 128, 3) := by decide +kernel
theorem dX7_breaking_70 : decode cX7_breaking 70 = .ok (.if_icmp .le 7, 3) := by decide +kernel
theorem dX7_breaking_73 : decode cX7_breaking 73 = .ok (.iload_n 3, 1) := by decide +kernel
theorem dX7_breaking_74 : decode cX7_breaking 74 = .ok (.goto 4, 3) := by decide +kernel
theorem dX7_breaking_77 : decode cX7_breaking 77 = .ok (.iload_n 2, 1) := by decide +kernel
theorem dX7_breaking_78 : decode cX7_breaking 78 = .ok (.istore_n 2, 1) := by decide +kernel
theorem dX7_breaking_79 : decode cX7_breaking 79 = .ok (.iinc 3 1, 3) := by decide +kernel
theorem dX7_breaking_82 : decode cX7_breaking 82 = .ok (.goto (-77), 3) := by decide +kernel
theorem dX7_breaking_85 : decode cX7_breaking 85 = .ok (.iload_n 2, 1) := by decide +kernel
theorem dX7_breaking_86 : decode cX7_breaking 86 = .ok (.ireturn, 1) := by decide +kernel
set_option maxRecDepth 20000 in
theorem ggX7_wholeBehind_X7_whole : GoodIn wsX7_wholeBehind wsX7_whole := goodIn_r _ [5, 6, 7, 8, 9, 4, 10, 11, 12, 13, 14, 48, 49, 50, 51, 52, 53, 54, 55, 56, 57, 58, 59, 60, 61, 62, 63, 64, 65, 66, 67, 68, 69, 70] (by decide +kernel) (by decide +kernel)
set_option maxRecDepth 20000 in
theorem gX7_wholeBehind_X7_whole : GoodIn wsX7_wholeBehind (wsV RX7 131 RX7 yX7_whole wsX7_whole) := goodIn_app (goodIn_of _ (by decide +kernel)) ggX7_wholeBehind_X7_whole
set_option maxRecDepth 20000 in
theorem ggX7_wholeBehind_X7_all : GoodIn wsX7_wholeBehind wsX7_all := goodIn_r _ [18, 6, 48, 49, 50, 51, 52, 53, 54, 55, 56, 57, 58, 59, 60, 61, 62, 63, 64, 65, 66, 67, 68, 69, 70] (by decide +kernel) (by decide +kernel)
set_option maxRecDepth 20000 in
theorem gX7_wholeBehind_X7_all : GoodIn wsX7_wholeBehind (wsV RX7 135 RX7 yX7_all wsX7_all) := goodIn_app (goodIn_of _ (by decide +kernel)) ggX7_wholeBehind_X7_all
set_option maxRecDepth 20000 in
theorem ggX7_wholeBehind_X7_bends : GoodIn wsX7_wholeBehind wsX7_bends := goodIn_r _ [22, 23, 24, 25, 26, 6, 27, 28, 29, 30, 4, 31, 32, 33, 34, 35, 11, 12, 13, 14, 48, 49, 50, 51, 52, 53, 54, 55, 56, 57, 58, 59, 60, 61, 62, 63, 64, 65, 66, 67, 68, 69, 70] (by decide +kernel) (by decide +kernel)
set_option maxRecDepth 20000 in
theorem gX7_wholeBehind_X7_bends : GoodIn wsX7_wholeBehind (wsV RX7 138 RX7 yX7_bends wsX7_bends) := goodIn_app (goodIn_of _ (by decide +kernel)) ggX7_wholeBehind_X7_bends
set_option maxRecDepth 20000 in
theorem ggX7_wholeBehind_X7_breaking : GoodIn wsX7_wholeBehind wsX7_breaking := goodIn_r _ [39, 6, 33, 34, 4, 35, 40, 41, 42, 43, 24, 44, 45, 46, 47, 23, 27, 11, 12, 13, 14, 48, 49, 50, 51, 52, 53, 54, 55, 56, 57, 58, 59, 60, 61, 62, 63, 64, 65, 66, 67, 68, 69, 70] (by decide +kernel) (by decide +kernel)
set_option maxRecDepth 20000 in
theorem gX7_wholeBehind_X7_breaking : GoodIn wsX7_wholeBehind (wsV RX7 142 RX7 yX7_breaking wsX7_breaking) := goodIn_app (goodIn_of _ (by decide +kernel)) ggX7_wholeBehind_X7_breaking
theorem dX7_wholeBehind_0 : decode cX7_wholeBehind 0 = .ok (.aload_n 0, 1) := by decide +kernel
theorem dX7_wholeBehind_1 : decode cX7_wholeBehind 1 = .ok (.invokevirtual 131, 3) := by decide +kernel
theorem dX7_wholeBehind_4 : decode cX7_wholeBehind 4 = .ok (.istore_n 2, 1) := by decide +kernel
theorem dX7_wholeBehind_5 : decode cX7_wholeBehind 5 = .ok (.iload_n 2, 1) := by decide +kernel
theorem dX7_wholeBehind_6 : decode cX7_wholeBehind 6 = .ok (.ifCond .eq 7, 3) := by decide +kernel
theorem dX7_wholeBehind_9 : decode cX7_wholeBehind 9 = .ok (.iconst 1, 1) := by decide +kernel
theorem dX7_wholeBehind_10 : decode cX7_wholeBehind 10 = .ok (.goto 4, 3) := by decide +kernel
theorem dX7_wholeBehind_13 : decode cX7_wholeBehind 13 = .ok (.iconst 0, 1) := by decide +kernel
theorem dX7_wholeBehind_14 : decode cX7_wholeBehind 14 = .ok (.istore_n 3, 1) := by decide +kernel
theorem dX7_wholeBehind_15 : decode cX7_wholeBehind 15 = .ok (.iload_n 3, 1) := by decide +kernel
theorem dX7_wholeBehind_16 : decode cX7_wholeBehind 16 = .ok (.ifCond .eq 60, 3) := by decide +kernel
theorem dX7_wholeBehind_19 : decode cX7_wholeBehind 19 = .ok (.aload_n 0, 1) := by decide +kernel
theorem dX7_wholeBehind_20 : decode cX7_wholeBehind 20 = .ok (.aload_n 0, 1) := by decide +kernel
theorem dX7_wholeBehind_21 : decode cX7_wholeBehind 21 = .ok (.invokevirtual 135, 3) := by decide +kernel
theorem dX7_wholeBehind_24 : decode cX7_wholeBehind 24 = .ok (.iload_n 2, 1) := by decide +kernel
theorem dX7_wholeBehind_25 : decode cX7_wholeBehind 25 = .ok (.iload_n 1, 1) := by decide +kernel
theorem dX7_wholeBehind_26 : decode cX7_wholeBehind 26 = .ok (.invokevirtual 138, 3) := by decide +kernel
theorem dX7_wholeBehind_29 : decode cX7_wholeBehind 29 = .ok (.aload_n 0, 1) := by decide +kernel
theorem dX7_wholeBehind_30 : decode cX7_wholeBehind 30 = .ok (.iload_n 2, 1) := by decide +kernel
theorem dX7_wholeBehind_31 : decode cX7_wholeBehind 31 = .ok (.invokevirtual 142, 3) := by decide +kernel
theorem dX7_wholeBehind_34 : decode cX7_wholeBehind 34 = .ok (.istore 4, 2) := by decide +kernel
theorem dX7_wholeBehind_36 : decode cX7_wholeBehind 36 = .ok (.iload_n 2, 1) := by decide +kernel
theorem dX7_wholeBehind_37 : decode cX7_wholeBehind 37 = .ok (.iload 4, 2) := by decide +kernel
theorem dX7_wholeBehind_39 : decode cX7_wholeBehind 39 = .ok (.bipush (-9), 2) := by decide +kernel
theorem dX7_wholeBehind_41 : decode cX7_wholeBehind 41 = .ok (.if_icmp .ne 7, 3) := by decide +kernel
theorem dX7_wholeBehind_44 : decode cX7_wholeBehind 44 = .ok (.iconst (-1), 1) := by decide +kernel
theorem dX7_wholeBehind_45 : decode cX7_wholeBehind 45 = .ok (.goto 9, 3) := by decide +kernel
theorem dX7_wholeBehind_48 : decode cX7_wholeBehind 48 = .ok (.iconst 1, 1) := by decide +kernel
theorem dX7_wholeBehind_49 : decode cX7_wholeBehind 49 = .ok (.iload 4, 2) := by decide +kernel
theorem dX7_wholeBehind_51 : decode cX7_wholeBehind 51 = .ok (.ishl, 1) := by decide +kernel
theorem dX7_wholeBehind_52 : decode cX7_wholeBehind 52 = .ok (.iconst (-1), 1) := by decide +kernel
theorem dX7_wholeBehind_53 : decode cX7_wholeBehind 53 = .ok (.ixor, 1) := by decide +kernel
theorem dX7_wholeBehind_54 : decode cX7_wholeBehind 54 = .ok (.iand, 1) := by decide +kernel
theorem dX7_wholeBehind_55 : decode cX7_wholeBehind 55 = .ok (.istore_n 2, 1) := by decide +kernel
theorem dX7_wholeBehind_56 : decode cX7_wholeBehind 56 = .ok (.iload 4, 2) := by decide +kernel
theorem dX7_wholeBehind_58 : decode cX7_wholeBehind 58 = .ok (.bipush (-9), 2) := by decide +kernel
theorem dX7_wholeBehind_60 : decode cX7_wholeBehind 60 = .ok (.if_icmp .eq 11, 3) := by decide +kernel
theorem dX7_wholeBehind_63 : decode cX7_wholeBehind 63 = .ok (.iload_n 2, 1) := by decide +kernel
theorem dX7_wholeBehind_64 : decode cX7_wholeBehind 64 = .ok (.ifCond .eq 7, 3) := by decide +kernel
theorem dX7_wholeBehind_67 : decode cX7_wholeBehind 67 = .ok (.iconst 1, 1) := by decide +kernel
theorem dX7_wholeBehind_68 : decode cX7_wholeBehind 68 = .ok (.goto 4, 3) := by decide +kernel
theorem dX7_wholeBehind_71 : decode cX7_wholeBehind 71 = .ok (.iconst 0, 1) := by decide +kernel
theorem dX7_wholeBehind_72 : decode cX7_wholeBehind 72 = .ok (.istore_n 3, 1) := by decide +kernel
theorem dX7_wholeBehind_73 : decode cX7_wholeBehind 73 = .ok (.goto (-58), 3) := by decide +kernel
theorem dX7_wholeBehind_76 : decode cX7_wholeBehind 76 = .ok (.iload_n 2, 1) := by decide +kernel
theorem dX7_wholeBehind_77 : decode cX7_wholeBehind 77 = .ok (.ireturn, 1) := by decide +kernel
set_option maxRecDepth 20000 in
theorem ggX7_loads_X7_in : GoodIn wsX7_loads wsX7_in := goodIn_r _ [5] (by decide +kernel) (by decide +kernel)
set_option maxRecDepth 20000 in
theorem gX7_loads_X7_in : GoodIn wsX7_loads (va_wsS RX7 47 yX7_in wsX7_in) := goodIn_app (goodIn_of _ (by decide +kernel)) ggX7_loads_X7_in
set_option maxRecDepth 20000 in
theorem ggX7_loads_X7_notes : GoodIn wsX7_loads wsX7_notes := goodIn_r _ [9, 10, 11, 1, 64, 65, 66, 67, 68, 69, 70, 71, 72, 73, 74, 75, 76, 77, 78, 79, 80, 81, 82, 83, 84, 85, 86] (by decide +kernel) (by decide +kernel)
set_option maxRecDepth 20000 in
theorem gX7_loads_X7_notes : GoodIn wsX7_loads (wsV RX7 99 RX7 yX7_notes wsX7_notes) := goodIn_app (goodIn_of _ (by decide +kernel)) ggX7_loads_X7_notes
set_option maxRecDepth 20000 in
theorem ggX7_loads_X7_whole : GoodIn wsX7_loads wsX7_whole := goodIn_r _ [15, 1, 16, 17, 18, 4, 19, 20, 21, 22, 23, 64, 65, 66, 67, 68, 69, 70, 71, 72, 73, 74, 75, 76, 77, 78, 79, 80, 81, 82, 83, 84, 85, 86] (by decide +kernel) (by decide +kernel)
set_option maxRecDepth 20000 in
theorem gX7_loads_X7_whole : GoodIn wsX7_loads (wsV RX7 131 RX7 yX7_whole wsX7_whole) := goodIn_app (goodIn_of _ (by decide +kernel)) ggX7_loads_X7_whole
set_option maxRecDepth 20000 in
theorem ggX7_loads_X7_ones : GoodIn wsX7_loads wsX7_ones := goodIn_r _ [26, 27, 28, 4, 29] (by decide +kernel) (by decide +kernel)
set_option maxRecDepth 20000 in
theorem gX7_loads_X7_ones : GoodIn wsX7_loads (va_wsS RX7 145 yX7_ones wsX7_ones) := goodIn_app (goodIn_of _ (by decide +kernel)) ggX7_loads_X7_ones
set_option maxRecDepth 20000 in
theorem ggX7_loads_X7_wholeBehind : GoodIn wsX7_loads wsX7_wholeBehind := goodIn_r _ [33, 12, 13, 14, 4, 15, 1, 16, 17, 18, 19, 20, 21, 22, 23, 34, 35, 36, 37, 38, 39, 40, 41, 42, 43, 44, 45, 46, 47, 48, 49, 50, 51, 27, 28, 29, 52, 53, 54, 55, 56, 57, 58, 59, 60, 61, 62, 63, 64, 65, 66, 67, 68, 69, 70, 71, 72, 73, 74, 75, 76, 77, 78, 79, 80, 81, 82, 83, 84, 85, 86] (by decide +kernel) (by decide +kernel)
set_option maxRecDepth 20000 in
theorem gX7_loads_X7_wholeBehind : GoodIn wsX7_loads (wsV RX7 148 RX7 yX7_wholeBehind wsX7_wholeBehind) := goodIn_app (goodIn_of _ (by decide +kernel)) ggX7_loads_X7_wholeBehind
set_option maxRecDepth 20000 in
theorem ggX7_loads_X7_has : GoodIn wsX7_loads wsX7_has := goodIn_r _ [29] (by decide +kernel) (by decide +kernel)
set_option maxRecDepth 20000 in
theorem gX7_loads_X7_has : GoodIn wsX7_loads (va_wsS RX7 59 yX7_has wsX7_has) := goodIn_app (goodIn_of _ (by decide +kernel)) ggX7_loads_X7_has
theorem dX7_loads_0 : decode cX7_loads 0 = .ok (.iload_n 1, 1) := by decide +kernel
theorem dX7_loads_1 : decode cX7_loads 1 = .ok (.iconst 0, 1) := by decide +kernel
theorem dX7_loads_2 : decode cX7_loads 2 = .ok (.sipush 999, 3) := by decide +kernel
theorem dX7_loads_5 : decode cX7_loads 5 = .ok (.invokestatic 47, 3) := by decide +kernel
theorem dX7_loads_8 : decode cX7_loads 8 = .ok (.ifCond .ne 5, 3) := by decide +kernel
theorem dX7_loads_11 : decode cX7_loads 11 = .ok (.iconst (-1), 1) := by decide +kernel
theorem dX7_loads_12 : decode cX7_loads 12 = .ok (.ireturn, 1) := by decide +kernel
theorem dX7_loads_13 : decode cX7_loads 13 = .ok (.aload_n 0, 1) := by decide +kernel
theorem dX7_loads_14 : decode cX7_loads 14 = .ok (.invokevirtual 99, 3) := by decide +kernel
theorem dX7_loads_17 : decode cX7_loads 17 = .ok (.aload_n 0, 1) := by decide +kernel
theorem dX7_loads_18 : decode cX7_loads 18 = .ok (.invokevirtual 131, 3) := by decide +kernel
theorem dX7_loads_21 : decode cX7_loads 21 = .ok (.invokestatic 145, 3) := by decide +kernel
theorem dX7_loads_24 : decode cX7_loads 24 = .ok (.istore_n 2, 1) := by decide +kernel
theorem dX7_loads_25 : decode cX7_loads 25 = .ok (.aload_n 0, 1) := by decide +kernel
theorem dX7_loads_26 : decode cX7_loads 26 = .ok (.iload_n 1, 1) := by decide +kernel
theorem dX7_loads_27 : decode cX7_loads 27 = .ok (.invokevirtual 148, 3) := by decide +kernel
theorem dX7_loads_30 : decode cX7_loads 30 = .ok (.istore_n 3, 1) := by decide +kernel
theorem dX7_loads_31 : decode cX7_loads 31 = .ok (.iconst 0, 1) := by decide +kernel
theorem dX7_loads_32 : decode cX7_loads 32 = .ok (.istore 4, 2) := by decide +kernel
theorem dX7_loads_34 : decode cX7_loads 34 = .ok (.iload 4, 2) := by decide +kernel
theorem dX7_loads_36 : decode cX7_loads 36 = .ok (.aload_n 0, 1) := by decide +kernel
theorem dX7_loads_37 : decode cX7_loads 37 = .ok (.getfield 7, 3) := by decide +kernel
theorem dX7_loads_40 : decode cX7_loads 40 = .ok (.iconst 0, 1) := by decide +kernel
theorem dX7_loads_41 : decode cX7_loads 41 = .ok (.iaload, 1) := by decide +kernel
theorem dX7_loads_42 : decode cX7_loads 42 = .ok (.if_icmp .ge 34, 3) := by decide +kernel
theorem dX7_loads_45 : decode cX7_loads 45 = .ok (.aload_n 0, 1) := by decide +kernel
theorem dX7_loads_46 : decode cX7_loads 46 = .ok (.getfield 7, 3) := by decide +kernel
theorem dX7_loads_49 : decode cX7_loads 49 = .ok (.iconst 5, 1) := by decide +kernel
theorem dX7_loads_50 : decode cX7_loads 50 = .ok (.iload 4, 2) := by decide +kernel
theorem dX7_loads_52 : decode cX7_loads 52 = .ok (.imul, 1) := by decide +kernel
theorem dX7_loads_53 : decode cX7_loads 53 = .ok (.iconst 5, 1) := by decide +kernel
theorem dX7_loads_54 : decode cX7_loads 54 = .ok (.iadd, 1) := by decide +kernel
theorem dX7_loads_55 : decode cX7_loads 55 = .ok (.iload_n 3, 1) := by decide +kernel
theorem dX7_loads_56 : decode cX7_loads 56 = .ok (.iload 4, 2) := by decide +kernel
theorem dX7_loads_58 : decode cX7_loads 58 = .ok (.invokestatic 59, 3) := by decide +kernel
theorem dX7_loads_61 : decode cX7_loads 61 = .ok (.ifCond .eq 7, 3) := by decide +kernel
theorem dX7_loads_64 : decode cX7_loads 64 = .ok (.iconst 1, 1) := by decide +kernel
theorem dX7_loads_65 : decode cX7_loads 65 = .ok (.goto 4, 3) := by decide +kernel
theorem dX7_loads_68 : decode cX7_loads 68 = .ok (.iconst 0, 1) := by decide +kernel
theorem dX7_loads_69 : decode cX7_loads 69 = .ok (.iastore, 1) := by decide +kernel
theorem dX7_loads_70 : decode cX7_loads 70 = .ok (.iinc 4 1, 3) := by decide +kernel
theorem dX7_loads_73 : decode cX7_loads 73 = .ok (.goto (-39), 3) := by decide +kernel
theorem dX7_loads_76 : decode cX7_loads 76 = .ok (.iload_n 2, 1) := by decide +kernel
theorem dX7_loads_77 : decode cX7_loads 77 = .ok (.iload_n 3, 1) := by decide +kernel
theorem dX7_loads_78 : decode cX7_loads 78 = .ok (.invokestatic 145, 3) := by decide +kernel
theorem dX7_loads_81 : decode cX7_loads 81 = .ok (.isub, 1) := by decide +kernel
theorem dX7_loads_82 : decode cX7_loads 82 = .ok (.ireturn, 1) := by decide +kernel
set_option maxRecDepth 20000 in
theorem ggX7_breaks_X7_isLeaf : GoodIn wsX7_breaks wsX7_isLeaf := goodIn_r _ [6, 1, 7, 8, 5, 9, 34, 35, 36, 37, 38, 39, 40, 41, 42, 43, 44, 45, 46, 47, 48, 49, 50, 51, 52, 53, 54, 55, 56] (by decide +kernel) (by decide +kernel)
set_option maxRecDepth 20000 in
theorem gX7_breaks_X7_isLeaf : GoodIn wsX7_breaks (wsV RX7 151 RX7 yX7_isLeaf wsX7_isLeaf) := goodIn_app (goodIn_of _ (by decide +kernel)) ggX7_breaks_X7_isLeaf
set_option maxRecDepth 20000 in
theorem ggX7_breaks_X7_isWhole : GoodIn wsX7_breaks wsX7_isWhole := goodIn_r _ [13, 14, 15, 16, 5, 17, 1, 34, 35, 36, 37, 38, 39, 40, 41, 42, 43, 44, 45, 46, 47, 48, 49, 50, 51, 52, 53, 54, 55, 56] (by decide +kernel) (by decide +kernel)
set_option maxRecDepth 20000 in
theorem gX7_breaks_X7_isWhole : GoodIn wsX7_breaks (wsV RX7 55 RX7 yX7_isWhole wsX7_isWhole) := goodIn_app (goodIn_of _ (by decide +kernel)) ggX7_breaks_X7_isWhole
set_option maxRecDepth 20000 in
theorem ggX7_breaks_X7_notes : GoodIn wsX7_breaks wsX7_notes := goodIn_r _ [21, 22, 23, 1, 34, 35, 36, 37, 38, 39, 40, 41, 42, 43, 44, 45, 46, 47, 48, 49, 50, 51, 52, 53, 54, 55, 56] (by decide +kernel) (by decide +kernel)
set_option maxRecDepth 20000 in
theorem gX7_breaks_X7_notes : GoodIn wsX7_breaks (wsV RX7 99 RX7 yX7_notes wsX7_notes) := goodIn_app (goodIn_of _ (by decide +kernel)) ggX7_breaks_X7_notes
set_option maxRecDepth 20000 in
theorem ggX7_breaks_X7_whole : GoodIn wsX7_breaks wsX7_whole := goodIn_r _ [27, 1, 10, 11, 12, 5, 13, 14, 15, 16, 17, 34, 35, 36, 37, 38, 39, 40, 41, 42, 43, 44, 45, 46, 47, 48, 49, 50, 51, 52, 53, 54, 55, 56] (by decide +kernel) (by decide +kernel)
set_option maxRecDepth 20000 in
theorem gX7_breaks_X7_whole : GoodIn wsX7_breaks (wsV RX7 131 RX7 yX7_whole wsX7_whole) := goodIn_app (goodIn_of _ (by decide +kernel)) ggX7_breaks_X7_whole
set_option maxRecDepth 20000 in
theorem ggX7_breaks_X7_ones : GoodIn wsX7_breaks wsX7_ones := goodIn_r _ [30, 31, 32, 5, 33] (by decide +kernel) (by decide +kernel)
set_option maxRecDepth 20000 in
theorem gX7_breaks_X7_ones : GoodIn wsX7_breaks (va_wsS RX7 145 yX7_ones wsX7_ones) := goodIn_app (goodIn_of _ (by decide +kernel)) ggX7_breaks_X7_ones
theorem dX7_breaks_0 : decode cX7_breaks 0 = .ok (.aload_n 0, 1) := by decide +kernel
theorem dX7_breaks_1 : decode cX7_breaks 1 = .ok (.iload_n 1, 1) := by decide +kernel
theorem dX7_breaks_2 : decode cX7_breaks 2 = .ok (.invokevirtual 151, 3) := by decide +kernel
theorem dX7_breaks_5 : decode cX7_breaks 5 = .ok (.ifCond .ne 5, 3) := by decide +kernel
theorem dX7_breaks_8 : decode cX7_breaks 8 = .ok (.iconst (-1), 1) := by decide +kernel
theorem dX7_breaks_9 : decode cX7_breaks 9 = .ok (.ireturn, 1) := by decide +kernel
theorem dX7_breaks_10 : decode cX7_breaks 10 = .ok (.aload_n 0, 1) := by decide +kernel
theorem dX7_breaks_11 : decode cX7_breaks 11 = .ok (.iload_n 1, 1) := by decide +kernel
theorem dX7_breaks_12 : decode cX7_breaks 12 = .ok (.invokevirtual 55, 3) := by decide +kernel
theorem dX7_breaks_15 : decode cX7_breaks 15 = .ok (.ifCond .ne 6, 3) := by decide +kernel
theorem dX7_breaks_18 : decode cX7_breaks 18 = .ok (.bipush (-2), 2) := by decide +kernel
theorem dX7_breaks_20 : decode cX7_breaks 20 = .ok (.ireturn, 1) := by decide +kernel
theorem dX7_breaks_21 : decode cX7_breaks 21 = .ok (.aload_n 0, 1) := by decide +kernel
theorem dX7_breaks_22 : decode cX7_breaks 22 = .ok (.invokevirtual 99, 3) := by decide +kernel
theorem dX7_breaks_25 : decode cX7_breaks 25 = .ok (.aload_n 0, 1) := by decide +kernel
theorem dX7_breaks_26 : decode cX7_breaks 26 = .ok (.getfield 7, 3) := by decide +kernel
theorem dX7_breaks_29 : decode cX7_breaks 29 = .ok (.iconst 5, 1) := by decide +kernel
theorem dX7_breaks_30 : decode cX7_breaks 30 = .ok (.iload_n 1, 1) := by decide +kernel
theorem dX7_breaks_31 : decode cX7_breaks 31 = .ok (.imul, 1) := by decide +kernel
theorem dX7_breaks_32 : decode cX7_breaks 32 = .ok (.iconst 5, 1) := by decide +kernel
theorem dX7_breaks_33 : decode cX7_breaks 33 = .ok (.iadd, 1) := by decide +kernel
theorem dX7_breaks_34 : decode cX7_breaks 34 = .ok (.iconst 0, 1) := by decide +kernel
theorem dX7_breaks_35 : decode cX7_breaks 35 = .ok (.iastore, 1) := by decide +kernel
theorem dX7_breaks_36 : decode cX7_breaks 36 = .ok (.aload_n 0, 1) := by decide +kernel
theorem dX7_breaks_37 : decode cX7_breaks 37 = .ok (.invokevirtual 131, 3) := by decide +kernel
theorem dX7_breaks_40 : decode cX7_breaks 40 = .ok (.invokestatic 145, 3) := by decide +kernel
theorem dX7_breaks_43 : decode cX7_breaks 43 = .ok (.ireturn, 1) := by decide +kernel
set_option maxRecDepth 20000 in
theorem ggX7_mends_X7_isLeaf : GoodIn wsX7_mends wsX7_isLeaf := goodIn_r _ [6, 1, 7, 8, 5, 9, 34, 35, 36, 37, 38, 39, 40, 41, 42, 43, 44, 45, 46, 47, 48, 49, 50, 51, 52, 53, 54, 55, 56] (by decide +kernel) (by decide +kernel)
set_option maxRecDepth 20000 in
theorem gX7_mends_X7_isLeaf : GoodIn wsX7_mends (wsV RX7 151 RX7 yX7_isLeaf wsX7_isLeaf) := goodIn_app (goodIn_of _ (by decide +kernel)) ggX7_mends_X7_isLeaf
set_option maxRecDepth 20000 in
theorem ggX7_mends_X7_isWhole : GoodIn wsX7_mends wsX7_isWhole := goodIn_r _ [13, 14, 15, 16, 5, 17, 1, 34, 35, 36, 37, 38, 39, 40, 41, 42, 43, 44, 45, 46, 47, 48, 49, 50, 51, 52, 53, 54, 55, 56] (by decide +kernel) (by decide +kernel)
set_option maxRecDepth 20000 in
theorem gX7_mends_X7_isWhole : GoodIn wsX7_mends (wsV RX7 55 RX7 yX7_isWhole wsX7_isWhole) := goodIn_app (goodIn_of _ (by decide +kernel)) ggX7_mends_X7_isWhole
set_option maxRecDepth 20000 in
theorem ggX7_mends_X7_notes : GoodIn wsX7_mends wsX7_notes := goodIn_r _ [21, 22, 23, 1, 34, 35, 36, 37, 38, 39, 40, 41, 42, 43, 44, 45, 46, 47, 48, 49, 50, 51, 52, 53, 54, 55, 56] (by decide +kernel) (by decide +kernel)
set_option maxRecDepth 20000 in
theorem gX7_mends_X7_notes : GoodIn wsX7_mends (wsV RX7 99 RX7 yX7_notes wsX7_notes) := goodIn_app (goodIn_of _ (by decide +kernel)) ggX7_mends_X7_notes
set_option maxRecDepth 20000 in
theorem ggX7_mends_X7_whole : GoodIn wsX7_mends wsX7_whole := goodIn_r _ [27, 1, 10, 11, 12, 5, 13, 14, 15, 16, 17, 34, 35, 36, 37, 38, 39, 40, 41, 42, 43, 44, 45, 46, 47, 48, 49, 50, 51, 52, 53, 54, 55, 56] (by decide +kernel) (by decide +kernel)
set_option maxRecDepth 20000 in
theorem gX7_mends_X7_whole : GoodIn wsX7_mends (wsV RX7 131 RX7 yX7_whole wsX7_whole) := goodIn_app (goodIn_of _ (by decide +kernel)) ggX7_mends_X7_whole
set_option maxRecDepth 20000 in
theorem ggX7_mends_X7_ones : GoodIn wsX7_mends wsX7_ones := goodIn_r _ [30, 31, 32, 5, 33] (by decide +kernel) (by decide +kernel)
set_option maxRecDepth 20000 in
theorem gX7_mends_X7_ones : GoodIn wsX7_mends (va_wsS RX7 145 yX7_ones wsX7_ones) := goodIn_app (goodIn_of _ (by decide +kernel)) ggX7_mends_X7_ones
theorem dX7_mends_0 : decode cX7_mends 0 = .ok (.aload_n 0, 1) := by decide +kernel
theorem dX7_mends_1 : decode cX7_mends 1 = .ok (.iload_n 1, 1) := by decide +kernel
theorem dX7_mends_2 : decode cX7_mends 2 = .ok (.invokevirtual 151, 3) := by decide +kernel
theorem dX7_mends_5 : decode cX7_mends 5 = .ok (.ifCond .ne 5, 3) := by decide +kernel
theorem dX7_mends_8 : decode cX7_mends 8 = .ok (.iconst (-1), 1) := by decide +kernel
theorem dX7_mends_9 : decode cX7_mends 9 = .ok (.ireturn, 1) := by decide +kernel
theorem dX7_mends_10 : decode cX7_mends 10 = .ok (.aload_n 0, 1) := by decide +kernel
theorem dX7_mends_11 : decode cX7_mends 11 = .ok (.iload_n 1, 1) := by decide +kernel
theorem dX7_mends_12 : decode cX7_mends 12 = .ok (.invokevirtual 55, 3) := by decide +kernel
theorem dX7_mends_15 : decode cX7_mends 15 = .ok (.ifCond .eq 6, 3) := by decide +kernel
theorem dX7_mends_18 : decode cX7_mends 18 = .ok (.bipush (-2), 2) := by decide +kernel
theorem dX7_mends_20 : decode cX7_mends 20 = .ok (.ireturn, 1) := by decide +kernel
theorem dX7_mends_21 : decode cX7_mends 21 = .ok (.aload_n 0, 1) := by decide +kernel
theorem dX7_mends_22 : decode cX7_mends 22 = .ok (.invokevirtual 99, 3) := by decide +kernel
theorem dX7_mends_25 : decode cX7_mends 25 = .ok (.aload_n 0, 1) := by decide +kernel
theorem dX7_mends_26 : decode cX7_mends 26 = .ok (.getfield 7, 3) := by decide +kernel
theorem dX7_mends_29 : decode cX7_mends 29 = .ok (.iconst 5, 1) := by decide +kernel
theorem dX7_mends_30 : decode cX7_mends 30 = .ok (.iload_n 1, 1) := by decide +kernel
theorem dX7_mends_31 : decode cX7_mends 31 = .ok (.imul, 1) := by decide +kernel
theorem dX7_mends_32 : decode cX7_mends 32 = .ok (.iconst 5, 1) := by decide +kernel
theorem dX7_mends_33 : decode cX7_mends 33 = .ok (.iadd, 1) := by decide +kernel
theorem dX7_mends_34 : decode cX7_mends 34 = .ok (.iconst 1, 1) := by decide +kernel
theorem dX7_mends_35 : decode cX7_mends 35 = .ok (.iastore, 1) := by decide +kernel
theorem dX7_mends_36 : decode cX7_mends 36 = .ok (.aload_n 0, 1) := by decide +kernel
theorem dX7_mends_37 : decode cX7_mends 37 = .ok (.invokevirtual 131, 3) := by decide +kernel
theorem dX7_mends_40 : decode cX7_mends 40 = .ok (.invokestatic 145, 3) := by decide +kernel
theorem dX7_mends_43 : decode cX7_mends 43 = .ok (.ireturn, 1) := by decide +kernel
set_option maxRecDepth 20000 in
theorem ggX7_cambers_X7_isLeaf : GoodIn wsX7_cambers wsX7_isLeaf := goodIn_r _ [6, 1, 7, 8, 5, 9, 20, 21, 22, 23, 24, 25, 26, 27, 28, 29, 30, 31, 32, 33, 34, 35, 36, 37, 38, 39, 40, 41, 42] (by decide +kernel) (by decide +kernel)
set_option maxRecDepth 20000 in
theorem gX7_cambers_X7_isLeaf : GoodIn wsX7_cambers (wsV RX7 151 RX7 yX7_isLeaf wsX7_isLeaf) := goodIn_app (goodIn_of _ (by decide +kernel)) ggX7_cambers_X7_isLeaf
set_option maxRecDepth 20000 in
theorem ggX7_cambers_X7_in : GoodIn wsX7_cambers wsX7_in := goodIn_r _ [9] (by decide +kernel) (by decide +kernel)
set_option maxRecDepth 20000 in
theorem gX7_cambers_X7_in : GoodIn wsX7_cambers (va_wsS RX7 47 yX7_in wsX7_in) := goodIn_app (goodIn_of _ (by decide +kernel)) ggX7_cambers_X7_in
set_option maxRecDepth 20000 in
theorem ggX7_cambers_X7_of : GoodIn wsX7_cambers wsX7_of := goodIn_r _ [13, 1, 20, 21, 22, 23, 24, 25, 26, 27, 28, 29, 30, 31, 32, 33, 34, 35, 36, 37, 38, 39, 40, 41, 42] (by decide +kernel) (by decide +kernel)
set_option maxRecDepth 20000 in
theorem gX7_cambers_X7_of : GoodIn wsX7_cambers (wsV RX7 51 RX7 yX7_of wsX7_of) := goodIn_app (goodIn_of _ (by decide +kernel)) ggX7_cambers_X7_of
set_option maxRecDepth 20000 in
theorem ggX7_cambers_X7_notes : GoodIn wsX7_cambers wsX7_notes := goodIn_r _ [17, 18, 19, 1, 20, 21, 22, 23, 24, 25, 26, 27, 28, 29, 30, 31, 32, 33, 34, 35, 36, 37, 38, 39, 40, 41, 42] (by decide +kernel) (by decide +kernel)
set_option maxRecDepth 20000 in
theorem gX7_cambers_X7_notes : GoodIn wsX7_cambers (wsV RX7 99 RX7 yX7_notes wsX7_notes) := goodIn_app (goodIn_of _ (by decide +kernel)) ggX7_cambers_X7_notes
theorem dX7_cambers_0 : decode cX7_cambers 0 = .ok (.aload_n 0, 1) := by decide +kernel
theorem dX7_cambers_1 : decode cX7_cambers 1 = .ok (.iload_n 1, 1) := by decide +kernel
theorem dX7_cambers_2 : decode cX7_cambers 2 = .ok (.invokevirtual 151, 3) := by decide +kernel
theorem dX7_cambers_5 : decode cX7_cambers 5 = .ok (.ifCond .eq 13, 3) := by decide +kernel
theorem dX7_cambers_8 : decode cX7_cambers 8 = .ok (.iload_n 2, 1) := by decide +kernel
theorem dX7_cambers_9 : decode cX7_cambers 9 = .ok (.iconst 0, 1) := by decide +kernel
theorem dX7_cambers_10 : decode cX7_cambers 10 = .ok (.bipush 30, 2) := by decide +kernel
theorem dX7_cambers_12 : decode cX7_cambers 12 = .ok (.invokestatic 47, 3) := by decide +kernel
theorem dX7_cambers_15 : decode cX7_cambers 15 = .ok (.ifCond .ne 5, 3) := by decide +kernel
theorem dX7_cambers_18 : decode cX7_cambers 18 = .ok (.iconst (-1), 1) := by decide +kernel
theorem dX7_cambers_19 : decode cX7_cambers 19 = .ok (.ireturn, 1) := by decide +kernel
theorem dX7_cambers_20 : decode cX7_cambers 20 = .ok (.aload_n 0, 1) := by decide +kernel
theorem dX7_cambers_21 : decode cX7_cambers 21 = .ok (.iload_n 1, 1) := by decide +kernel
theorem dX7_cambers_22 : decode cX7_cambers 22 = .ok (.iconst 3, 1) := by decide +kernel
theorem dX7_cambers_23 : decode cX7_cambers 23 = .ok (.invokevirtual 51, 3) := by decide +kernel
theorem dX7_cambers_26 : decode cX7_cambers 26 = .ok (.istore_n 3, 1) := by decide +kernel
theorem dX7_cambers_27 : decode cX7_cambers 27 = .ok (.iload_n 3, 1) := by decide +kernel
theorem dX7_cambers_28 : decode cX7_cambers 28 = .ok (.iload_n 2, 1) := by decide +kernel
theorem dX7_cambers_29 : decode cX7_cambers 29 = .ok (.if_icmp .ne 6, 3) := by decide +kernel
theorem dX7_cambers_32 : decode cX7_cambers 32 = .ok (.bipush (-2), 2) := by decide +kernel
theorem dX7_cambers_34 : decode cX7_cambers 34 = .ok (.ireturn, 1) := by decide +kernel
theorem dX7_cambers_35 : decode cX7_cambers 35 = .ok (.aload_n 0, 1) := by decide +kernel
theorem dX7_cambers_36 : decode cX7_cambers 36 = .ok (.invokevirtual 99, 3) := by decide +kernel
theorem dX7_cambers_39 : decode cX7_cambers 39 = .ok (.aload_n 0, 1) := by decide +kernel
theorem dX7_cambers_40 : decode cX7_cambers 40 = .ok (.getfield 7, 3) := by decide +kernel
theorem dX7_cambers_43 : decode cX7_cambers 43 = .ok (.iconst 5, 1) := by decide +kernel
theorem dX7_cambers_44 : decode cX7_cambers 44 = .ok (.iload_n 1, 1) := by decide +kernel
theorem dX7_cambers_45 : decode cX7_cambers 45 = .ok (.imul, 1) := by decide +kernel
theorem dX7_cambers_46 : decode cX7_cambers 46 = .ok (.iconst 3, 1) := by decide +kernel
theorem dX7_cambers_47 : decode cX7_cambers 47 = .ok (.iadd, 1) := by decide +kernel
theorem dX7_cambers_48 : decode cX7_cambers 48 = .ok (.iload_n 2, 1) := by decide +kernel
theorem dX7_cambers_49 : decode cX7_cambers 49 = .ok (.iastore, 1) := by decide +kernel
theorem dX7_cambers_50 : decode cX7_cambers 50 = .ok (.iload_n 3, 1) := by decide +kernel
theorem dX7_cambers_51 : decode cX7_cambers 51 = .ok (.ireturn, 1) := by decide +kernel
set_option maxRecDepth 20000 in
theorem ggX7_leaf_X7_isLeaf : GoodIn wsX7_leaf wsX7_isLeaf := goodIn_r _ [7, 8, 9, 10, 6, 11, 27, 28, 29, 30, 31, 32, 33, 34, 35, 36, 37, 38, 39, 40, 41, 42, 43, 44, 45, 46, 47, 48, 49] (by decide +kernel) (by decide +kernel)
set_option maxRecDepth 20000 in
theorem gX7_leaf_X7_isLeaf : GoodIn wsX7_leaf (wsV RX7 151 RX7 yX7_isLeaf wsX7_isLeaf) := goodIn_app (goodIn_of _ (by decide +kernel)) ggX7_leaf_X7_isLeaf
set_option maxRecDepth 20000 in
theorem ggX7_leaf_X7_in : GoodIn wsX7_leaf wsX7_in := goodIn_r _ [11] (by decide +kernel) (by decide +kernel)
set_option maxRecDepth 20000 in
theorem gX7_leaf_X7_in : GoodIn wsX7_leaf (va_wsS RX7 47 yX7_in wsX7_in) := goodIn_app (goodIn_of _ (by decide +kernel)) ggX7_leaf_X7_in
set_option maxRecDepth 20000 in
theorem ggX7_leaf_X7_all : GoodIn wsX7_leaf wsX7_all := goodIn_r _ [15, 8, 27, 28, 29, 30, 31, 32, 33, 34, 35, 36, 37, 38, 39, 40, 41, 42, 43, 44, 45, 46, 47, 48, 49] (by decide +kernel) (by decide +kernel)
set_option maxRecDepth 20000 in
theorem gX7_leaf_X7_all : GoodIn wsX7_leaf (wsV RX7 135 RX7 yX7_all wsX7_all) := goodIn_app (goodIn_of _ (by decide +kernel)) ggX7_leaf_X7_all
set_option maxRecDepth 20000 in
theorem ggX7_leaf_X7_reaches : GoodIn wsX7_leaf wsX7_reaches := goodIn_r _ [19, 8, 1, 2, 20, 21, 6, 22, 23, 24, 25, 26, 27, 28, 29, 30, 31, 32, 33, 34, 35, 36, 37, 38, 39, 40, 41, 42, 43, 44, 45, 46, 47, 48, 49] (by decide +kernel) (by decide +kernel)
set_option maxRecDepth 20000 in
theorem gX7_leaf_X7_reaches : GoodIn wsX7_leaf (wsV RX7 108 RX7 yX7_reaches wsX7_reaches) := goodIn_app (goodIn_of _ (by decide +kernel)) ggX7_leaf_X7_reaches
set_option maxRecDepth 20000 in
theorem ggX7_leaf_X7_of : GoodIn wsX7_leaf wsX7_of := goodIn_r _ [26, 8, 27, 28, 29, 30, 31, 32, 33, 34, 35, 36, 37, 38, 39, 40, 41, 42, 43, 44, 45, 46, 47, 48, 49] (by decide +kernel) (by decide +kernel)
set_option maxRecDepth 20000 in
theorem gX7_leaf_X7_of : GoodIn wsX7_leaf (wsV RX7 51 RX7 yX7_of wsX7_of) := goodIn_app (goodIn_of _ (by decide +kernel)) ggX7_leaf_X7_of
theorem dX7_leaf_0 : decode cX7_leaf 0 = .ok (.aload_n 0, 1) := by decide +kernel
theorem dX7_leaf_1 : decode cX7_leaf 1 = .ok (.iload_n 1, 1) := by decide +kernel
theorem dX7_leaf_2 : decode cX7_leaf 2 = .ok (.invokevirtual 151, 3) := by decide +kernel
theorem dX7_leaf_5 : decode cX7_leaf 5 = .ok (.ifCond .eq 13, 3) := by decide +kernel
theorem dX7_leaf_8 : decode cX7_leaf 8 = .ok (.iload_n 2, 1) := by decide +kernel
theorem dX7_leaf_9 : decode cX7_leaf 9 = .ok (.iconst 0, 1) := by decide +kernel
theorem dX7_leaf_10 : decode cX7_leaf 10 = .ok (.bipush 6, 2) := by decide +kernel
theorem dX7_leaf_12 : decode cX7_leaf 12 = .ok (.invokestatic 47, 3) := by decide +kernel
theorem dX7_leaf_15 : decode cX7_leaf 15 = .ok (.ifCond .ne 5, 3) := by decide +kernel
theorem dX7_leaf_18 : decode cX7_leaf 18 = .ok (.iconst (-1), 1) := by decide +kernel
theorem dX7_leaf_19 : decode cX7_leaf 19 = .ok (.ireturn, 1) := by decide +kernel
theorem dX7_leaf_20 : decode cX7_leaf 20 = .ok (.aload_n 0, 1) := by decide +kernel
theorem dX7_leaf_21 : decode cX7_leaf 21 = .ok (.aload_n 0, 1) := by decide +kernel
theorem dX7_leaf_22 : decode cX7_leaf 22 = .ok (.invokevirtual 135, 3) := by decide +kernel
theorem dX7_leaf_25 : decode cX7_leaf 25 = .ok (.invokevirtual 108, 3) := by decide +kernel
theorem dX7_leaf_28 : decode cX7_leaf 28 = .ok (.iload_n 2, 1) := by decide +kernel
theorem dX7_leaf_29 : decode cX7_leaf 29 = .ok (.iconst 5, 1) := by decide +kernel
theorem dX7_leaf_30 : decode cX7_leaf 30 = .ok (.if_icmp .ge 14, 3) := by decide +kernel
theorem dX7_leaf_33 : decode cX7_leaf 33 = .ok (.aload_n 0, 1) := by decide +kernel
theorem dX7_leaf_34 : decode cX7_leaf 34 = .ok (.iload_n 1, 1) := by decide +kernel
theorem dX7_leaf_35 : decode cX7_leaf 35 = .ok (.iconst 1, 1) := by decide +kernel
theorem dX7_leaf_36 : decode cX7_leaf 36 = .ok (.iload_n 2, 1) := by decide +kernel
theorem dX7_leaf_37 : decode cX7_leaf 37 = .ok (.iadd, 1) := by decide +kernel
theorem dX7_leaf_38 : decode cX7_leaf 38 = .ok (.invokevirtual 51, 3) := by decide +kernel
theorem dX7_leaf_41 : decode cX7_leaf 41 = .ok (.goto 23, 3) := by decide +kernel
theorem dX7_leaf_44 : decode cX7_leaf 44 = .ok (.iload_n 2, 1) := by decide +kernel
theorem dX7_leaf_45 : decode cX7_leaf 45 = .ok (.iconst 5, 1) := by decide +kernel
theorem dX7_leaf_46 : decode cX7_leaf 46 = .ok (.if_icmp .ne 12, 3) := by decide +kernel
theorem dX7_leaf_49 : decode cX7_leaf 49 = .ok (.aload_n 0, 1) := by decide +kernel
theorem dX7_leaf_50 : decode cX7_leaf 50 = .ok (.getfield 35, 3) := by decide +kernel
theorem dX7_leaf_53 : decode cX7_leaf 53 = .ok (.iload_n 1, 1) := by decide +kernel
theorem dX7_leaf_54 : decode cX7_leaf 54 = .ok (.iaload, 1) := by decide +kernel
theorem dX7_leaf_55 : decode cX7_leaf 55 = .ok (.goto 9, 3) := by decide +kernel
theorem dX7_leaf_58 : decode cX7_leaf 58 = .ok (.aload_n 0, 1) := by decide +kernel
theorem dX7_leaf_59 : decode cX7_leaf 59 = .ok (.getfield 38, 3) := by decide +kernel
theorem dX7_leaf_62 : decode cX7_leaf 62 = .ok (.iload_n 1, 1) := by decide +kernel
theorem dX7_leaf_63 : decode cX7_leaf 63 = .ok (.iaload, 1) := by decide +kernel
theorem dX7_leaf_64 : decode cX7_leaf 64 = .ok (.ireturn, 1) := by decide +kernel
theorem dX7_common_0 : decode cX7_common 0 = .ok (.iload_n 0, 1) := by decide +kernel
theorem dX7_common_1 : decode cX7_common 1 = .ok (.istore_n 2, 1) := by decide +kernel
theorem dX7_common_2 : decode cX7_common 2 = .ok (.iload_n 1, 1) := by decide +kernel
theorem dX7_common_3 : decode cX7_common 3 = .ok (.istore_n 3, 1) := by decide +kernel
theorem dX7_common_4 : decode cX7_common 4 = .ok (.iload_n 3, 1) := by decide +kernel
theorem dX7_common_5 : decode cX7_common 5 = .ok (.ifCond .le 16, 3) := by decide +kernel
theorem dX7_common_8 : decode cX7_common 8 = .ok (.iload_n 2, 1) := by decide +kernel
theorem dX7_common_9 : decode cX7_common 9 = .ok (.iload_n 3, 1) := by decide +kernel
theorem dX7_common_10 : decode cX7_common 10 = .ok (.irem, 1) := by decide +kernel
theorem dX7_common_11 : decode cX7_common 11 = .ok (.istore 4, 2) := by decide +kernel
theorem dX7_common_13 : decode cX7_common 13 = .ok (.iload_n 3, 1) := by decide +kernel
theorem dX7_common_14 : decode cX7_common 14 = .ok (.istore_n 2, 1) := by decide +kernel
theorem dX7_common_15 : decode cX7_common 15 = .ok (.iload 4, 2) := by decide +kernel
theorem dX7_common_17 : decode cX7_common 17 = .ok (.istore_n 3, 1) := by decide +kernel
theorem dX7_common_18 : decode cX7_common 18 = .ok (.goto (-14), 3) := by decide +kernel
theorem dX7_common_21 : decode cX7_common 21 = .ok (.iload_n 2, 1) := by decide +kernel
theorem dX7_common_22 : decode cX7_common 22 = .ok (.ireturn, 1) := by decide +kernel
theorem dX7_cutOf_0 : decode cX7_cutOf 0 = .ok (.aload_n 0, 1) := by decide +kernel
theorem dX7_cutOf_1 : decode cX7_cutOf 1 = .ok (.getfield 121, 3) := by decide +kernel
theorem dX7_cutOf_4 : decode cX7_cutOf 4 = .ok (.ifCond .eq 15, 3) := by decide +kernel
theorem dX7_cutOf_7 : decode cX7_cutOf 7 = .ok (.aload_n 0, 1) := by decide +kernel
theorem dX7_cutOf_8 : decode cX7_cutOf 8 = .ok (.getfield 112, 3) := by decide +kernel
theorem dX7_cutOf_11 : decode cX7_cutOf 11 = .ok (.aload_n 0, 1) := by decide +kernel
theorem dX7_cutOf_12 : decode cX7_cutOf 12 = .ok (.getfield 115, 3) := by decide +kernel
theorem dX7_cutOf_15 : decode cX7_cutOf 15 = .ok (.idiv, 1) := by decide +kernel
theorem dX7_cutOf_16 : decode cX7_cutOf 16 = .ok (.goto 5, 3) := by decide +kernel
theorem dX7_cutOf_19 : decode cX7_cutOf 19 = .ok (.bipush (-9), 2) := by decide +kernel
theorem dX7_cutOf_21 : decode cX7_cutOf 21 = .ok (.ireturn, 1) := by decide +kernel
set_option maxRecDepth 20000 in
theorem ggX7_bend_X7_in : GoodIn wsX7_bend wsX7_in := goodIn_r _ [7] (by decide +kernel) (by decide +kernel)
set_option maxRecDepth 20000 in
theorem gX7_bend_X7_in : GoodIn wsX7_bend (va_wsS RX7 47 yX7_in wsX7_in) := goodIn_app (goodIn_of _ (by decide +kernel)) ggX7_bend_X7_in
set_option maxRecDepth 20000 in
theorem ggX7_bend_X7_all : GoodIn wsX7_bend wsX7_all := goodIn_r _ [11, 12, 46, 47, 48, 49, 50, 51, 52, 53, 54, 55, 56, 57, 58, 59, 60, 61, 62, 63, 64, 65, 66, 67, 68] (by decide +kernel) (by decide +kernel)
set_option maxRecDepth 20000 in
theorem gX7_bend_X7_all : GoodIn wsX7_bend (wsV RX7 135 RX7 yX7_all wsX7_all) := goodIn_app (goodIn_of _ (by decide +kernel)) ggX7_bend_X7_all
set_option maxRecDepth 20000 in
theorem ggX7_bend_X7_whole : GoodIn wsX7_bend wsX7_whole := goodIn_r _ [16, 12, 17, 18, 19, 6, 20, 21, 22, 23, 24, 46, 47, 48, 49, 50, 51, 52, 53, 54, 55, 56, 57, 58, 59, 60, 61, 62, 63, 64, 65, 66, 67, 68] (by decide +kernel) (by decide +kernel)
set_option maxRecDepth 20000 in
theorem gX7_bend_X7_whole : GoodIn wsX7_bend (wsV RX7 131 RX7 yX7_whole wsX7_whole) := goodIn_app (goodIn_of _ (by decide +kernel)) ggX7_bend_X7_whole
set_option maxRecDepth 20000 in
theorem ggX7_bend_X7_bends : GoodIn wsX7_bend wsX7_bends := goodIn_r _ [28, 2, 3, 29, 1, 12, 30, 31, 32, 33, 6, 34, 35, 36, 37, 38, 21, 22, 23, 24, 46, 47, 48, 49, 50, 51, 52, 53, 54, 55, 56, 57, 58, 59, 60, 61, 62, 63, 64, 65, 66, 67, 68] (by decide +kernel) (by decide +kernel)
set_option maxRecDepth 20000 in
theorem gX7_bend_X7_bends : GoodIn wsX7_bend (wsV RX7 138 RX7 yX7_bends wsX7_bends) := goodIn_app (goodIn_of _ (by decide +kernel)) ggX7_bend_X7_bends
set_option maxRecDepth 20000 in
theorem ggX7_bend_X7_cutOf : GoodIn wsX7_bend wsX7_cutOf := goodIn_r _ [42, 1, 2, 3, 46, 47, 48, 49, 50, 51, 52, 53, 54, 55, 56, 57, 58, 59, 60, 61, 62, 63, 64, 65, 66, 67, 68] (by decide +kernel) (by decide +kernel)
set_option maxRecDepth 20000 in
theorem gX7_bend_X7_cutOf : GoodIn wsX7_bend (wsV RX7 154 RX7 yX7_cutOf wsX7_cutOf) := goodIn_app (goodIn_of _ (by decide +kernel)) ggX7_bend_X7_cutOf
set_option maxRecDepth 20000 in
theorem ggX7_bend_X7_common : GoodIn wsX7_bend wsX7_common := goodIn_r _ [45] (by decide +kernel) (by decide +kernel)
set_option maxRecDepth 20000 in
theorem gX7_bend_X7_common : GoodIn wsX7_bend (va_wsS RX7 157 yX7_common wsX7_common) := goodIn_app (goodIn_of _ (by decide +kernel)) ggX7_bend_X7_common
theorem dX7_bend_0 : decode cX7_bend 0 = .ok (.iload_n 1, 1) := by decide +kernel
theorem dX7_bend_1 : decode cX7_bend 1 = .ok (.iconst 0, 1) := by decide +kernel
theorem dX7_bend_2 : decode cX7_bend 2 = .ok (.sipush 999, 3) := by decide +kernel
theorem dX7_bend_5 : decode cX7_bend 5 = .ok (.invokestatic 47, 3) := by decide +kernel
theorem dX7_bend_8 : decode cX7_bend 8 = .ok (.ifCond .eq 12, 3) := by decide +kernel
theorem dX7_bend_11 : decode cX7_bend 11 = .ok (.iload_n 2, 1) := by decide +kernel
theorem dX7_bend_12 : decode cX7_bend 12 = .ok (.iconst 0, 1) := by decide +kernel
theorem dX7_bend_13 : decode cX7_bend 13 = .ok (.iconst 2, 1) := by decide +kernel
theorem dX7_bend_14 : decode cX7_bend 14 = .ok (.invokestatic 47, 3) := by decide +kernel
theorem dX7_bend_17 : decode cX7_bend 17 = .ok (.ifCond .ne 5, 3) := by decide +kernel
theorem dX7_bend_20 : decode cX7_bend 20 = .ok (.iconst (-1), 1) := by decide +kernel
theorem dX7_bend_21 : decode cX7_bend 21 = .ok (.ireturn, 1) := by decide +kernel
theorem dX7_bend_22 : decode cX7_bend 22 = .ok (.aload_n 0, 1) := by decide +kernel
theorem dX7_bend_23 : decode cX7_bend 23 = .ok (.aload_n 0, 1) := by decide +kernel
theorem dX7_bend_24 : decode cX7_bend 24 = .ok (.invokevirtual 135, 3) := by decide +kernel
theorem dX7_bend_27 : decode cX7_bend 27 = .ok (.aload_n 0, 1) := by decide +kernel
theorem dX7_bend_28 : decode cX7_bend 28 = .ok (.invokevirtual 131, 3) := by decide +kernel
theorem dX7_bend_31 : decode cX7_bend 31 = .ok (.iload_n 1, 1) := by decide +kernel
theorem dX7_bend_32 : decode cX7_bend 32 = .ok (.invokevirtual 138, 3) := by decide +kernel
theorem dX7_bend_35 : decode cX7_bend 35 = .ok (.aload_n 0, 1) := by decide +kernel
theorem dX7_bend_36 : decode cX7_bend 36 = .ok (.getfield 121, 3) := by decide +kernel
theorem dX7_bend_39 : decode cX7_bend 39 = .ok (.ifCond .eq 8, 3) := by decide +kernel
theorem dX7_bend_42 : decode cX7_bend 42 = .ok (.iload_n 2, 1) := by decide +kernel
theorem dX7_bend_43 : decode cX7_bend 43 = .ok (.iconst 2, 1) := by decide +kernel
theorem dX7_bend_44 : decode cX7_bend 44 = .ok (.if_icmp .ne 8, 3) := by decide +kernel
theorem dX7_bend_47 : decode cX7_bend 47 = .ok (.aload_n 0, 1) := by decide +kernel
theorem dX7_bend_48 : decode cX7_bend 48 = .ok (.invokevirtual 154, 3) := by decide +kernel
theorem dX7_bend_51 : decode cX7_bend 51 = .ok (.ireturn, 1) := by decide +kernel
theorem dX7_bend_52 : decode cX7_bend 52 = .ok (.aload_n 0, 1) := by decide +kernel
theorem dX7_bend_53 : decode cX7_bend 53 = .ok (.getfield 112, 3) := by decide +kernel
theorem dX7_bend_56 : decode cX7_bend 56 = .ok (.aload_n 0, 1) := by decide +kernel
theorem dX7_bend_57 : decode cX7_bend 57 = .ok (.getfield 115, 3) := by decide +kernel
theorem dX7_bend_60 : decode cX7_bend 60 = .ok (.invokestatic 157, 3) := by decide +kernel
theorem dX7_bend_63 : decode cX7_bend 63 = .ok (.istore_n 3, 1) := by decide +kernel
theorem dX7_bend_64 : decode cX7_bend 64 = .ok (.iload_n 2, 1) := by decide +kernel
theorem dX7_bend_65 : decode cX7_bend 65 = .ok (.ifCond .ne 12, 3) := by decide +kernel
theorem dX7_bend_68 : decode cX7_bend 68 = .ok (.aload_n 0, 1) := by decide +kernel
theorem dX7_bend_69 : decode cX7_bend 69 = .ok (.getfield 112, 3) := by decide +kernel
theorem dX7_bend_72 : decode cX7_bend 72 = .ok (.iload_n 3, 1) := by decide +kernel
theorem dX7_bend_73 : decode cX7_bend 73 = .ok (.idiv, 1) := by decide +kernel
theorem dX7_bend_74 : decode cX7_bend 74 = .ok (.goto 9, 3) := by decide +kernel
theorem dX7_bend_77 : decode cX7_bend 77 = .ok (.aload_n 0, 1) := by decide +kernel
theorem dX7_bend_78 : decode cX7_bend 78 = .ok (.getfield 115, 3) := by decide +kernel
theorem dX7_bend_81 : decode cX7_bend 81 = .ok (.iload_n 3, 1) := by decide +kernel
theorem dX7_bend_82 : decode cX7_bend 82 = .ok (.idiv, 1) := by decide +kernel
theorem dX7_bend_83 : decode cX7_bend 83 = .ok (.ireturn, 1) := by decide +kernel
set_option maxRecDepth 20000 in
theorem ggX7_bears_X7_isLeaf : GoodIn wsX7_bears wsX7_isLeaf := goodIn_r _ [7, 8, 9, 10, 6, 11, 50, 51, 52, 53, 54, 55, 56, 57, 58, 59, 60, 61, 62, 63, 64, 65, 66, 67, 68, 69, 70, 71, 72] (by decide +kernel) (by decide +kernel)
set_option maxRecDepth 20000 in
theorem gX7_bears_X7_isLeaf : GoodIn wsX7_bears (wsV RX7 151 RX7 yX7_isLeaf wsX7_isLeaf) := goodIn_app (goodIn_of _ (by decide +kernel)) ggX7_bears_X7_isLeaf
set_option maxRecDepth 20000 in
theorem ggX7_bears_X7_in : GoodIn wsX7_bears wsX7_in := goodIn_r _ [11] (by decide +kernel) (by decide +kernel)
set_option maxRecDepth 20000 in
theorem gX7_bears_X7_in : GoodIn wsX7_bears (va_wsS RX7 47 yX7_in wsX7_in) := goodIn_app (goodIn_of _ (by decide +kernel)) ggX7_bears_X7_in
set_option maxRecDepth 20000 in
theorem ggX7_bears_X7_whole : GoodIn wsX7_bears wsX7_whole := goodIn_r _ [15, 8, 16, 17, 18, 6, 19, 20, 21, 22, 23, 50, 51, 52, 53, 54, 55, 56, 57, 58, 59, 60, 61, 62, 63, 64, 65, 66, 67, 68, 69, 70, 71, 72] (by decide +kernel) (by decide +kernel)
set_option maxRecDepth 20000 in
theorem gX7_bears_X7_whole : GoodIn wsX7_bears (wsV RX7 131 RX7 yX7_whole wsX7_whole) := goodIn_app (goodIn_of _ (by decide +kernel)) ggX7_bears_X7_whole
set_option maxRecDepth 20000 in
theorem ggX7_bears_X7_all : GoodIn wsX7_bears wsX7_all := goodIn_r _ [27, 8, 50, 51, 52, 53, 54, 55, 56, 57, 58, 59, 60, 61, 62, 63, 64, 65, 66, 67, 68, 69, 70, 71, 72] (by decide +kernel) (by decide +kernel)
set_option maxRecDepth 20000 in
theorem gX7_bears_X7_all : GoodIn wsX7_bears (wsV RX7 135 RX7 yX7_all wsX7_all) := goodIn_app (goodIn_of _ (by decide +kernel)) ggX7_bears_X7_all
set_option maxRecDepth 20000 in
theorem ggX7_bears_X7_bends : GoodIn wsX7_bears wsX7_bends := goodIn_r _ [31, 32, 2, 33, 1, 8, 34, 35, 36, 37, 6, 38, 39, 40, 41, 42, 20, 21, 22, 23, 50, 51, 52, 53, 54, 55, 56, 57, 58, 59, 60, 61, 62, 63, 64, 65, 66, 67, 68, 69, 70, 71, 72] (by decide +kernel) (by decide +kernel)
set_option maxRecDepth 20000 in
theorem gX7_bears_X7_bends : GoodIn wsX7_bears (wsV RX7 138 RX7 yX7_bends wsX7_bends) := goodIn_app (goodIn_of _ (by decide +kernel)) ggX7_bears_X7_bends
set_option maxRecDepth 20000 in
theorem ggX7_bears_X7_bearsBy : GoodIn wsX7_bears wsX7_bearsBy := goodIn_r _ [46, 32, 34, 2, 40, 41, 6, 42, 20, 21, 22, 23, 8, 50, 51, 52, 53, 54, 55, 56, 57, 58, 59, 60, 61, 62, 63, 64, 65, 66, 67, 68, 69, 70, 71, 72] (by decide +kernel) (by decide +kernel)
set_option maxRecDepth 20000 in
theorem gX7_bears_X7_bearsBy : GoodIn wsX7_bears (wsV RX7 125 RX7 yX7_bearsBy wsX7_bearsBy) := goodIn_app (goodIn_of _ (by decide +kernel)) ggX7_bears_X7_bearsBy
set_option maxRecDepth 20000 in
theorem ggX7_bears_X7_of : GoodIn wsX7_bears wsX7_of := goodIn_r _ [23, 8, 50, 51, 52, 53, 54, 55, 56, 57, 58, 59, 60, 61, 62, 63, 64, 65, 66, 67, 68, 69, 70, 71, 72] (by decide +kernel) (by decide +kernel)
set_option maxRecDepth 20000 in
theorem gX7_bears_X7_of : GoodIn wsX7_bears (wsV RX7 51 RX7 yX7_of wsX7_of) := goodIn_app (goodIn_of _ (by decide +kernel)) ggX7_bears_X7_of
set_option maxRecDepth 20000 in
theorem ggX7_bears_X7_common : GoodIn wsX7_bears wsX7_common := goodIn_r _ [49] (by decide +kernel) (by decide +kernel)
set_option maxRecDepth 20000 in
theorem gX7_bears_X7_common : GoodIn wsX7_bears (va_wsS RX7 157 yX7_common wsX7_common) := goodIn_app (goodIn_of _ (by decide +kernel)) ggX7_bears_X7_common
theorem dX7_bears_0 : decode cX7_bears 0 = .ok (.aload_n 0, 1) := by decide +kernel
theorem dX7_bears_1 : decode cX7_bears 1 = .ok (.iload_n 1, 1) := by decide +kernel
theorem dX7_bears_2 : decode cX7_bears 2 = .ok (.invokevirtual 151, 3) := by decide +kernel
theorem dX7_bears_5 : decode cX7_bears 5 = .ok (.ifCond .eq 23, 3) := by decide +kernel
theorem dX7_bears_8 : decode cX7_bears 8 = .ok (.iload_n 2, 1) := by decide +kernel
theorem dX7_bears_9 : decode cX7_bears 9 = .ok (.iconst 0, 1) := by decide +kernel
theorem dX7_bears_10 : decode cX7_bears 10 = .ok (.sipush 999, 3) := by decide +kernel
theorem dX7_bears_13 : decode cX7_bears 13 = .ok (.invokestatic 47, 3) := by decide +kernel
theorem dX7_bears_16 : decode cX7_bears 16 = .ok (.ifCond .eq 12, 3) := by decide +kernel
theorem dX7_bears_19 : decode cX7_bears 19 = .ok (.iload_n 3, 1) := by decide +kernel
theorem dX7_bears_20 : decode cX7_bears 20 = .ok (.iconst 0, 1) := by decide +kernel
theorem dX7_bears_21 : decode cX7_bears 21 = .ok (.iconst 2, 1) := by decide +kernel
theorem dX7_bears_22 : decode cX7_bears 22 = .ok (.invokestatic 47, 3) := by decide +kernel
theorem dX7_bears_25 : decode cX7_bears 25 = .ok (.ifCond .ne 5, 3) := by decide +kernel
theorem dX7_bears_28 : decode cX7_bears 28 = .ok (.iconst (-1), 1) := by decide +kernel
theorem dX7_bears_29 : decode cX7_bears 29 = .ok (.ireturn, 1) := by decide +kernel
theorem dX7_bears_30 : decode cX7_bears 30 = .ok (.aload_n 0, 1) := by decide +kernel
theorem dX7_bears_31 : decode cX7_bears 31 = .ok (.invokevirtual 131, 3) := by decide +kernel
theorem dX7_bears_34 : decode cX7_bears 34 = .ok (.istore 4, 2) := by decide +kernel
theorem dX7_bears_36 : decode cX7_bears 36 = .ok (.aload_n 0, 1) := by decide +kernel
theorem dX7_bears_37 : decode cX7_bears 37 = .ok (.aload_n 0, 1) := by decide +kernel
theorem dX7_bears_38 : decode cX7_bears 38 = .ok (.invokevirtual 135, 3) := by decide +kernel
theorem dX7_bears_41 : decode cX7_bears 41 = .ok (.iload 4, 2) := by decide +kernel
theorem dX7_bears_43 : decode cX7_bears 43 = .ok (.iload_n 2, 1) := by decide +kernel
theorem dX7_bears_44 : decode cX7_bears 44 = .ok (.invokevirtual 138, 3) := by decide +kernel
theorem dX7_bears_47 : decode cX7_bears 47 = .ok (.aload_n 0, 1) := by decide +kernel
theorem dX7_bears_48 : decode cX7_bears 48 = .ok (.getfield 121, 3) := by decide +kernel
theorem dX7_bears_51 : decode cX7_bears 51 = .ok (.ifCond .ne 6, 3) := by decide +kernel
theorem dX7_bears_54 : decode cX7_bears 54 = .ok (.bipush (-9), 2) := by decide +kernel
theorem dX7_bears_56 : decode cX7_bears 56 = .ok (.ireturn, 1) := by decide +kernel
theorem dX7_bears_57 : decode cX7_bears 57 = .ok (.aload_n 0, 1) := by decide +kernel
theorem dX7_bears_58 : decode cX7_bears 58 = .ok (.iload 4, 2) := by decide +kernel
theorem dX7_bears_60 : decode cX7_bears 60 = .ok (.iload_n 1, 1) := by decide +kernel
theorem dX7_bears_61 : decode cX7_bears 61 = .ok (.invokevirtual 125, 3) := by decide +kernel
theorem dX7_bears_64 : decode cX7_bears 64 = .ok (.istore 5, 2) := by decide +kernel
theorem dX7_bears_66 : decode cX7_bears 66 = .ok (.iload_n 3, 1) := by decide +kernel
theorem dX7_bears_67 : decode cX7_bears 67 = .ok (.iconst 2, 1) := by decide +kernel
theorem dX7_bears_68 : decode cX7_bears 68 = .ok (.if_icmp .ne 25, 3) := by decide +kernel
theorem dX7_bears_71 : decode cX7_bears 71 = .ok (.iload 5, 2) := by decide +kernel
theorem dX7_bears_73 : decode cX7_bears 73 = .ok (.aload_n 0, 1) := by decide +kernel
theorem dX7_bears_74 : decode cX7_bears 74 = .ok (.iload_n 1, 1) := by decide +kernel
theorem dX7_bears_75 : decode cX7_bears 75 = .ok (.iconst 4, 1) := by decide +kernel
theorem dX7_bears_76 : decode cX7_bears 76 = .ok (.invokevirtual 51, 3) := by decide +kernel
theorem dX7_bears_79 : decode cX7_bears 79 = .ok (.aload_n 0, 1) := by decide +kernel
theorem dX7_bears_80 : decode cX7_bears 80 = .ok (.getfield 115, 3) := by decide +kernel
theorem dX7_bears_83 : decode cX7_bears 83 = .ok (.imul, 1) := by decide +kernel
theorem dX7_bears_84 : decode cX7_bears 84 = .ok (.if_icmp .le 7, 3) := by decide +kernel
theorem dX7_bears_87 : decode cX7_bears 87 = .ok (.iconst 1, 1) := by decide +kernel
theorem dX7_bears_88 : decode cX7_bears 88 = .ok (.goto 4, 3) := by decide +kernel
theorem dX7_bears_91 : decode cX7_bears 91 = .ok (.iconst 0, 1) := by decide +kernel
theorem dX7_bears_92 : decode cX7_bears 92 = .ok (.ireturn, 1) := by decide +kernel
theorem dX7_bears_93 : decode cX7_bears 93 = .ok (.iload 5, 2) := by decide +kernel
theorem dX7_bears_95 : decode cX7_bears 95 = .ok (.aload_n 0, 1) := by decide +kernel
theorem dX7_bears_96 : decode cX7_bears 96 = .ok (.getfield 115, 3) := by decide +kernel
theorem dX7_bears_99 : decode cX7_bears 99 = .ok (.invokestatic 157, 3) := by decide +kernel
theorem dX7_bears_102 : decode cX7_bears 102 = .ok (.istore 6, 2) := by decide +kernel
theorem dX7_bears_104 : decode cX7_bears 104 = .ok (.iload_n 3, 1) := by decide +kernel
theorem dX7_bears_105 : decode cX7_bears 105 = .ok (.ifCond .ne 11, 3) := by decide +kernel
theorem dX7_bears_108 : decode cX7_bears 108 = .ok (.iload 5, 2) := by decide +kernel
theorem dX7_bears_110 : decode cX7_bears 110 = .ok (.iload 6, 2) := by decide +kernel
theorem dX7_bears_112 : decode cX7_bears 112 = .ok (.idiv, 1) := by decide +kernel
theorem dX7_bears_113 : decode cX7_bears 113 = .ok (.goto 10, 3) := by decide +kernel
theorem dX7_bears_116 : decode cX7_bears 116 = .ok (.aload_n 0, 1) := by decide +kernel
theorem dX7_bears_117 : decode cX7_bears 117 = .ok (.getfield 115, 3) := by decide +kernel
theorem dX7_bears_120 : decode cX7_bears 120 = .ok (.iload 6, 2) := by decide +kernel
theorem dX7_bears_122 : decode cX7_bears 122 = .ok (.idiv, 1) := by decide +kernel
theorem dX7_bears_123 : decode cX7_bears 123 = .ok (.ireturn, 1) := by decide +kernel
set_option maxRecDepth 20000 in
theorem ggX7_rate_X7_in : GoodIn wsX7_rate wsX7_in := goodIn_r _ [6] (by decide +kernel) (by decide +kernel)
set_option maxRecDepth 20000 in
theorem gX7_rate_X7_in : GoodIn wsX7_rate (va_wsS RX7 47 yX7_in wsX7_in) := goodIn_app (goodIn_of _ (by decide +kernel)) ggX7_rate_X7_in
set_option maxRecDepth 20000 in
theorem ggX7_rate_X7_all : GoodIn wsX7_rate wsX7_all := goodIn_r _ [10, 11, 39, 40, 41, 42, 43, 44, 45, 46, 47, 48, 49, 50, 51, 52, 53, 54, 55, 56, 57, 58, 59, 60, 61] (by decide +kernel) (by decide +kernel)
set_option maxRecDepth 20000 in
theorem gX7_rate_X7_all : GoodIn wsX7_rate (wsV RX7 135 RX7 yX7_all wsX7_all) := goodIn_app (goodIn_of _ (by decide +kernel)) ggX7_rate_X7_all
set_option maxRecDepth 20000 in
theorem ggX7_rate_X7_whole : GoodIn wsX7_rate wsX7_whole := goodIn_r _ [15, 11, 16, 17, 18, 5, 19, 20, 21, 22, 23, 39, 40, 41, 42, 43, 44, 45, 46, 47, 48, 49, 50, 51, 52, 53, 54, 55, 56, 57, 58, 59, 60, 61] (by decide +kernel) (by decide +kernel)
set_option maxRecDepth 20000 in
theorem gX7_rate_X7_whole : GoodIn wsX7_rate (wsV RX7 131 RX7 yX7_whole wsX7_whole) := goodIn_app (goodIn_of _ (by decide +kernel)) ggX7_rate_X7_whole
set_option maxRecDepth 20000 in
theorem ggX7_rate_X7_bends : GoodIn wsX7_rate wsX7_bends := goodIn_r _ [27, 28, 29, 2, 1, 11, 30, 31, 32, 33, 5, 34, 35, 36, 37, 38, 20, 21, 22, 23, 39, 40, 41, 42, 43, 44, 45, 46, 47, 48, 49, 50, 51, 52, 53, 54, 55, 56, 57, 58, 59, 60, 61] (by decide +kernel) (by decide +kernel)
set_option maxRecDepth 20000 in
theorem gX7_rate_X7_bends : GoodIn wsX7_rate (wsV RX7 138 RX7 yX7_bends wsX7_bends) := goodIn_app (goodIn_of _ (by decide +kernel)) ggX7_rate_X7_bends
theorem dX7_rate_0 : decode cX7_rate 0 = .ok (.iload_n 1, 1) := by decide +kernel
theorem dX7_rate_1 : decode cX7_rate 1 = .ok (.iconst 0, 1) := by decide +kernel
theorem dX7_rate_2 : decode cX7_rate 2 = .ok (.sipush 999, 3) := by decide +kernel
theorem dX7_rate_5 : decode cX7_rate 5 = .ok (.invokestatic 47, 3) := by decide +kernel
theorem dX7_rate_8 : decode cX7_rate 8 = .ok (.ifCond .ne 5, 3) := by decide +kernel
theorem dX7_rate_11 : decode cX7_rate 11 = .ok (.iconst (-1), 1) := by decide +kernel
theorem dX7_rate_12 : decode cX7_rate 12 = .ok (.ireturn, 1) := by decide +kernel
theorem dX7_rate_13 : decode cX7_rate 13 = .ok (.aload_n 0, 1) := by decide +kernel
theorem dX7_rate_14 : decode cX7_rate 14 = .ok (.aload_n 0, 1) := by decide +kernel
theorem dX7_rate_15 : decode cX7_rate 15 = .ok (.invokevirtual 135, 3) := by decide +kernel
theorem dX7_rate_18 : decode cX7_rate 18 = .ok (.aload_n 0, 1) := by decide +kernel
theorem dX7_rate_19 : decode cX7_rate 19 = .ok (.invokevirtual 131, 3) := by decide +kernel
theorem dX7_rate_22 : decode cX7_rate 22 = .ok (.iload_n 1, 1) := by decide +kernel
theorem dX7_rate_23 : decode cX7_rate 23 = .ok (.invokevirtual 138, 3) := by decide +kernel
theorem dX7_rate_26 : decode cX7_rate 26 = .ok (.aload_n 0, 1) := by decide +kernel
theorem dX7_rate_27 : decode cX7_rate 27 = .ok (.getfield 121, 3) := by decide +kernel
theorem dX7_rate_30 : decode cX7_rate 30 = .ok (.ifCond .eq 10, 3) := by decide +kernel
theorem dX7_rate_33 : decode cX7_rate 33 = .ok (.aload_n 0, 1) := by decide +kernel
theorem dX7_rate_34 : decode cX7_rate 34 = .ok (.getfield 118, 3) := by decide +kernel
theorem dX7_rate_37 : decode cX7_rate 37 = .ok (.goto 5, 3) := by decide +kernel
theorem dX7_rate_40 : decode cX7_rate 40 = .ok (.bipush (-9), 2) := by decide +kernel
theorem dX7_rate_42 : decode cX7_rate 42 = .ok (.ireturn, 1) := by decide +kernel
set_option maxRecDepth 20000 in
theorem ggX7_least_X7_in : GoodIn wsX7_least wsX7_in := goodIn_r _ [4] (by decide +kernel) (by decide +kernel)
set_option maxRecDepth 20000 in
theorem gX7_least_X7_in : GoodIn wsX7_least (va_wsS RX7 47 yX7_in wsX7_in) := goodIn_app (goodIn_of _ (by decide +kernel)) ggX7_least_X7_in
set_option maxRecDepth 20000 in
theorem ggX7_least_X7_whole : GoodIn wsX7_least wsX7_whole := goodIn_r _ [8, 9, 10, 11, 12, 3, 13, 14, 15, 16, 17, 58, 59, 60, 61, 62, 63, 64, 65, 66, 67, 68, 69, 70, 71, 72, 73, 74, 75, 76, 77, 78, 79, 80] (by decide +kernel) (by decide +kernel)
set_option maxRecDepth 20000 in
theorem gX7_least_X7_whole : GoodIn wsX7_least (wsV RX7 131 RX7 yX7_whole wsX7_whole) := goodIn_app (goodIn_of _ (by decide +kernel)) ggX7_least_X7_whole
set_option maxRecDepth 20000 in
theorem ggX7_least_X7_all : GoodIn wsX7_least wsX7_all := goodIn_r _ [21, 9, 58, 59, 60, 61, 62, 63, 64, 65, 66, 67, 68, 69, 70, 71, 72, 73, 74, 75, 76, 77, 78, 79, 80] (by decide +kernel) (by decide +kernel)
set_option maxRecDepth 20000 in
theorem gX7_least_X7_all : GoodIn wsX7_least (wsV RX7 135 RX7 yX7_all wsX7_all) := goodIn_app (goodIn_of _ (by decide +kernel)) ggX7_least_X7_all
set_option maxRecDepth 20000 in
theorem ggX7_least_X7_bends : GoodIn wsX7_least wsX7_bends := goodIn_r _ [25, 26, 27, 28, 29, 9, 30, 31, 32, 33, 3, 34, 35, 36, 37, 38, 14, 15, 16, 17, 58, 59, 60, 61, 62, 63, 64, 65, 66, 67, 68, 69, 70, 71, 72, 73, 74, 75, 76, 77, 78, 79, 80] (by decide +kernel) (by decide +kernel)
set_option maxRecDepth 20000 in
theorem gX7_least_X7_bends : GoodIn wsX7_least (wsV RX7 138 RX7 yX7_bends wsX7_bends) := goodIn_app (goodIn_of _ (by decide +kernel)) ggX7_least_X7_bends
set_option maxRecDepth 20000 in
theorem ggX7_least_X7_breaking : GoodIn wsX7_least wsX7_breaking := goodIn_r _ [42, 9, 36, 37, 3, 38, 43, 44, 45, 46, 27, 47, 48, 49, 50, 26, 30, 14, 15, 16, 17, 58, 59, 60, 61, 62, 63, 64, 65, 66, 67, 68, 69, 70, 71, 72, 73, 74, 75, 76, 77, 78, 79, 80] (by decide +kernel) (by decide +kernel)
set_option maxRecDepth 20000 in
theorem gX7_least_X7_breaking : GoodIn wsX7_least (wsV RX7 142 RX7 yX7_breaking wsX7_breaking) := goodIn_app (goodIn_of _ (by decide +kernel)) ggX7_least_X7_breaking
set_option maxRecDepth 20000 in
theorem ggX7_least_X7_ones : GoodIn wsX7_least wsX7_ones := goodIn_r _ [53, 36, 37, 3, 38] (by decide +kernel) (by decide +kernel)
set_option maxRecDepth 20000 in
theorem gX7_least_X7_ones : GoodIn wsX7_least (va_wsS RX7 145 yX7_ones wsX7_ones) := goodIn_app (goodIn_of _ (by decide +kernel)) ggX7_least_X7_ones
set_option maxRecDepth 20000 in
theorem ggX7_least_X7_wholeBehind : GoodIn wsX7_least wsX7_wholeBehind := goodIn_r _ [57, 5, 6, 7, 3, 8, 9, 10, 11, 12, 13, 14, 15, 16, 17, 18, 19, 20, 21, 22, 23, 24, 25, 26, 27, 28, 29, 30, 31, 32, 33, 34, 35, 36, 37, 38, 39, 40, 41, 42, 43, 44, 45, 46, 47, 48, 49, 50, 58, 59, 60, 61, 62, 63, 64, 65, 66, 67, 68, 69, 70, 71, 72, 73, 74, 75, 76, 77, 78, 79, 80] (by decide +kernel) (by decide +kernel)
set_option maxRecDepth 20000 in
theorem gX7_least_X7_wholeBehind : GoodIn wsX7_least (wsV RX7 148 RX7 yX7_wholeBehind wsX7_wholeBehind) := goodIn_app (goodIn_of _ (by decide +kernel)) ggX7_least_X7_wholeBehind
theorem dX7_least_0 : decode cX7_least 0 = .ok (.iload_n 1, 1) := by decide +kernel
theorem dX7_least_1 : decode cX7_least 1 = .ok (.iconst 0, 1) := by decide +kernel
theorem dX7_least_2 : decode cX7_least 2 = .ok (.iconst 2, 1) := by decide +kernel
theorem dX7_least_3 : decode cX7_least 3 = .ok (.invokestatic 47, 3) := by decide +kernel
theorem dX7_least_6 : decode cX7_least 6 = .ok (.ifCond .ne 5, 3) := by decide +kernel
theorem dX7_least_9 : decode cX7_least 9 = .ok (.iconst (-1), 1) := by decide +kernel
theorem dX7_least_10 : decode cX7_least 10 = .ok (.ireturn, 1) := by decide +kernel
theorem dX7_least_11 : decode cX7_least 11 = .ok (.aload_n 0, 1) := by decide +kernel
theorem dX7_least_12 : decode cX7_least 12 = .ok (.invokevirtual 131, 3) := by decide +kernel
theorem dX7_least_15 : decode cX7_least 15 = .ok (.istore_n 2, 1) := by decide +kernel
theorem dX7_least_16 : decode cX7_least 16 = .ok (.iconst 1, 1) := by decide +kernel
theorem dX7_least_17 : decode cX7_least 17 = .ok (.istore_n 3, 1) := by decide +kernel
theorem dX7_least_18 : decode cX7_least 18 = .ok (.iload_n 3, 1) := by decide +kernel
theorem dX7_least_19 : decode cX7_least 19 = .ok (.sipush 999, 3) := by decide +kernel
theorem dX7_least_22 : decode cX7_least 22 = .ok (.if_icmp .gt 69, 3) := by decide +kernel
theorem dX7_least_25 : decode cX7_least 25 = .ok (.iload_n 2, 1) := by decide +kernel
theorem dX7_least_26 : decode cX7_least 26 = .ok (.ifCond .eq 65, 3) := by decide +kernel
theorem dX7_least_29 : decode cX7_least 29 = .ok (.aload_n 0, 1) := by decide +kernel
theorem dX7_least_30 : decode cX7_least 30 = .ok (.aload_n 0, 1) := by decide +kernel
theorem dX7_least_31 : decode cX7_least 31 = .ok (.invokevirtual 135, 3) := by decide +kernel
theorem dX7_least_34 : decode cX7_least 34 = .ok (.iload_n 2, 1) := by decide +kernel
theorem dX7_least_35 : decode cX7_least 35 = .ok (.iload_n 3, 1) := by decide +kernel
theorem dX7_least_36 : decode cX7_least 36 = .ok (.invokevirtual 138, 3) := by decide +kernel
theorem dX7_least_39 : decode cX7_least 39 = .ok (.aload_n 0, 1) := by decide +kernel
theorem dX7_least_40 : decode cX7_least 40 = .ok (.iload_n 2, 1) := by decide +kernel
theorem dX7_least_41 : decode cX7_least 41 = .ok (.invokevirtual 142, 3) := by decide +kernel
theorem dX7_least_44 : decode cX7_least 44 = .ok (.istore 4, 2) := by decide +kernel
theorem dX7_least_46 : decode cX7_least 46 = .ok (.iload 4, 2) := by decide +kernel
theorem dX7_least_48 : decode cX7_least 48 = .ok (.bipush (-9), 2) := by decide +kernel
theorem dX7_least_50 : decode cX7_least 50 = .ok (.if_icmp .eq 35, 3) := by decide +kernel
theorem dX7_least_53 : decode cX7_least 53 = .ok (.iload_n 1, 1) := by decide +kernel
theorem dX7_least_54 : decode cX7_least 54 = .ok (.ifCond .ne 7, 3) := by decide +kernel
theorem dX7_least_57 : decode cX7_least 57 = .ok (.iload_n 3, 1) := by decide +kernel
theorem dX7_least_58 : decode cX7_least 58 = .ok (.goto 26, 3) := by decide +kernel
theorem dX7_least_61 : decode cX7_least 61 = .ok (.iload_n 1, 1) := by decide +kernel
theorem dX7_least_62 : decode cX7_least 62 = .ok (.iconst 1, 1) := by decide +kernel
theorem dX7_least_63 : decode cX7_least 63 = .ok (.if_icmp .ne 8, 3) := by decide +kernel
theorem dX7_least_66 : decode cX7_least 66 = .ok (.iload 4, 2) := by decide +kernel
theorem dX7_least_68 : decode cX7_least 68 = .ok (.goto 16, 3) := by decide +kernel
theorem dX7_least_71 : decode cX7_least 71 = .ok (.iload_n 2, 1) := by decide +kernel
theorem dX7_least_72 : decode cX7_least 72 = .ok (.invokestatic 145, 3) := by decide +kernel
theorem dX7_least_75 : decode cX7_least 75 = .ok (.aload_n 0, 1) := by decide +kernel
theorem dX7_least_76 : decode cX7_least 76 = .ok (.iload_n 3, 1) := by decide +kernel
theorem dX7_least_77 : decode cX7_least 77 = .ok (.invokevirtual 148, 3) := by decide +kernel
theorem dX7_least_80 : decode cX7_least 80 = .ok (.invokestatic 145, 3) := by decide +kernel
theorem dX7_least_83 : decode cX7_least 83 = .ok (.isub, 1) := by decide +kernel
theorem dX7_least_84 : decode cX7_least 84 = .ok (.ireturn, 1) := by decide +kernel
theorem dX7_least_85 : decode cX7_least 85 = .ok (.iinc 3 1, 3) := by decide +kernel
theorem dX7_least_88 : decode cX7_least 88 = .ok (.goto (-70), 3) := by decide +kernel
theorem dX7_least_91 : decode cX7_least 91 = .ok (.bipush (-9), 2) := by decide +kernel
theorem dX7_least_93 : decode cX7_least 93 = .ok (.ireturn, 1) := by decide +kernel
set_option maxRecDepth 20000 in
theorem ggX7_loadAt_X7_isWhole : GoodIn wsX7_loadAt wsX7_isWhole := goodIn_r _ [7, 8, 9, 10, 6, 11, 1, 12, 13, 14, 15, 16, 17, 18, 19, 20, 21, 22, 23, 24, 25, 26, 27, 28, 29, 30, 31, 32, 33, 34] (by decide +kernel) (by decide +kernel)
set_option maxRecDepth 20000 in
theorem gX7_loadAt_X7_isWhole : GoodIn wsX7_loadAt (wsV RX7 55 RX7 yX7_isWhole wsX7_isWhole) := goodIn_app (goodIn_of _ (by decide +kernel)) ggX7_loadAt_X7_isWhole
set_option maxRecDepth 20000 in
theorem ggX7_loadAt_X7_of : GoodIn wsX7_loadAt wsX7_of := goodIn_r _ [11, 1, 12, 13, 14, 15, 16, 17, 18, 19, 20, 21, 22, 23, 24, 25, 26, 27, 28, 29, 30, 31, 32, 33, 34] (by decide +kernel) (by decide +kernel)
set_option maxRecDepth 20000 in
theorem gX7_loadAt_X7_of : GoodIn wsX7_loadAt (wsV RX7 51 RX7 yX7_of wsX7_of) := goodIn_app (goodIn_of _ (by decide +kernel)) ggX7_loadAt_X7_of
theorem dX7_loadAt_0 : decode cX7_loadAt 0 = .ok (.iconst 0, 1) := by decide +kernel
theorem dX7_loadAt_1 : decode cX7_loadAt 1 = .ok (.istore_n 2, 1) := by decide +kernel
theorem dX7_loadAt_2 : decode cX7_loadAt 2 = .ok (.iconst 0, 1) := by decide +kernel
theorem dX7_loadAt_3 : decode cX7_loadAt 3 = .ok (.istore_n 3, 1) := by decide +kernel
theorem dX7_loadAt_4 : decode cX7_loadAt 4 = .ok (.iload_n 3, 1) := by decide +kernel
theorem dX7_loadAt_5 : decode cX7_loadAt 5 = .ok (.aload_n 0, 1) := by decide +kernel
theorem dX7_loadAt_6 : decode cX7_loadAt 6 = .ok (.getfield 7, 3) := by decide +kernel
theorem dX7_loadAt_9 : decode cX7_loadAt 9 = .ok (.iconst 0, 1) := by decide +kernel
theorem dX7_loadAt_10 : decode cX7_loadAt 10 = .ok (.iaload, 1) := by decide +kernel
theorem dX7_loadAt_11 : decode cX7_loadAt 11 = .ok (.if_icmp .ge 49, 3) := by decide +kernel
theorem dX7_loadAt_14 : decode cX7_loadAt 14 = .ok (.iload_n 2, 1) := by decide +kernel
theorem dX7_loadAt_15 : decode cX7_loadAt 15 = .ok (.aload_n 0, 1) := by decide +kernel
theorem dX7_loadAt_16 : decode cX7_loadAt 16 = .ok (.iload_n 3, 1) := by decide +kernel
theorem dX7_loadAt_17 : decode cX7_loadAt 17 = .ok (.invokevirtual 55, 3) := by decide +kernel
theorem dX7_loadAt_20 : decode cX7_loadAt 20 = .ok (.ifCond .eq 31, 3) := by decide +kernel
theorem dX7_loadAt_23 : decode cX7_loadAt 23 = .ok (.aload_n 0, 1) := by decide +kernel
theorem dX7_loadAt_24 : decode cX7_loadAt 24 = .ok (.getfield 38, 3) := by decide +kernel
theorem dX7_loadAt_27 : decode cX7_loadAt 27 = .ok (.iload_n 3, 1) := by decide +kernel
theorem dX7_loadAt_28 : decode cX7_loadAt 28 = .ok (.iaload, 1) := by decide +kernel
theorem dX7_loadAt_29 : decode cX7_loadAt 29 = .ok (.iload_n 1, 1) := by decide +kernel
theorem dX7_loadAt_30 : decode cX7_loadAt 30 = .ok (.if_icmp .ge 21, 3) := by decide +kernel
theorem dX7_loadAt_33 : decode cX7_loadAt 33 = .ok (.aload_n 0, 1) := by decide +kernel
theorem dX7_loadAt_34 : decode cX7_loadAt 34 = .ok (.iload_n 3, 1) := by decide +kernel
theorem dX7_loadAt_35 : decode cX7_loadAt 35 = .ok (.iconst 2, 1) := by decide +kernel
theorem dX7_loadAt_36 : decode cX7_loadAt 36 = .ok (.invokevirtual 51, 3) := by decide +kernel
theorem dX7_loadAt_39 : decode cX7_loadAt 39 = .ok (.iload_n 1, 1) := by decide +kernel
theorem dX7_loadAt_40 : decode cX7_loadAt 40 = .ok (.aload_n 0, 1) := by decide +kernel
theorem dX7_loadAt_41 : decode cX7_loadAt 41 = .ok (.getfield 38, 3) := by decide +kernel
theorem dX7_loadAt_44 : decode cX7_loadAt 44 = .ok (.iload_n 3, 1) := by decide +kernel
theorem dX7_loadAt_45 : decode cX7_loadAt 45 = .ok (.iaload, 1) := by decide +kernel
theorem dX7_loadAt_46 : decode cX7_loadAt 46 = .ok (.isub, 1) := by decide +kernel
theorem dX7_loadAt_47 : decode cX7_loadAt 47 = .ok (.imul, 1) := by decide +kernel
theorem dX7_loadAt_48 : decode cX7_loadAt 48 = .ok (.goto 4, 3) := by decide +kernel
theorem dX7_loadAt_51 : decode cX7_loadAt 51 = .ok (.iconst 0, 1) := by decide +kernel
theorem dX7_loadAt_52 : decode cX7_loadAt 52 = .ok (.iadd, 1) := by decide +kernel
theorem dX7_loadAt_53 : decode cX7_loadAt 53 = .ok (.istore_n 2, 1) := by decide +kernel
theorem dX7_loadAt_54 : decode cX7_loadAt 54 = .ok (.iinc 3 1, 3) := by decide +kernel
theorem dX7_loadAt_57 : decode cX7_loadAt 57 = .ok (.goto (-53), 3) := by decide +kernel
theorem dX7_loadAt_60 : decode cX7_loadAt 60 = .ok (.iload_n 2, 1) := by decide +kernel
theorem dX7_loadAt_61 : decode cX7_loadAt 61 = .ok (.ireturn, 1) := by decide +kernel
set_option maxRecDepth 20000 in
theorem ggX7_knee_X7_all : GoodIn wsX7_knee wsX7_all := goodIn_r _ [7, 1, 28, 29, 30, 31, 32, 33, 34, 35, 36, 37, 38, 39, 40, 41, 42, 43, 44, 45, 46, 47, 48, 49, 50] (by decide +kernel) (by decide +kernel)
set_option maxRecDepth 20000 in
theorem gX7_knee_X7_all : GoodIn wsX7_knee (wsV RX7 135 RX7 yX7_all wsX7_all) := goodIn_app (goodIn_of _ (by decide +kernel)) ggX7_knee_X7_all
set_option maxRecDepth 20000 in
theorem ggX7_knee_X7_reaches : GoodIn wsX7_knee wsX7_reaches := goodIn_r _ [11, 1, 12, 2, 13, 14, 6, 15, 16, 17, 18, 19, 28, 29, 30, 31, 32, 33, 34, 35, 36, 37, 38, 39, 40, 41, 42, 43, 44, 45, 46, 47, 48, 49, 50] (by decide +kernel) (by decide +kernel)
set_option maxRecDepth 20000 in
theorem gX7_knee_X7_reaches : GoodIn wsX7_knee (wsV RX7 108 RX7 yX7_reaches wsX7_reaches) := goodIn_app (goodIn_of _ (by decide +kernel)) ggX7_knee_X7_reaches
set_option maxRecDepth 20000 in
theorem ggX7_knee_X7_isWhole : GoodIn wsX7_knee wsX7_isWhole := goodIn_r _ [23, 16, 17, 18, 6, 19, 1, 28, 29, 30, 31, 32, 33, 34, 35, 36, 37, 38, 39, 40, 41, 42, 43, 44, 45, 46, 47, 48, 49, 50] (by decide +kernel) (by decide +kernel)
set_option maxRecDepth 20000 in
theorem gX7_knee_X7_isWhole : GoodIn wsX7_knee (wsV RX7 55 RX7 yX7_isWhole wsX7_isWhole) := goodIn_app (goodIn_of _ (by decide +kernel)) ggX7_knee_X7_isWhole
set_option maxRecDepth 20000 in
theorem ggX7_knee_X7_loadAt : GoodIn wsX7_knee wsX7_loadAt := goodIn_r _ [27, 1, 2, 20, 21, 22, 6, 23, 16, 17, 18, 19, 28, 29, 30, 31, 32, 33, 34, 35, 36, 37, 38, 39, 40, 41, 42, 43, 44, 45, 46, 47, 48, 49, 50] (by decide +kernel) (by decide +kernel)
set_option maxRecDepth 20000 in
theorem gX7_knee_X7_loadAt : GoodIn wsX7_knee (wsV RX7 160 RX7 yX7_loadAt wsX7_loadAt) := goodIn_app (goodIn_of _ (by decide +kernel)) ggX7_knee_X7_loadAt
theorem dX7_knee_0 : decode cX7_knee 0 = .ok (.iload_n 1, 1) := by decide +kernel
theorem dX7_knee_1 : decode cX7_knee 1 = .ok (.iconst (-1), 1) := by decide +kernel
theorem dX7_knee_2 : decode cX7_knee 2 = .ok (.if_icmp .ge 5, 3) := by decide +kernel
theorem dX7_knee_5 : decode cX7_knee 5 = .ok (.iconst (-1), 1) := by decide +kernel
theorem dX7_knee_6 : decode cX7_knee 6 = .ok (.ireturn, 1) := by decide +kernel
theorem dX7_knee_7 : decode cX7_knee 7 = .ok (.aload_n 0, 1) := by decide +kernel
theorem dX7_knee_8 : decode cX7_knee 8 = .ok (.aload_n 0, 1) := by decide +kernel
theorem dX7_knee_9 : decode cX7_knee 9 = .ok (.invokevirtual 135, 3) := by decide +kernel
theorem dX7_knee_12 : decode cX7_knee 12 = .ok (.invokevirtual 108, 3) := by decide +kernel
theorem dX7_knee_15 : decode cX7_knee 15 = .ok (.iconst 0, 1) := by decide +kernel
theorem dX7_knee_16 : decode cX7_knee 16 = .ok (.istore_n 2, 1) := by decide +kernel
theorem dX7_knee_17 : decode cX7_knee 17 = .ok (.bipush (-9), 2) := by decide +kernel
theorem dX7_knee_19 : decode cX7_knee 19 = .ok (.istore_n 3, 1) := by decide +kernel
theorem dX7_knee_20 : decode cX7_knee 20 = .ok (.iconst 0, 1) := by decide +kernel
theorem dX7_knee_21 : decode cX7_knee 21 = .ok (.istore 4, 2) := by decide +kernel
theorem dX7_knee_23 : decode cX7_knee 23 = .ok (.iconst 0, 1) := by decide +kernel
theorem dX7_knee_24 : decode cX7_knee 24 = .ok (.istore 5, 2) := by decide +kernel
theorem dX7_knee_26 : decode cX7_knee 26 = .ok (.iload 5, 2) := by decide +kernel
theorem dX7_knee_28 : decode cX7_knee 28 = .ok (.aload_n 0, 1) := by decide +kernel
theorem dX7_knee_29 : decode cX7_knee 29 = .ok (.getfield 7, 3) := by decide +kernel
theorem dX7_knee_32 : decode cX7_knee 32 = .ok (.iconst 0, 1) := by decide +kernel
theorem dX7_knee_33 : decode cX7_knee 33 = .ok (.iaload, 1) := by decide +kernel
theorem dX7_knee_34 : decode cX7_knee 34 = .ok (.if_icmp .ge 61, 3) := by decide +kernel
theorem dX7_knee_37 : decode cX7_knee 37 = .ok (.aload_n 0, 1) := by decide +kernel
theorem dX7_knee_38 : decode cX7_knee 38 = .ok (.iload 5, 2) := by decide +kernel
theorem dX7_knee_40 : decode cX7_knee 40 = .ok (.invokevirtual 55, 3) := by decide +kernel
theorem dX7_knee_43 : decode cX7_knee 43 = .ok (.ifCond .eq 17, 3) := by decide +kernel
theorem dX7_knee_46 : decode cX7_knee 46 = .ok (.aload_n 0, 1) := by decide +kernel
theorem dX7_knee_47 : decode cX7_knee 47 = .ok (.aload_n 0, 1) := by decide +kernel
theorem dX7_knee_48 : decode cX7_knee 48 = .ok (.getfield 38, 3) := by decide +kernel
theorem dX7_knee_51 : decode cX7_knee 51 = .ok (.iload 5, 2) := by decide +kernel
theorem dX7_knee_53 : decode cX7_knee 53 = .ok (.iaload, 1) := by decide +kernel
theorem dX7_knee_54 : decode cX7_knee 54 = .ok (.invokevirtual 160, 3) := by decide +kernel
theorem dX7_knee_57 : decode cX7_knee 57 = .ok (.goto 4, 3) := by decide +kernel
theorem dX7_knee_60 : decode cX7_knee 60 = .ok (.iconst 0, 1) := by decide +kernel
theorem dX7_knee_61 : decode cX7_knee 61 = .ok (.istore 6, 2) := by decide +kernel
theorem dX7_knee_63 : decode cX7_knee 63 = .ok (.iload 6, 2) := by decide +kernel
theorem dX7_knee_65 : decode cX7_knee 65 = .ok (.iload 4, 2) := by decide +kernel
theorem dX7_knee_67 : decode cX7_knee 67 = .ok (.if_icmp .le 22, 3) := by decide +kernel
theorem dX7_knee_70 : decode cX7_knee 70 = .ok (.iload_n 2, 1) := by decide +kernel
theorem dX7_knee_71 : decode cX7_knee 71 = .ok (.iload_n 1, 1) := by decide +kernel
theorem dX7_knee_72 : decode cX7_knee 72 = .ok (.if_icmp .ne 8, 3) := by decide +kernel
theorem dX7_knee_75 : decode cX7_knee 75 = .ok (.iload 6, 2) := by decide +kernel
theorem dX7_knee_77 : decode cX7_knee 77 = .ok (.goto 4, 3) := by decide +kernel
theorem dX7_knee_80 : decode cX7_knee 80 = .ok (.iload_n 3, 1) := by decide +kernel
theorem dX7_knee_81 : decode cX7_knee 81 = .ok (.istore_n 3, 1) := by decide +kernel
theorem dX7_knee_82 : decode cX7_knee 82 = .ok (.iinc 2 1, 3) := by decide +kernel
theorem dX7_knee_85 : decode cX7_knee 85 = .ok (.iload 6, 2) := by decide +kernel
theorem dX7_knee_87 : decode cX7_knee 87 = .ok (.istore 4, 2) := by decide +kernel
theorem dX7_knee_89 : decode cX7_knee 89 = .ok (.iinc 5 1, 3) := by decide +kernel
theorem dX7_knee_92 : decode cX7_knee 92 = .ok (.goto (-66), 3) := by decide +kernel
theorem dX7_knee_95 : decode cX7_knee 95 = .ok (.iload_n 1, 1) := by decide +kernel
theorem dX7_knee_96 : decode cX7_knee 96 = .ok (.iconst (-1), 1) := by decide +kernel
theorem dX7_knee_97 : decode cX7_knee 97 = .ok (.if_icmp .ne 7, 3) := by decide +kernel
theorem dX7_knee_100 : decode cX7_knee 100 = .ok (.iload_n 2, 1) := by decide +kernel
theorem dX7_knee_101 : decode cX7_knee 101 = .ok (.goto 4, 3) := by decide +kernel
theorem dX7_knee_104 : decode cX7_knee 104 = .ok (.iload_n 3, 1) := by decide +kernel
theorem dX7_knee_105 : decode cX7_knee 105 = .ok (.ireturn, 1) := by decide +kernel
set_option maxRecDepth 20000 in
theorem ggX7_isChoice_X7_bends : GoodIn wsX7_isChoice wsX7_bends := goodIn_r _ [7, 1, 2, 8, 9, 10, 11, 12, 13, 14, 6, 15, 16, 17, 18, 19, 20, 21, 22, 23, 36, 37, 38, 39, 40, 41, 42, 43, 44, 45, 46, 47, 48, 49, 50, 51, 52, 53, 54, 55, 56, 57, 58] (by decide +kernel) (by decide +kernel)
set_option maxRecDepth 20000 in
theorem gX7_isChoice_X7_bends : GoodIn wsX7_isChoice (wsV RX7 138 RX7 yX7_bends wsX7_bends) := goodIn_app (goodIn_of _ (by decide +kernel)) ggX7_isChoice_X7_bends
set_option maxRecDepth 20000 in
theorem ggX7_isChoice_X7_breaking : GoodIn wsX7_isChoice wsX7_breaking := goodIn_r _ [27, 10, 17, 18, 6, 19, 28, 29, 30, 31, 2, 32, 33, 34, 35, 1, 11, 20, 21, 22, 23, 36, 37, 38, 39, 40, 41, 42, 43, 44, 45, 46, 47, 48, 49, 50, 51, 52, 53, 54, 55, 56, 57, 58] (by decide +kernel) (by decide +kernel)
set_option maxRecDepth 20000 in
theorem gX7_isChoice_X7_breaking : GoodIn wsX7_isChoice (wsV RX7 142 RX7 yX7_breaking wsX7_breaking) := goodIn_app (goodIn_of _ (by decide +kernel)) ggX7_isChoice_X7_breaking
theorem dX7_isChoice_0 : decode cX7_isChoice 0 = .ok (.aload_n 0, 1) := by decide +kernel
theorem dX7_isChoice_1 : decode cX7_isChoice 1 = .ok (.iload_n 1, 1) := by decide +kernel
theorem dX7_isChoice_2 : decode cX7_isChoice 2 = .ok (.iload_n 1, 1) := by decide +kernel
theorem dX7_isChoice_3 : decode cX7_isChoice 3 = .ok (.iload_n 2, 1) := by decide +kernel
theorem dX7_isChoice_4 : decode cX7_isChoice 4 = .ok (.invokevirtual 138, 3) := by decide +kernel
theorem dX7_isChoice_7 : decode cX7_isChoice 7 = .ok (.aload_n 0, 1) := by decide +kernel
theorem dX7_isChoice_8 : decode cX7_isChoice 8 = .ok (.iload_n 1, 1) := by decide +kernel
theorem dX7_isChoice_9 : decode cX7_isChoice 9 = .ok (.invokevirtual 142, 3) := by decide +kernel
theorem dX7_isChoice_12 : decode cX7_isChoice 12 = .ok (.bipush (-9), 2) := by decide +kernel
theorem dX7_isChoice_14 : decode cX7_isChoice 14 = .ok (.if_icmp .ne 20, 3) := by decide +kernel
theorem dX7_isChoice_17 : decode cX7_isChoice 17 = .ok (.aload_n 0, 1) := by decide +kernel
theorem dX7_isChoice_18 : decode cX7_isChoice 18 = .ok (.getfield 112, 3) := by decide +kernel
theorem dX7_isChoice_21 : decode cX7_isChoice 21 = .ok (.iload_n 3, 1) := by decide +kernel
theorem dX7_isChoice_22 : decode cX7_isChoice 22 = .ok (.aload_n 0, 1) := by decide +kernel
theorem dX7_isChoice_23 : decode cX7_isChoice 23 = .ok (.getfield 115, 3) := by decide +kernel
theorem dX7_isChoice_26 : decode cX7_isChoice 26 = .ok (.imul, 1) := by decide +kernel
theorem dX7_isChoice_27 : decode cX7_isChoice 27 = .ok (.if_icmp .gt 7, 3) := by decide +kernel
theorem dX7_isChoice_30 : decode cX7_isChoice 30 = .ok (.iconst 1, 1) := by decide +kernel
theorem dX7_isChoice_31 : decode cX7_isChoice 31 = .ok (.goto 4, 3) := by decide +kernel
theorem dX7_isChoice_34 : decode cX7_isChoice 34 = .ok (.iconst 0, 1) := by decide +kernel
theorem dX7_isChoice_35 : decode cX7_isChoice 35 = .ok (.ireturn, 1) := by decide +kernel
set_option maxRecDepth 20000 in
theorem ggX7_chosen_X7_in : GoodIn wsX7_chosen wsX7_in := goodIn_r _ [4] (by decide +kernel) (by decide +kernel)
set_option maxRecDepth 20000 in
theorem gX7_chosen_X7_in : GoodIn wsX7_chosen (va_wsS RX7 47 yX7_in wsX7_in) := goodIn_app (goodIn_of _ (by decide +kernel)) ggX7_chosen_X7_in
set_option maxRecDepth 20000 in
theorem ggX7_chosen_X7_whole : GoodIn wsX7_chosen wsX7_whole := goodIn_r _ [8, 9, 10, 11, 12, 3, 13, 14, 15, 16, 17, 54, 55, 56, 57, 58, 59, 60, 61, 62, 63, 64, 65, 66, 67, 68, 69, 70, 71, 72, 73, 74, 75, 76] (by decide +kernel) (by decide +kernel)
set_option maxRecDepth 20000 in
theorem gX7_chosen_X7_whole : GoodIn wsX7_chosen (wsV RX7 131 RX7 yX7_whole wsX7_whole) := goodIn_app (goodIn_of _ (by decide +kernel)) ggX7_chosen_X7_whole
set_option maxRecDepth 20000 in
theorem ggX7_chosen_X7_ones : GoodIn wsX7_chosen wsX7_ones := goodIn_r _ [20, 21, 22, 3, 23] (by decide +kernel) (by decide +kernel)
set_option maxRecDepth 20000 in
theorem gX7_chosen_X7_ones : GoodIn wsX7_chosen (va_wsS RX7 145 yX7_ones wsX7_ones) := goodIn_app (goodIn_of _ (by decide +kernel)) ggX7_chosen_X7_ones
set_option maxRecDepth 20000 in
theorem ggX7_chosen_X7_isChoice : GoodIn wsX7_chosen wsX7_isChoice := goodIn_r _ [27, 28, 29, 30, 31, 32, 3, 33, 34, 35, 9, 36, 37, 38, 39, 40, 41, 21, 22, 23, 14, 15, 16, 17, 42, 43, 44, 45, 46, 47, 48, 49, 50, 51, 52, 53, 54, 55, 56, 57, 58, 59, 60, 61, 62, 63, 64, 65, 66, 67, 68, 69, 70, 71, 72, 73, 74, 75, 76] (by decide +kernel) (by decide +kernel)
set_option maxRecDepth 20000 in
theorem gX7_chosen_X7_isChoice : GoodIn wsX7_chosen (wsV RX7 163 RX7 yX7_isChoice wsX7_isChoice) := goodIn_app (goodIn_of _ (by decide +kernel)) ggX7_chosen_X7_isChoice
theorem dX7_chosen_0 : decode cX7_chosen 0 = .ok (.iload_n 1, 1) := by decide +kernel
theorem dX7_chosen_1 : decode cX7_chosen 1 = .ok (.iconst 0, 1) := by decide +kernel
theorem dX7_chosen_2 : decode cX7_chosen 2 = .ok (.sipush 999, 3) := by decide +kernel
theorem dX7_chosen_5 : decode cX7_chosen 5 = .ok (.invokestatic 47, 3) := by decide +kernel
theorem dX7_chosen_8 : decode cX7_chosen 8 = .ok (.ifCond .eq 22, 3) := by decide +kernel
theorem dX7_chosen_11 : decode cX7_chosen 11 = .ok (.iload_n 2, 1) := by decide +kernel
theorem dX7_chosen_12 : decode cX7_chosen 12 = .ok (.iconst 0, 1) := by decide +kernel
theorem dX7_chosen_13 : decode cX7_chosen 13 = .ok (.bipush 99, 2) := by decide +kernel
theorem dX7_chosen_15 : decode cX7_chosen 15 = .ok (.invokestatic 47, 3) := by decide +kernel
theorem dX7_chosen_18 : decode cX7_chosen 18 = .ok (.ifCond .eq 12, 3) := by decide +kernel
theorem dX7_chosen_21 : decode cX7_chosen 21 = .ok (.iload_n 3, 1) := by decide +kernel
theorem dX7_chosen_22 : decode cX7_chosen 22 = .ok (.iconst 0, 1) := by decide +kernel
theorem dX7_chosen_23 : decode cX7_chosen 23 = .ok (.iconst 1, 1) := by decide +kernel
theorem dX7_chosen_24 : decode cX7_chosen 24 = .ok (.invokestatic 47, 3) := by decide +kernel
theorem dX7_chosen_27 : decode cX7_chosen 27 = .ok (.ifCond .ne 5, 3) := by decide +kernel
theorem dX7_chosen_30 : decode cX7_chosen 30 = .ok (.iconst (-1), 1) := by decide +kernel
theorem dX7_chosen_31 : decode cX7_chosen 31 = .ok (.ireturn, 1) := by decide +kernel
theorem dX7_chosen_32 : decode cX7_chosen 32 = .ok (.aload_n 0, 1) := by decide +kernel
theorem dX7_chosen_33 : decode cX7_chosen 33 = .ok (.invokevirtual 131, 3) := by decide +kernel
theorem dX7_chosen_36 : decode cX7_chosen 36 = .ok (.istore 4, 2) := by decide +kernel
theorem dX7_chosen_38 : decode cX7_chosen 38 = .ok (.iload 4, 2) := by decide +kernel
theorem dX7_chosen_40 : decode cX7_chosen 40 = .ok (.iload 4, 2) := by decide +kernel
theorem dX7_chosen_42 : decode cX7_chosen 42 = .ok (.ineg, 1) := by decide +kernel
theorem dX7_chosen_43 : decode cX7_chosen 43 = .ok (.iand, 1) := by decide +kernel
theorem dX7_chosen_44 : decode cX7_chosen 44 = .ok (.istore 5, 2) := by decide +kernel
theorem dX7_chosen_46 : decode cX7_chosen 46 = .ok (.bipush (-9), 2) := by decide +kernel
theorem dX7_chosen_48 : decode cX7_chosen 48 = .ok (.istore 6, 2) := by decide +kernel
theorem dX7_chosen_50 : decode cX7_chosen 50 = .ok (.iconst 1, 1) := by decide +kernel
theorem dX7_chosen_51 : decode cX7_chosen 51 = .ok (.istore 7, 2) := by decide +kernel
theorem dX7_chosen_53 : decode cX7_chosen 53 = .ok (.iload 7, 2) := by decide +kernel
theorem dX7_chosen_55 : decode cX7_chosen 55 = .ok (.iload 4, 2) := by decide +kernel
theorem dX7_chosen_57 : decode cX7_chosen 57 = .ok (.if_icmp .gt 79, 3) := by decide +kernel
theorem dX7_chosen_60 : decode cX7_chosen 60 = .ok (.iload 7, 2) := by decide +kernel
theorem dX7_chosen_62 : decode cX7_chosen 62 = .ok (.iload 4, 2) := by decide +kernel
theorem dX7_chosen_64 : decode cX7_chosen 64 = .ok (.iconst (-1), 1) := by decide +kernel
theorem dX7_chosen_65 : decode cX7_chosen 65 = .ok (.ixor, 1) := by decide +kernel
theorem dX7_chosen_66 : decode cX7_chosen 66 = .ok (.iand, 1) := by decide +kernel
theorem dX7_chosen_67 : decode cX7_chosen 67 = .ok (.ifCond .ne 35, 3) := by decide +kernel
theorem dX7_chosen_70 : decode cX7_chosen 70 = .ok (.iload 7, 2) := by decide +kernel
theorem dX7_chosen_72 : decode cX7_chosen 72 = .ok (.iload 5, 2) := by decide +kernel
theorem dX7_chosen_74 : decode cX7_chosen 74 = .ok (.iand, 1) := by decide +kernel
theorem dX7_chosen_75 : decode cX7_chosen 75 = .ok (.ifCond .eq 27, 3) := by decide +kernel
theorem dX7_chosen_78 : decode cX7_chosen 78 = .ok (.iload 6, 2) := by decide +kernel
theorem dX7_chosen_80 : decode cX7_chosen 80 = .ok (.bipush (-9), 2) := by decide +kernel
theorem dX7_chosen_82 : decode cX7_chosen 82 = .ok (.if_icmp .eq 16, 3) := by decide +kernel
theorem dX7_chosen_85 : decode cX7_chosen 85 = .ok (.iload 7, 2) := by decide +kernel
theorem dX7_chosen_87 : decode cX7_chosen 87 = .ok (.invokestatic 145, 3) := by decide +kernel
theorem dX7_chosen_90 : decode cX7_chosen 90 = .ok (.iload 6, 2) := by decide +kernel
theorem dX7_chosen_92 : decode cX7_chosen 92 = .ok (.invokestatic 145, 3) := by decide +kernel
theorem dX7_chosen_95 : decode cX7_chosen 95 = .ok (.if_icmp .ge 7, 3) := by decide +kernel
theorem dX7_chosen_98 : decode cX7_chosen 98 = .ok (.iconst 1, 1) := by decide +kernel
theorem dX7_chosen_99 : decode cX7_chosen 99 = .ok (.goto 4, 3) := by decide +kernel
theorem dX7_chosen_102 : decode cX7_chosen 102 = .ok (.iconst 0, 1) := by decide +kernel
theorem dX7_chosen_103 : decode cX7_chosen 103 = .ok (.istore 8, 2) := by decide +kernel
theorem dX7_chosen_105 : decode cX7_chosen 105 = .ok (.iload 8, 2) := by decide +kernel
theorem dX7_chosen_107 : decode cX7_chosen 107 = .ok (.ifCond .eq 19, 3) := by decide +kernel
theorem dX7_chosen_110 : decode cX7_chosen 110 = .ok (.aload_n 0, 1) := by decide +kernel
theorem dX7_chosen_111 : decode cX7_chosen 111 = .ok (.iload 7, 2) := by decide +kernel
theorem dX7_chosen_113 : decode cX7_chosen 113 = .ok (.iload_n 1, 1) := by decide +kernel
theorem dX7_chosen_114 : decode cX7_chosen 114 = .ok (.iload_n 2, 1) := by decide +kernel
theorem dX7_chosen_115 : decode cX7_chosen 115 = .ok (.invokevirtual 163, 3) := by decide +kernel
theorem dX7_chosen_118 : decode cX7_chosen 118 = .ok (.ifCond .eq 8, 3) := by decide +kernel
theorem dX7_chosen_121 : decode cX7_chosen 121 = .ok (.iload 7, 2) := by decide +kernel
theorem dX7_chosen_123 : decode cX7_chosen 123 = .ok (.goto 5, 3) := by decide +kernel
theorem dX7_chosen_126 : decode cX7_chosen 126 = .ok (.iload 6, 2) := by decide +kernel
theorem dX7_chosen_128 : decode cX7_chosen 128 = .ok (.istore 6, 2) := by decide +kernel
theorem dX7_chosen_130 : decode cX7_chosen 130 = .ok (.iinc 7 1, 3) := by decide +kernel
theorem dX7_chosen_133 : decode cX7_chosen 133 = .ok (.goto (-80), 3) := by decide +kernel
theorem dX7_chosen_136 : decode cX7_chosen 136 = .ok (.iload_n 3, 1) := by decide +kernel
theorem dX7_chosen_137 : decode cX7_chosen 137 = .ok (.iconst 1, 1) := by decide +kernel
theorem dX7_chosen_138 : decode cX7_chosen 138 = .ok (.if_icmp .eq 10, 3) := by decide +kernel
theorem dX7_chosen_141 : decode cX7_chosen 141 = .ok (.iload 6, 2) := by decide +kernel
theorem dX7_chosen_143 : decode cX7_chosen 143 = .ok (.bipush (-9), 2) := by decide +kernel
theorem dX7_chosen_145 : decode cX7_chosen 145 = .ok (.if_icmp .ne 8, 3) := by decide +kernel
theorem dX7_chosen_148 : decode cX7_chosen 148 = .ok (.iload 6, 2) := by decide +kernel
theorem dX7_chosen_150 : decode cX7_chosen 150 = .ok (.goto 8, 3) := by decide +kernel
theorem dX7_chosen_153 : decode cX7_chosen 153 = .ok (.iload 6, 2) := by decide +kernel
theorem dX7_chosen_155 : decode cX7_chosen 155 = .ok (.invokestatic 145, 3) := by decide +kernel
theorem dX7_chosen_158 : decode cX7_chosen 158 = .ok (.ireturn, 1) := by decide +kernel
set_option maxRecDepth 20000 in
theorem ggX7_sees_X7_in : GoodIn wsX7_sees wsX7_in := goodIn_r _ [7] (by decide +kernel) (by decide +kernel)
set_option maxRecDepth 20000 in
theorem gX7_sees_X7_in : GoodIn wsX7_sees (va_wsS RX7 47 yX7_in wsX7_in) := goodIn_app (goodIn_of _ (by decide +kernel)) ggX7_sees_X7_in
theorem dX7_sees_0 : decode cX7_sees 0 = .ok (.iload_n 1, 1) := by decide +kernel
theorem dX7_sees_1 : decode cX7_sees 1 = .ok (.iconst 0, 1) := by decide +kernel
theorem dX7_sees_2 : decode cX7_sees 2 = .ok (.sipush 999, 3) := by decide +kernel
theorem dX7_sees_5 : decode cX7_sees 5 = .ok (.invokestatic 47, 3) := by decide +kernel
theorem dX7_sees_8 : decode cX7_sees 8 = .ok (.ifCond .eq 20, 3) := by decide +kernel
theorem dX7_sees_11 : decode cX7_sees 11 = .ok (.iload_n 2, 1) := by decide +kernel
theorem dX7_sees_12 : decode cX7_sees 12 = .ok (.iconst 0, 1) := by decide +kernel
theorem dX7_sees_13 : decode cX7_sees 13 = .ok (.sipush 9999, 3) := by decide +kernel
theorem dX7_sees_16 : decode cX7_sees 16 = .ok (.invokestatic 47, 3) := by decide +kernel
theorem dX7_sees_19 : decode cX7_sees 19 = .ok (.ifCond .ne 11, 3) := by decide +kernel
theorem dX7_sees_22 : decode cX7_sees 22 = .ok (.iload_n 2, 1) := by decide +kernel
theorem dX7_sees_23 : decode cX7_sees 23 = .ok (.bipush (-9), 2) := by decide +kernel
theorem dX7_sees_25 : decode cX7_sees 25 = .ok (.if_icmp .eq 5, 3) := by decide +kernel
theorem dX7_sees_28 : decode cX7_sees 28 = .ok (.iconst (-1), 1) := by decide +kernel
theorem dX7_sees_29 : decode cX7_sees 29 = .ok (.ireturn, 1) := by decide +kernel
theorem dX7_sees_30 : decode cX7_sees 30 = .ok (.aload_n 0, 1) := by decide +kernel
theorem dX7_sees_31 : decode cX7_sees 31 = .ok (.getfield 102, 3) := by decide +kernel
theorem dX7_sees_34 : decode cX7_sees 34 = .ok (.bipush 6, 2) := by decide +kernel
theorem dX7_sees_36 : decode cX7_sees 36 = .ok (.if_icmp .ne 6, 3) := by decide +kernel
theorem dX7_sees_39 : decode cX7_sees 39 = .ok (.bipush (-3), 2) := by decide +kernel
theorem dX7_sees_41 : decode cX7_sees 41 = .ok (.ireturn, 1) := by decide +kernel
theorem dX7_sees_42 : decode cX7_sees 42 = .ok (.aload_n 0, 1) := by decide +kernel
theorem dX7_sees_43 : decode cX7_sees 43 = .ok (.getfield 26, 3) := by decide +kernel
theorem dX7_sees_46 : decode cX7_sees 46 = .ok (.aload_n 0, 1) := by decide +kernel
theorem dX7_sees_47 : decode cX7_sees 47 = .ok (.getfield 102, 3) := by decide +kernel
theorem dX7_sees_50 : decode cX7_sees 50 = .ok (.iload_n 1, 1) := by decide +kernel
theorem dX7_sees_51 : decode cX7_sees 51 = .ok (.iastore, 1) := by decide +kernel
theorem dX7_sees_52 : decode cX7_sees 52 = .ok (.aload_n 0, 1) := by decide +kernel
theorem dX7_sees_53 : decode cX7_sees 53 = .ok (.getfield 29, 3) := by decide +kernel
theorem dX7_sees_56 : decode cX7_sees 56 = .ok (.aload_n 0, 1) := by decide +kernel
theorem dX7_sees_57 : decode cX7_sees 57 = .ok (.getfield 102, 3) := by decide +kernel
theorem dX7_sees_60 : decode cX7_sees 60 = .ok (.iload_n 2, 1) := by decide +kernel
theorem dX7_sees_61 : decode cX7_sees 61 = .ok (.iastore, 1) := by decide +kernel
theorem dX7_sees_62 : decode cX7_sees 62 = .ok (.aload_n 0, 1) := by decide +kernel
theorem dX7_sees_63 : decode cX7_sees 63 = .ok (.dup, 1) := by decide +kernel
theorem dX7_sees_64 : decode cX7_sees 64 = .ok (.getfield 102, 3) := by decide +kernel
theorem dX7_sees_67 : decode cX7_sees 67 = .ok (.iconst 1, 1) := by decide +kernel
theorem dX7_sees_68 : decode cX7_sees 68 = .ok (.iadd, 1) := by decide +kernel
theorem dX7_sees_69 : decode cX7_sees 69 = .ok (.putfield 102, 3) := by decide +kernel
theorem dX7_sees_72 : decode cX7_sees 72 = .ok (.aload_n 0, 1) := by decide +kernel
theorem dX7_sees_73 : decode cX7_sees 73 = .ok (.getfield 102, 3) := by decide +kernel
theorem dX7_sees_76 : decode cX7_sees 76 = .ok (.ireturn, 1) := by decide +kernel
theorem dX7_forget_0 : decode cX7_forget 0 = .ok (.aload_n 0, 1) := by decide +kernel
theorem dX7_forget_1 : decode cX7_forget 1 = .ok (.getfield 102, 3) := by decide +kernel
theorem dX7_forget_4 : decode cX7_forget 4 = .ok (.istore_n 1, 1) := by decide +kernel
theorem dX7_forget_5 : decode cX7_forget 5 = .ok (.aload_n 0, 1) := by decide +kernel
theorem dX7_forget_6 : decode cX7_forget 6 = .ok (.iconst 0, 1) := by decide +kernel
theorem dX7_forget_7 : decode cX7_forget 7 = .ok (.putfield 102, 3) := by decide +kernel
theorem dX7_forget_10 : decode cX7_forget 10 = .ok (.iload_n 1, 1) := by decide +kernel
theorem dX7_forget_11 : decode cX7_forget 11 = .ok (.ireturn, 1) := by decide +kernel
set_option maxRecDepth 20000 in
theorem ggX7_bendWithout_X7_all : GoodIn wsX7_bendWithout wsX7_all := goodIn_r _ [5, 6, 40, 41, 42, 43, 44, 45, 46, 47, 48, 49, 50, 51, 52, 53, 54, 55, 56, 57, 58, 59, 60, 61, 62] (by decide +kernel) (by decide +kernel)
set_option maxRecDepth 20000 in
theorem gX7_bendWithout_X7_all : GoodIn wsX7_bendWithout (wsV RX7 135 RX7 yX7_all wsX7_all) := goodIn_app (goodIn_of _ (by decide +kernel)) ggX7_bendWithout_X7_all
set_option maxRecDepth 20000 in
theorem ggX7_bendWithout_X7_whole : GoodIn wsX7_bendWithout wsX7_whole := goodIn_r _ [10, 6, 11, 12, 13, 4, 14, 15, 16, 17, 18, 40, 41, 42, 43, 44, 45, 46, 47, 48, 49, 50, 51, 52, 53, 54, 55, 56, 57, 58, 59, 60, 61, 62] (by decide +kernel) (by decide +kernel)
set_option maxRecDepth 20000 in
theorem gX7_bendWithout_X7_whole : GoodIn wsX7_bendWithout (wsV RX7 131 RX7 yX7_whole wsX7_whole) := goodIn_app (goodIn_of _ (by decide +kernel)) ggX7_bendWithout_X7_whole
set_option maxRecDepth 20000 in
theorem ggX7_bendWithout_X7_bends : GoodIn wsX7_bendWithout wsX7_bends := goodIn_r _ [22, 23, 24, 25, 26, 6, 27, 28, 29, 30, 4, 31, 32, 33, 34, 35, 15, 16, 17, 18, 40, 41, 42, 43, 44, 45, 46, 47, 48, 49, 50, 51, 52, 53, 54, 55, 56, 57, 58, 59, 60, 61, 62] (by decide +kernel) (by decide +kernel)
set_option maxRecDepth 20000 in
theorem gX7_bendWithout_X7_bends : GoodIn wsX7_bendWithout (wsV RX7 138 RX7 yX7_bends wsX7_bends) := goodIn_app (goodIn_of _ (by decide +kernel)) ggX7_bendWithout_X7_bends
set_option maxRecDepth 20000 in
theorem ggX7_bendWithout_X7_cutOf : GoodIn wsX7_bendWithout wsX7_cutOf := goodIn_r _ [39, 26, 23, 24, 40, 41, 42, 43, 44, 45, 46, 47, 48, 49, 50, 51, 52, 53, 54, 55, 56, 57, 58, 59, 60, 61, 62] (by decide +kernel) (by decide +kernel)
set_option maxRecDepth 20000 in
theorem gX7_bendWithout_X7_cutOf : GoodIn wsX7_bendWithout (wsV RX7 154 RX7 yX7_cutOf wsX7_cutOf) := goodIn_app (goodIn_of _ (by decide +kernel)) ggX7_bendWithout_X7_cutOf
theorem dX7_bendWithout_0 : decode cX7_bendWithout 0 = .ok (.aload_n 0, 1) := by decide +kernel
theorem dX7_bendWithout_1 : decode cX7_bendWithout 1 = .ok (.aload_n 0, 1) := by decide +kernel
theorem dX7_bendWithout_2 : decode cX7_bendWithout 2 = .ok (.invokevirtual 135, 3) := by decide +kernel
theorem dX7_bendWithout_5 : decode cX7_bendWithout 5 = .ok (.iload_n 1, 1) := by decide +kernel
theorem dX7_bendWithout_6 : decode cX7_bendWithout 6 = .ok (.ifCond .ge 10, 3) := by decide +kernel
theorem dX7_bendWithout_9 : decode cX7_bendWithout 9 = .ok (.aload_n 0, 1) := by decide +kernel
theorem dX7_bendWithout_10 : decode cX7_bendWithout 10 = .ok (.invokevirtual 131, 3) := by decide +kernel
theorem dX7_bendWithout_13 : decode cX7_bendWithout 13 = .ok (.goto 13, 3) := by decide +kernel
theorem dX7_bendWithout_16 : decode cX7_bendWithout 16 = .ok (.aload_n 0, 1) := by decide +kernel
theorem dX7_bendWithout_17 : decode cX7_bendWithout 17 = .ok (.invokevirtual 131, 3) := by decide +kernel
theorem dX7_bendWithout_20 : decode cX7_bendWithout 20 = .ok (.iconst 1, 1) := by decide +kernel
theorem dX7_bendWithout_21 : decode cX7_bendWithout 21 = .ok (.iload_n 1, 1) := by decide +kernel
theorem dX7_bendWithout_22 : decode cX7_bendWithout 22 = .ok (.ishl, 1) := by decide +kernel
theorem dX7_bendWithout_23 : decode cX7_bendWithout 23 = .ok (.iconst (-1), 1) := by decide +kernel
theorem dX7_bendWithout_24 : decode cX7_bendWithout 24 = .ok (.ixor, 1) := by decide +kernel
theorem dX7_bendWithout_25 : decode cX7_bendWithout 25 = .ok (.iand, 1) := by decide +kernel
theorem dX7_bendWithout_26 : decode cX7_bendWithout 26 = .ok (.iload_n 2, 1) := by decide +kernel
theorem dX7_bendWithout_27 : decode cX7_bendWithout 27 = .ok (.invokevirtual 138, 3) := by decide +kernel
theorem dX7_bendWithout_30 : decode cX7_bendWithout 30 = .ok (.aload_n 0, 1) := by decide +kernel
theorem dX7_bendWithout_31 : decode cX7_bendWithout 31 = .ok (.invokevirtual 154, 3) := by decide +kernel
theorem dX7_bendWithout_34 : decode cX7_bendWithout 34 = .ok (.ireturn, 1) := by decide +kernel
set_option maxRecDepth 20000 in
theorem ggX7_isSo_X7_isWhole : GoodIn wsX7_isSo wsX7_isWhole := goodIn_r _ [8, 9, 10, 11, 7, 12, 13, 47, 48, 49, 50, 51, 52, 53, 54, 55, 56, 57, 58, 59, 60, 61, 62, 63, 64, 65, 66, 67, 68, 69] (by decide +kernel) (by decide +kernel)
set_option maxRecDepth 20000 in
theorem gX7_isSo_X7_isWhole : GoodIn wsX7_isSo (wsV RX7 55 RX7 yX7_isWhole wsX7_isWhole) := goodIn_app (goodIn_of _ (by decide +kernel)) ggX7_isSo_X7_isWhole
set_option maxRecDepth 20000 in
theorem ggX7_isSo_X7_bendWithout : GoodIn wsX7_isSo wsX7_bendWithout := goodIn_r _ [17, 18, 19, 20, 7, 21, 13, 22, 23, 24, 25, 4, 5, 6, 8, 9, 10, 11, 12, 26, 27, 28, 29, 30, 31, 32, 33, 34, 35, 36, 37, 38, 39, 40, 41, 42, 43, 44, 45, 46, 47, 48, 49, 50, 51, 52, 53, 54, 55, 56, 57, 58, 59, 60, 61, 62, 63, 64, 65, 66, 67, 68, 69] (by decide +kernel) (by decide +kernel)
set_option maxRecDepth 20000 in
theorem gX7_isSo_X7_bendWithout : GoodIn wsX7_isSo (wsV RX7 166 RX7 yX7_bendWithout wsX7_bendWithout) := goodIn_app (goodIn_of _ (by decide +kernel)) ggX7_isSo_X7_bendWithout
theorem dX7_isSo_0 : decode cX7_isSo 0 = .ok (.iload_n 1, 1) := by decide +kernel
theorem dX7_isSo_1 : decode cX7_isSo 1 = .ok (.ifCond .lt 11, 3) := by decide +kernel
theorem dX7_isSo_4 : decode cX7_isSo 4 = .ok (.aload_n 0, 1) := by decide +kernel
theorem dX7_isSo_5 : decode cX7_isSo 5 = .ok (.iload_n 1, 1) := by decide +kernel
theorem dX7_isSo_6 : decode cX7_isSo 6 = .ok (.invokevirtual 55, 3) := by decide +kernel
theorem dX7_isSo_9 : decode cX7_isSo 9 = .ok (.ifCond .eq 7, 3) := by decide +kernel
theorem dX7_isSo_12 : decode cX7_isSo 12 = .ok (.iconst 1, 1) := by decide +kernel
theorem dX7_isSo_13 : decode cX7_isSo 13 = .ok (.goto 4, 3) := by decide +kernel
theorem dX7_isSo_16 : decode cX7_isSo 16 = .ok (.iconst 0, 1) := by decide +kernel
theorem dX7_isSo_17 : decode cX7_isSo 17 = .ok (.istore_n 2, 1) := by decide +kernel
theorem dX7_isSo_18 : decode cX7_isSo 18 = .ok (.iconst 0, 1) := by decide +kernel
theorem dX7_isSo_19 : decode cX7_isSo 19 = .ok (.istore_n 3, 1) := by decide +kernel
theorem dX7_isSo_20 : decode cX7_isSo 20 = .ok (.iload_n 3, 1) := by decide +kernel
theorem dX7_isSo_21 : decode cX7_isSo 21 = .ok (.aload_n 0, 1) := by decide +kernel
theorem dX7_isSo_22 : decode cX7_isSo 22 = .ok (.getfield 102, 3) := by decide +kernel
theorem dX7_isSo_25 : decode cX7_isSo 25 = .ok (.if_icmp .ge 39, 3) := by decide +kernel
theorem dX7_isSo_28 : decode cX7_isSo 28 = .ok (.iload_n 2, 1) := by decide +kernel
theorem dX7_isSo_29 : decode cX7_isSo 29 = .ok (.ifCond .eq 35, 3) := by decide +kernel
theorem dX7_isSo_32 : decode cX7_isSo 32 = .ok (.aload_n 0, 1) := by decide +kernel
theorem dX7_isSo_33 : decode cX7_isSo 33 = .ok (.iload_n 1, 1) := by decide +kernel
theorem dX7_isSo_34 : decode cX7_isSo 34 = .ok (.aload_n 0, 1) := by decide +kernel
theorem dX7_isSo_35 : decode cX7_isSo 35 = .ok (.getfield 26, 3) := by decide +kernel
theorem dX7_isSo_38 : decode cX7_isSo 38 = .ok (.iload_n 3, 1) := by decide +kernel
theorem dX7_isSo_39 : decode cX7_isSo 39 = .ok (.iaload, 1) := by decide +kernel
theorem dX7_isSo_40 : decode cX7_isSo 40 = .ok (.invokevirtual 166, 3) := by decide +kernel
theorem dX7_isSo_43 : decode cX7_isSo 43 = .ok (.aload_n 0, 1) := by decide +kernel
theorem dX7_isSo_44 : decode cX7_isSo 44 = .ok (.getfield 29, 3) := by decide +kernel
theorem dX7_isSo_47 : decode cX7_isSo 47 = .ok (.iload_n 3, 1) := by decide +kernel
theorem dX7_isSo_48 : decode cX7_isSo 48 = .ok (.iaload, 1) := by decide +kernel
theorem dX7_isSo_49 : decode cX7_isSo 49 = .ok (.if_icmp .ne 7, 3) := by decide +kernel
theorem dX7_isSo_52 : decode cX7_isSo 52 = .ok (.iconst 1, 1) := by decide +kernel
theorem dX7_isSo_53 : decode cX7_isSo 53 = .ok (.goto 4, 3) := by decide +kernel
theorem dX7_isSo_56 : decode cX7_isSo 56 = .ok (.iconst 0, 1) := by decide +kernel
theorem dX7_isSo_57 : decode cX7_isSo 57 = .ok (.istore_n 2, 1) := by decide +kernel
theorem dX7_isSo_58 : decode cX7_isSo 58 = .ok (.iinc 3 1, 3) := by decide +kernel
theorem dX7_isSo_61 : decode cX7_isSo 61 = .ok (.goto (-41), 3) := by decide +kernel
theorem dX7_isSo_64 : decode cX7_isSo 64 = .ok (.iload_n 2, 1) := by decide +kernel
theorem dX7_isSo_65 : decode cX7_isSo 65 = .ok (.ireturn, 1) := by decide +kernel
set_option maxRecDepth 20000 in
theorem ggX7_many_X7_isSo : GoodIn wsX7_many wsX7_isSo := goodIn_r _ [6, 7, 8, 9, 10, 11, 12, 5, 13, 14, 15, 16, 17, 1, 18, 19, 20, 21, 22, 23, 24, 25, 26, 27, 28, 29, 30, 31, 32, 33, 34, 35, 36, 37, 38, 39, 40, 41, 42, 43, 44, 45, 46, 47, 48, 49, 50, 51, 52, 53, 54, 55, 56, 57, 58, 59, 60, 61, 62, 63, 64, 65, 66, 67, 68, 69, 70, 71, 72, 73] (by decide +kernel) (by decide +kernel)
set_option maxRecDepth 20000 in
theorem gX7_many_X7_isSo : GoodIn wsX7_many (wsV RX7 169 RX7 yX7_isSo wsX7_isSo) := goodIn_app (goodIn_of _ (by decide +kernel)) ggX7_many_X7_isSo
theorem dX7_many_0 : decode cX7_many 0 = .ok (.iconst 0, 1) := by decide +kernel
theorem dX7_many_1 : decode cX7_many 1 = .ok (.istore_n 1, 1) := by decide +kernel
theorem dX7_many_2 : decode cX7_many 2 = .ok (.iconst (-1), 1) := by decide +kernel
theorem dX7_many_3 : decode cX7_many 3 = .ok (.istore_n 2, 1) := by decide +kernel
theorem dX7_many_4 : decode cX7_many 4 = .ok (.iload_n 2, 1) := by decide +kernel
theorem dX7_many_5 : decode cX7_many 5 = .ok (.aload_n 0, 1) := by decide +kernel
theorem dX7_many_6 : decode cX7_many 6 = .ok (.getfield 7, 3) := by decide +kernel
theorem dX7_many_9 : decode cX7_many 9 = .ok (.iconst 0, 1) := by decide +kernel
theorem dX7_many_10 : decode cX7_many 10 = .ok (.iaload, 1) := by decide +kernel
theorem dX7_many_11 : decode cX7_many 11 = .ok (.if_icmp .ge 25, 3) := by decide +kernel
theorem dX7_many_14 : decode cX7_many 14 = .ok (.iload_n 1, 1) := by decide +kernel
theorem dX7_many_15 : decode cX7_many 15 = .ok (.aload_n 0, 1) := by decide +kernel
theorem dX7_many_16 : decode cX7_many 16 = .ok (.iload_n 2, 1) := by decide +kernel
theorem dX7_many_17 : decode cX7_many 17 = .ok (.invokevirtual 169, 3) := by decide +kernel
theorem dX7_many_20 : decode cX7_many 20 = .ok (.ifCond .eq 7, 3) := by decide +kernel
theorem dX7_many_23 : decode cX7_many 23 = .ok (.iconst 1, 1) := by decide +kernel
theorem dX7_many_24 : decode cX7_many 24 = .ok (.goto 4, 3) := by decide +kernel
theorem dX7_many_27 : decode cX7_many 27 = .ok (.iconst 0, 1) := by decide +kernel
theorem dX7_many_28 : decode cX7_many 28 = .ok (.iadd, 1) := by decide +kernel
theorem dX7_many_29 : decode cX7_many 29 = .ok (.istore_n 1, 1) := by decide +kernel
theorem dX7_many_30 : decode cX7_many 30 = .ok (.iinc 2 1, 3) := by decide +kernel
theorem dX7_many_33 : decode cX7_many 33 = .ok (.goto (-29), 3) := by decide +kernel
theorem dX7_many_36 : decode cX7_many 36 = .ok (.iload_n 1, 1) := by decide +kernel
theorem dX7_many_37 : decode cX7_many 37 = .ok (.ireturn, 1) := by decide +kernel
set_option maxRecDepth 20000 in
theorem ggX7_which_X7_in : GoodIn wsX7_which wsX7_in := goodIn_r _ [7] (by decide +kernel) (by decide +kernel)
set_option maxRecDepth 20000 in
theorem gX7_which_X7_in : GoodIn wsX7_which (va_wsS RX7 47 yX7_in wsX7_in) := goodIn_app (goodIn_of _ (by decide +kernel)) ggX7_which_X7_in
set_option maxRecDepth 20000 in
theorem ggX7_which_X7_isSo : GoodIn wsX7_which wsX7_isSo := goodIn_r _ [11, 12, 13, 14, 15, 16, 17, 6, 18, 19, 20, 21, 22, 3, 23, 24, 25, 26, 27, 28, 29, 30, 31, 32, 33, 34, 35, 36, 37, 38, 39, 40, 41, 42, 43, 44, 45, 46, 47, 48, 49, 50, 51, 52, 53, 54, 55, 60, 61, 62, 63, 64, 65, 66, 67, 68, 69, 70, 71, 72, 73, 74, 75, 76, 77, 78, 79, 80, 81, 82] (by decide +kernel) (by decide +kernel)
set_option maxRecDepth 20000 in
theorem gX7_which_X7_isSo : GoodIn wsX7_which (wsV RX7 169 RX7 yX7_isSo wsX7_isSo) := goodIn_app (goodIn_of _ (by decide +kernel)) ggX7_which_X7_isSo
set_option maxRecDepth 20000 in
theorem ggX7_which_X7_many : GoodIn wsX7_which wsX7_many := goodIn_r _ [59, 3, 8, 9, 10, 6, 11, 12, 13, 14, 15, 16, 17, 18, 19, 20, 21, 22, 23, 24, 25, 26, 27, 28, 29, 30, 31, 32, 33, 34, 35, 36, 37, 38, 39, 40, 41, 42, 43, 44, 45, 46, 47, 48, 49, 50, 51, 52, 53, 54, 55, 60, 61, 62, 63, 64, 65, 66, 67, 68, 69, 70, 71, 72, 73, 74, 75, 76, 77, 78, 79, 80, 81, 82] (by decide +kernel) (by decide +kernel)
set_option maxRecDepth 20000 in
theorem gX7_which_X7_many : GoodIn wsX7_which (wsV RX7 174 RX7 yX7_many wsX7_many) := goodIn_app (goodIn_of _ (by decide +kernel)) ggX7_which_X7_many
theorem dX7_which_0 : decode cX7_which 0 = .ok (.iload_n 1, 1) := by decide +kernel
theorem dX7_which_1 : decode cX7_which 1 = .ok (.iconst 0, 1) := by decide +kernel
theorem dX7_which_2 : decode cX7_which 2 = .ok (.iconst 1, 1) := by decide +kernel
theorem dX7_which_3 : decode cX7_which 3 = .ok (.invokestatic 47, 3) := by decide +kernel
theorem dX7_which_6 : decode cX7_which 6 = .ok (.ifCond .ne 6, 3) := by decide +kernel
theorem dX7_which_9 : decode cX7_which 9 = .ok (.ldc 172, 2) := by decide +kernel
theorem dX7_which_11 : decode cX7_which 11 = .ok (.ireturn, 1) := by decide +kernel
theorem dX7_which_12 : decode cX7_which 12 = .ok (.ldc 173, 2) := by decide +kernel
theorem dX7_which_14 : decode cX7_which 14 = .ok (.istore_n 2, 1) := by decide +kernel
theorem dX7_which_15 : decode cX7_which 15 = .ok (.aload_n 0, 1) := by decide +kernel
theorem dX7_which_16 : decode cX7_which 16 = .ok (.getfield 7, 3) := by decide +kernel
theorem dX7_which_19 : decode cX7_which 19 = .ok (.iconst 0, 1) := by decide +kernel
theorem dX7_which_20 : decode cX7_which 20 = .ok (.iaload, 1) := by decide +kernel
theorem dX7_which_21 : decode cX7_which 21 = .ok (.iconst 1, 1) := by decide +kernel
theorem dX7_which_22 : decode cX7_which 22 = .ok (.isub, 1) := by decide +kernel
theorem dX7_which_23 : decode cX7_which 23 = .ok (.istore_n 3, 1) := by decide +kernel
theorem dX7_which_24 : decode cX7_which 24 = .ok (.iload_n 3, 1) := by decide +kernel
theorem dX7_which_25 : decode cX7_which 25 = .ok (.iconst (-1), 1) := by decide +kernel
theorem dX7_which_26 : decode cX7_which 26 = .ok (.if_icmp .lt 23, 3) := by decide +kernel
theorem dX7_which_29 : decode cX7_which 29 = .ok (.aload_n 0, 1) := by decide +kernel
theorem dX7_which_30 : decode cX7_which 30 = .ok (.iload_n 3, 1) := by decide +kernel
theorem dX7_which_31 : decode cX7_which 31 = .ok (.invokevirtual 169, 3) := by decide +kernel
theorem dX7_which_34 : decode cX7_which 34 = .ok (.ifCond .eq 7, 3) := by decide +kernel
theorem dX7_which_37 : decode cX7_which 37 = .ok (.iload_n 3, 1) := by decide +kernel
theorem dX7_which_38 : decode cX7_which 38 = .ok (.goto 4, 3) := by decide +kernel
theorem dX7_which_41 : decode cX7_which 41 = .ok (.iload_n 2, 1) := by decide +kernel
theorem dX7_which_42 : decode cX7_which 42 = .ok (.istore_n 2, 1) := by decide +kernel
theorem dX7_which_43 : decode cX7_which 43 = .ok (.iinc 3 (-1), 3) := by decide +kernel
theorem dX7_which_46 : decode cX7_which 46 = .ok (.goto (-22), 3) := by decide +kernel
theorem dX7_which_49 : decode cX7_which 49 = .ok (.iload_n 1, 1) := by decide +kernel
theorem dX7_which_50 : decode cX7_which 50 = .ok (.ifCond .ne 10, 3) := by decide +kernel
theorem dX7_which_53 : decode cX7_which 53 = .ok (.aload_n 0, 1) := by decide +kernel
theorem dX7_which_54 : decode cX7_which 54 = .ok (.invokevirtual 174, 3) := by decide +kernel
theorem dX7_which_57 : decode cX7_which 57 = .ok (.goto 4, 3) := by decide +kernel
theorem dX7_which_60 : decode cX7_which 60 = .ok (.iload_n 2, 1) := by decide +kernel
theorem dX7_which_61 : decode cX7_which 61 = .ok (.ireturn, 1) := by decide +kernel
set_option maxRecDepth 20000 in
theorem ggX7_mostAlike_X7_bendWithout : GoodIn wsX7_mostAlike wsX7_bendWithout := goodIn_r _ [8, 9, 10, 11, 7, 12, 1, 13, 14, 15, 16, 17, 18, 19, 20, 21, 22, 23, 24, 25, 26, 27, 28, 29, 30, 31, 32, 33, 34, 35, 36, 37, 38, 39, 40, 41, 42, 43, 44, 45, 46, 47, 48, 49, 50, 51, 52, 53, 54, 55, 56, 57, 58, 59, 60, 61, 62, 63, 64, 65, 66, 67, 68] (by decide +kernel) (by decide +kernel)
set_option maxRecDepth 20000 in
theorem gX7_mostAlike_X7_bendWithout : GoodIn wsX7_mostAlike (wsV RX7 166 RX7 yX7_bendWithout wsX7_bendWithout) := goodIn_app (goodIn_of _ (by decide +kernel)) ggX7_mostAlike_X7_bendWithout
theorem dX7_mostAlike_0 : decode cX7_mostAlike 0 = .ok (.iconst 0, 1) := by decide +kernel
theorem dX7_mostAlike_1 : decode cX7_mostAlike 1 = .ok (.istore_n 2, 1) := by decide +kernel
theorem dX7_mostAlike_2 : decode cX7_mostAlike 2 = .ok (.iload_n 2, 1) := by decide +kernel
theorem dX7_mostAlike_3 : decode cX7_mostAlike 3 = .ok (.aload_n 0, 1) := by decide +kernel
theorem dX7_mostAlike_4 : decode cX7_mostAlike 4 = .ok (.getfield 7, 3) := by decide +kernel
theorem dX7_mostAlike_7 : decode cX7_mostAlike 7 = .ok (.iconst 0, 1) := by decide +kernel
theorem dX7_mostAlike_8 : decode cX7_mostAlike 8 = .ok (.iaload, 1) := by decide +kernel
theorem dX7_mostAlike_9 : decode cX7_mostAlike 9 = .ok (.if_icmp .gt 36, 3) := by decide +kernel
theorem dX7_mostAlike_12 : decode cX7_mostAlike 12 = .ok (.aload_n 0, 1) := by decide +kernel
theorem dX7_mostAlike_13 : decode cX7_mostAlike 13 = .ok (.getfield 44, 3) := by decide +kernel
theorem dX7_mostAlike_16 : decode cX7_mostAlike 16 = .ok (.iload_n 2, 1) := by decide +kernel
theorem dX7_mostAlike_17 : decode cX7_mostAlike 17 = .ok (.aload_n 0, 1) := by decide +kernel
theorem dX7_mostAlike_18 : decode cX7_mostAlike 18 = .ok (.getfield 41, 3) := by decide +kernel
theorem dX7_mostAlike_21 : decode cX7_mostAlike 21 = .ok (.iload_n 2, 1) := by decide +kernel
theorem dX7_mostAlike_22 : decode cX7_mostAlike 22 = .ok (.baload, 1) := by decide +kernel
theorem dX7_mostAlike_23 : decode cX7_mostAlike 23 = .ok (.ifCond .eq 14, 3) := by decide +kernel
theorem dX7_mostAlike_26 : decode cX7_mostAlike 26 = .ok (.aload_n 0, 1) := by decide +kernel
theorem dX7_mostAlike_27 : decode cX7_mostAlike 27 = .ok (.iload_n 2, 1) := by decide +kernel
theorem dX7_mostAlike_28 : decode cX7_mostAlike 28 = .ok (.iconst 1, 1) := by decide +kernel
theorem dX7_mostAlike_29 : decode cX7_mostAlike 29 = .ok (.isub, 1) := by decide +kernel
theorem dX7_mostAlike_30 : decode cX7_mostAlike 30 = .ok (.iload_n 1, 1) := by decide +kernel
theorem dX7_mostAlike_31 : decode cX7_mostAlike 31 = .ok (.invokevirtual 166, 3) := by decide +kernel
theorem dX7_mostAlike_34 : decode cX7_mostAlike 34 = .ok (.goto 4, 3) := by decide +kernel
theorem dX7_mostAlike_37 : decode cX7_mostAlike 37 = .ok (.iconst (-1), 1) := by decide +kernel
theorem dX7_mostAlike_38 : decode cX7_mostAlike 38 = .ok (.iastore, 1) := by decide +kernel
theorem dX7_mostAlike_39 : decode cX7_mostAlike 39 = .ok (.iinc 2 1, 3) := by decide +kernel
theorem dX7_mostAlike_42 : decode cX7_mostAlike 42 = .ok (.goto (-40), 3) := by decide +kernel
theorem dX7_mostAlike_45 : decode cX7_mostAlike 45 = .ok (.iconst 0, 1) := by decide +kernel
theorem dX7_mostAlike_46 : decode cX7_mostAlike 46 = .ok (.istore_n 2, 1) := by decide +kernel
theorem dX7_mostAlike_47 : decode cX7_mostAlike 47 = .ok (.iconst 0, 1) := by decide +kernel
theorem dX7_mostAlike_48 : decode cX7_mostAlike 48 = .ok (.istore_n 3, 1) := by decide +kernel
theorem dX7_mostAlike_49 : decode cX7_mostAlike 49 = .ok (.iload_n 3, 1) := by decide +kernel
theorem dX7_mostAlike_50 : decode cX7_mostAlike 50 = .ok (.aload_n 0, 1) := by decide +kernel
theorem dX7_mostAlike_51 : decode cX7_mostAlike 51 = .ok (.getfield 7, 3) := by decide +kernel
theorem dX7_mostAlike_54 : decode cX7_mostAlike 54 = .ok (.iconst 0, 1) := by decide +kernel
theorem dX7_mostAlike_55 : decode cX7_mostAlike 55 = .ok (.iaload, 1) := by decide +kernel
theorem dX7_mostAlike_56 : decode cX7_mostAlike 56 = .ok (.if_icmp .gt 90, 3) := by decide +kernel
theorem dX7_mostAlike_59 : decode cX7_mostAlike 59 = .ok (.iconst 0, 1) := by decide +kernel
theorem dX7_mostAlike_60 : decode cX7_mostAlike 60 = .ok (.istore 4, 2) := by decide +kernel
theorem dX7_mostAlike_62 : decode cX7_mostAlike 62 = .ok (.iconst 0, 1) := by decide +kernel
theorem dX7_mostAlike_63 : decode cX7_mostAlike 63 = .ok (.istore 5, 2) := by decide +kernel
theorem dX7_mostAlike_65 : decode cX7_mostAlike 65 = .ok (.iload 5, 2) := by decide +kernel
theorem dX7_mostAlike_67 : decode cX7_mostAlike 67 = .ok (.aload_n 0, 1) := by decide +kernel
theorem dX7_mostAlike_68 : decode cX7_mostAlike 68 = .ok (.getfield 7, 3) := by decide +kernel
theorem dX7_mostAlike_71 : decode cX7_mostAlike 71 = .ok (.iconst 0, 1) := by decide +kernel
theorem dX7_mostAlike_72 : decode cX7_mostAlike 72 = .ok (.iaload, 1) := by decide +kernel
theorem dX7_mostAlike_73 : decode cX7_mostAlike 73 = .ok (.if_icmp .gt 54, 3) := by decide +kernel
theorem dX7_mostAlike_76 : decode cX7_mostAlike 76 = .ok (.iload 4, 2) := by decide +kernel
theorem dX7_mostAlike_78 : decode cX7_mostAlike 78 = .ok (.aload_n 0, 1) := by decide +kernel
theorem dX7_mostAlike_79 : decode cX7_mostAlike 79 = .ok (.getfield 41, 3) := by decide +kernel
theorem dX7_mostAlike_82 : decode cX7_mostAlike 82 = .ok (.iload 5, 2) := by decide +kernel
theorem dX7_mostAlike_84 : decode cX7_mostAlike 84 = .ok (.baload, 1) := by decide +kernel
theorem dX7_mostAlike_85 : decode cX7_mostAlike 85 = .ok (.ifCond .eq 32, 3) := by decide +kernel
theorem dX7_mostAlike_88 : decode cX7_mostAlike 88 = .ok (.aload_n 0, 1) := by decide +kernel
theorem dX7_mostAlike_89 : decode cX7_mostAlike 89 = .ok (.getfield 41, 3) := by decide +kernel
theorem dX7_mostAlike_92 : decode cX7_mostAlike 92 = .ok (.iload_n 3, 1) := by decide +kernel
theorem dX7_mostAlike_93 : decode cX7_mostAlike 93 = .ok (.baload, 1) := by decide +kernel
theorem dX7_mostAlike_94 : decode cX7_mostAlike 94 = .ok (.ifCond .eq 23, 3) := by decide +kernel
theorem dX7_mostAlike_97 : decode cX7_mostAlike 97 = .ok (.aload_n 0, 1) := by decide +kernel
theorem dX7_mostAlike_98 : decode cX7_mostAlike 98 = .ok (.getfield 44, 3) := by decide +kernel
theorem dX7_mostAlike_101 : decode cX7_mostAlike 101 = .ok (.iload 5, 2) := by decide +kernel
theorem dX7_mostAlike_103 : decode cX7_mostAlike 103 = .ok (.iaload, 1) := by decide +kernel
theorem dX7_mostAlike_104 : decode cX7_mostAlike 104 = .ok (.aload_n 0, 1) := by decide +kernel
theorem dX7_mostAlike_105 : decode cX7_mostAlike 105 = .ok (.getfield 44, 3) := by decide +kernel
theorem dX7_mostAlike_108 : decode cX7_mostAlike 108 = .ok (.iload_n 3, 1) := by decide +kernel
theorem dX7_mostAlike_109 : decode cX7_mostAlike 109 = .ok (.iaload, 1) := by decide +kernel
theorem dX7_mostAlike_110 : decode cX7_mostAlike 110 = .ok (.if_icmp .ne 7, 3) := by decide +kernel
theorem dX7_mostAlike_113 : decode cX7_mostAlike 113 = .ok (.iconst 1, 1) := by decide +kernel
theorem dX7_mostAlike_114 : decode cX7_mostAlike 114 = .ok (.goto 4, 3) := by decide +kernel
theorem dX7_mostAlike_117 : decode cX7_mostAlike 117 = .ok (.iconst 0, 1) := by decide +kernel
theorem dX7_mostAlike_118 : decode cX7_mostAlike 118 = .ok (.iadd, 1) := by decide +kernel
theorem dX7_mostAlike_119 : decode cX7_mostAlike 119 = .ok (.istore 4, 2) := by decide +kernel
theorem dX7_mostAlike_121 : decode cX7_mostAlike 121 = .ok (.iinc 5 1, 3) := by decide +kernel
theorem dX7_mostAlike_124 : decode cX7_mostAlike 124 = .ok (.goto (-59), 3) := by decide +kernel
theorem dX7_mostAlike_127 : decode cX7_mostAlike 127 = .ok (.iload 4, 2) := by decide +kernel
theorem dX7_mostAlike_129 : decode cX7_mostAlike 129 = .ok (.iload_n 2, 1) := by decide +kernel
theorem dX7_mostAlike_130 : decode cX7_mostAlike 130 = .ok (.if_icmp .le 8, 3) := by decide +kernel
theorem dX7_mostAlike_133 : decode cX7_mostAlike 133 = .ok (.iload 4, 2) := by decide +kernel
theorem dX7_mostAlike_135 : decode cX7_mostAlike 135 = .ok (.goto 4, 3) := by decide +kernel
theorem dX7_mostAlike_138 : decode cX7_mostAlike 138 = .ok (.iload_n 2, 1) := by decide +kernel
theorem dX7_mostAlike_139 : decode cX7_mostAlike 139 = .ok (.istore_n 2, 1) := by decide +kernel
theorem dX7_mostAlike_140 : decode cX7_mostAlike 140 = .ok (.iinc 3 1, 3) := by decide +kernel
theorem dX7_mostAlike_143 : decode cX7_mostAlike 143 = .ok (.goto (-94), 3) := by decide +kernel
theorem dX7_mostAlike_146 : decode cX7_mostAlike 146 = .ok (.iload_n 2, 1) := by decide +kernel
theorem dX7_mostAlike_147 : decode cX7_mostAlike 147 = .ok (.ireturn, 1) := by decide +kernel
set_option maxRecDepth 20000 in
theorem ggX7_ask_X7_many : GoodIn wsX7_ask wsX7_many := goodIn_r _ [7, 1, 8, 9, 10, 6, 11, 12, 13, 14, 15, 16, 17, 18, 19, 20, 21, 22, 23, 24, 25, 26, 27, 28, 29, 30, 31, 32, 33, 34, 35, 36, 37, 38, 39, 40, 41, 42, 43, 44, 45, 46, 47, 48, 49, 50, 51, 52, 53, 54, 55, 61, 62, 63, 64, 65, 66, 67, 68, 69, 70, 71, 72, 73, 74, 75, 76, 77, 78, 79, 80, 81, 82, 83] (by decide +kernel) (by decide +kernel)
set_option maxRecDepth 20000 in
theorem gX7_ask_X7_many : GoodIn wsX7_ask (wsV RX7 174 RX7 yX7_many wsX7_many) := goodIn_app (goodIn_of _ (by decide +kernel)) ggX7_ask_X7_many
set_option maxRecDepth 20000 in
theorem ggX7_ask_X7_isSo : GoodIn wsX7_ask wsX7_isSo := goodIn_r _ [11, 12, 13, 14, 15, 16, 17, 6, 18, 19, 20, 21, 22, 1, 23, 24, 25, 26, 27, 28, 29, 30, 31, 32, 33, 34, 35, 36, 37, 38, 39, 40, 41, 42, 43, 44, 45, 46, 47, 48, 49, 50, 51, 52, 53, 54, 55, 61, 62, 63, 64, 65, 66, 67, 68, 69, 70, 71, 72, 73, 74, 75, 76, 77, 78, 79, 80, 81, 82, 83] (by decide +kernel) (by decide +kernel)
set_option maxRecDepth 20000 in
theorem gX7_ask_X7_isSo : GoodIn wsX7_ask (wsV RX7 169 RX7 yX7_isSo wsX7_isSo) := goodIn_app (goodIn_of _ (by decide +kernel)) ggX7_ask_X7_isSo
set_option maxRecDepth 20000 in
theorem ggX7_ask_X7_mostAlike : GoodIn wsX7_ask wsX7_mostAlike := goodIn_r _ [59, 1, 60, 2, 23, 24, 25, 6, 26, 27, 28, 29, 30, 31, 32, 33, 34, 15, 16, 17, 18, 19, 20, 21, 22, 35, 36, 37, 38, 39, 40, 41, 42, 43, 44, 45, 46, 47, 48, 49, 50, 51, 52, 53, 54, 55, 61, 62, 63, 64, 65, 66, 67, 68, 69, 70, 71, 72, 73, 74, 75, 76, 77, 78, 79, 80, 81, 82, 83] (by decide +kernel) (by decide +kernel)
set_option maxRecDepth 20000 in
theorem gX7_ask_X7_mostAlike : GoodIn wsX7_ask (wsV RX7 177 RX7 yX7_mostAlike wsX7_mostAlike) := goodIn_app (goodIn_of _ (by decide +kernel)) ggX7_ask_X7_mostAlike
theorem dX7_ask_0 : decode cX7_ask 0 = .ok (.aload_n 0, 1) := by decide +kernel
theorem dX7_ask_1 : decode cX7_ask 1 = .ok (.invokevirtual 174, 3) := by decide +kernel
theorem dX7_ask_4 : decode cX7_ask 4 = .ok (.iconst 2, 1) := by decide +kernel
theorem dX7_ask_5 : decode cX7_ask 5 = .ok (.if_icmp .ge 6, 3) := by decide +kernel
theorem dX7_ask_8 : decode cX7_ask 8 = .ok (.bipush (-9), 2) := by decide +kernel
theorem dX7_ask_10 : decode cX7_ask 10 = .ok (.ireturn, 1) := by decide +kernel
theorem dX7_ask_11 : decode cX7_ask 11 = .ok (.iconst 0, 1) := by decide +kernel
theorem dX7_ask_12 : decode cX7_ask 12 = .ok (.istore_n 1, 1) := by decide +kernel
theorem dX7_ask_13 : decode cX7_ask 13 = .ok (.iload_n 1, 1) := by decide +kernel
theorem dX7_ask_14 : decode cX7_ask 14 = .ok (.aload_n 0, 1) := by decide +kernel
theorem dX7_ask_15 : decode cX7_ask 15 = .ok (.getfield 7, 3) := by decide +kernel
theorem dX7_ask_18 : decode cX7_ask 18 = .ok (.iconst 0, 1) := by decide +kernel
theorem dX7_ask_19 : decode cX7_ask 19 = .ok (.iaload, 1) := by decide +kernel
theorem dX7_ask_20 : decode cX7_ask 20 = .ok (.if_icmp .gt 22, 3) := by decide +kernel
theorem dX7_ask_23 : decode cX7_ask 23 = .ok (.aload_n 0, 1) := by decide +kernel
theorem dX7_ask_24 : decode cX7_ask 24 = .ok (.getfield 41, 3) := by decide +kernel
theorem dX7_ask_27 : decode cX7_ask 27 = .ok (.iload_n 1, 1) := by decide +kernel
theorem dX7_ask_28 : decode cX7_ask 28 = .ok (.aload_n 0, 1) := by decide +kernel
theorem dX7_ask_29 : decode cX7_ask 29 = .ok (.iload_n 1, 1) := by decide +kernel
theorem dX7_ask_30 : decode cX7_ask 30 = .ok (.iconst 1, 1) := by decide +kernel
theorem dX7_ask_31 : decode cX7_ask 31 = .ok (.isub, 1) := by decide +kernel
theorem dX7_ask_32 : decode cX7_ask 32 = .ok (.invokevirtual 169, 3) := by decide +kernel
theorem dX7_ask_35 : decode cX7_ask 35 = .ok (.bastore, 1) := by decide +kernel
theorem dX7_ask_36 : decode cX7_ask 36 = .ok (.iinc 1 1, 3) := by decide +kernel
theorem dX7_ask_39 : decode cX7_ask 39 = .ok (.goto (-26), 3) := by decide +kernel
theorem dX7_ask_42 : decode cX7_ask 42 = .ok (.bipush (-9), 2) := by decide +kernel
theorem dX7_ask_44 : decode cX7_ask 44 = .ok (.istore_n 1, 1) := by decide +kernel
theorem dX7_ask_45 : decode cX7_ask 45 = .ok (.bipush 10, 2) := by decide +kernel
theorem dX7_ask_47 : decode cX7_ask 47 = .ok (.istore_n 2, 1) := by decide +kernel
theorem dX7_ask_48 : decode cX7_ask 48 = .ok (.bipush 10, 2) := by decide +kernel
theorem dX7_ask_50 : decode cX7_ask 50 = .ok (.istore_n 3, 1) := by decide +kernel
theorem dX7_ask_51 : decode cX7_ask 51 = .ok (.iload_n 3, 1) := by decide +kernel
theorem dX7_ask_52 : decode cX7_ask 52 = .ok (.sipush 300, 3) := by decide +kernel
theorem dX7_ask_55 : decode cX7_ask 55 = .ok (.if_icmp .gt 41, 3) := by decide +kernel
theorem dX7_ask_58 : decode cX7_ask 58 = .ok (.aload_n 0, 1) := by decide +kernel
theorem dX7_ask_59 : decode cX7_ask 59 = .ok (.iload_n 3, 1) := by decide +kernel
theorem dX7_ask_60 : decode cX7_ask 60 = .ok (.invokevirtual 177, 3) := by decide +kernel
theorem dX7_ask_63 : decode cX7_ask 63 = .ok (.istore 4, 2) := by decide +kernel
theorem dX7_ask_65 : decode cX7_ask 65 = .ok (.iload 4, 2) := by decide +kernel
theorem dX7_ask_67 : decode cX7_ask 67 = .ok (.iload_n 2, 1) := by decide +kernel
theorem dX7_ask_68 : decode cX7_ask 68 = .ok (.if_icmp .ge 7, 3) := by decide +kernel
theorem dX7_ask_71 : decode cX7_ask 71 = .ok (.iload_n 3, 1) := by decide +kernel
theorem dX7_ask_72 : decode cX7_ask 72 = .ok (.goto 4, 3) := by decide +kernel
theorem dX7_ask_75 : decode cX7_ask 75 = .ok (.iload_n 1, 1) := by decide +kernel
theorem dX7_ask_76 : decode cX7_ask 76 = .ok (.istore_n 1, 1) := by decide +kernel
theorem dX7_ask_77 : decode cX7_ask 77 = .ok (.iload 4, 2) := by decide +kernel
theorem dX7_ask_79 : decode cX7_ask 79 = .ok (.iload_n 2, 1) := by decide +kernel
theorem dX7_ask_80 : decode cX7_ask 80 = .ok (.if_icmp .ge 8, 3) := by decide +kernel
theorem dX7_ask_83 : decode cX7_ask 83 = .ok (.iload 4, 2) := by decide +kernel
theorem dX7_ask_85 : decode cX7_ask 85 = .ok (.goto 4, 3) := by decide +kernel
theorem dX7_ask_88 : decode cX7_ask 88 = .ok (.iload_n 2, 1) := by decide +kernel
theorem dX7_ask_89 : decode cX7_ask 89 = .ok (.istore_n 2, 1) := by decide +kernel
theorem dX7_ask_90 : decode cX7_ask 90 = .ok (.iinc 3 10, 3) := by decide +kernel
theorem dX7_ask_93 : decode cX7_ask 93 = .ok (.goto (-42), 3) := by decide +kernel
theorem dX7_ask_96 : decode cX7_ask 96 = .ok (.iload_n 1, 1) := by decide +kernel
theorem dX7_ask_97 : decode cX7_ask 97 = .ok (.ireturn, 1) := by decide +kernel
set_option maxRecDepth 20000 in
theorem ggX7_keep_X7_in : GoodIn wsX7_keep wsX7_in := goodIn_r _ [7] (by decide +kernel) (by decide +kernel)
set_option maxRecDepth 20000 in
theorem gX7_keep_X7_in : GoodIn wsX7_keep (va_wsS RX7 47 yX7_in wsX7_in) := goodIn_app (goodIn_of _ (by decide +kernel)) ggX7_keep_X7_in
theorem dX7_keep_0 : decode cX7_keep 0 = .ok (.iload_n 1, 1) := by decide +kernel
theorem dX7_keep_1 : decode cX7_keep 1 = .ok (.iconst 0, 1) := by decide +kernel
theorem dX7_keep_2 : decode cX7_keep 2 = .ok (.iconst 1, 1) := by decide +kernel
theorem dX7_keep_3 : decode cX7_keep 3 = .ok (.invokestatic 47, 3) := by decide +kernel
theorem dX7_keep_6 : decode cX7_keep 6 = .ok (.ifCond .ne 5, 3) := by decide +kernel
theorem dX7_keep_9 : decode cX7_keep 9 = .ok (.iconst (-1), 1) := by decide +kernel
theorem dX7_keep_10 : decode cX7_keep 10 = .ok (.ireturn, 1) := by decide +kernel
theorem dX7_keep_11 : decode cX7_keep 11 = .ok (.iconst 0, 1) := by decide +kernel
theorem dX7_keep_12 : decode cX7_keep 12 = .ok (.istore_n 2, 1) := by decide +kernel
theorem dX7_keep_13 : decode cX7_keep 13 = .ok (.iload_n 2, 1) := by decide +kernel
theorem dX7_keep_14 : decode cX7_keep 14 = .ok (.bipush 41, 2) := by decide +kernel
theorem dX7_keep_16 : decode cX7_keep 16 = .ok (.if_icmp .ge 26, 3) := by decide +kernel
theorem dX7_keep_19 : decode cX7_keep 19 = .ok (.aload_n 0, 1) := by decide +kernel
theorem dX7_keep_20 : decode cX7_keep 20 = .ok (.getfield 19, 3) := by decide +kernel
theorem dX7_keep_23 : decode cX7_keep 23 = .ok (.bipush 41, 2) := by decide +kernel
theorem dX7_keep_25 : decode cX7_keep 25 = .ok (.iload_n 1, 1) := by decide +kernel
theorem dX7_keep_26 : decode cX7_keep 26 = .ok (.imul, 1) := by decide +kernel
theorem dX7_keep_27 : decode cX7_keep 27 = .ok (.iload_n 2, 1) := by decide +kernel
theorem dX7_keep_28 : decode cX7_keep 28 = .ok (.iadd, 1) := by decide +kernel
theorem dX7_keep_29 : decode cX7_keep 29 = .ok (.aload_n 0, 1) := by decide +kernel
theorem dX7_keep_30 : decode cX7_keep 30 = .ok (.getfield 7, 3) := by decide +kernel
theorem dX7_keep_33 : decode cX7_keep 33 = .ok (.iload_n 2, 1) := by decide +kernel
theorem dX7_keep_34 : decode cX7_keep 34 = .ok (.iaload, 1) := by decide +kernel
theorem dX7_keep_35 : decode cX7_keep 35 = .ok (.iastore, 1) := by decide +kernel
theorem dX7_keep_36 : decode cX7_keep 36 = .ok (.iinc 2 1, 3) := by decide +kernel
theorem dX7_keep_39 : decode cX7_keep 39 = .ok (.goto (-26), 3) := by decide +kernel
theorem dX7_keep_42 : decode cX7_keep 42 = .ok (.aload_n 0, 1) := by decide +kernel
theorem dX7_keep_43 : decode cX7_keep 43 = .ok (.getfield 22, 3) := by decide +kernel
theorem dX7_keep_46 : decode cX7_keep 46 = .ok (.iload_n 1, 1) := by decide +kernel
theorem dX7_keep_47 : decode cX7_keep 47 = .ok (.iconst 1, 1) := by decide +kernel
theorem dX7_keep_48 : decode cX7_keep 48 = .ok (.bastore, 1) := by decide +kernel
theorem dX7_keep_49 : decode cX7_keep 49 = .ok (.aload_n 0, 1) := by decide +kernel
theorem dX7_keep_50 : decode cX7_keep 50 = .ok (.getfield 7, 3) := by decide +kernel
theorem dX7_keep_53 : decode cX7_keep 53 = .ok (.iconst 0, 1) := by decide +kernel
theorem dX7_keep_54 : decode cX7_keep 54 = .ok (.iaload, 1) := by decide +kernel
theorem dX7_keep_55 : decode cX7_keep 55 = .ok (.ireturn, 1) := by decide +kernel
set_option maxRecDepth 20000 in
theorem ggX7_back_X7_in : GoodIn wsX7_back wsX7_in := goodIn_r _ [8] (by decide +kernel) (by decide +kernel)
set_option maxRecDepth 20000 in
theorem gX7_back_X7_in : GoodIn wsX7_back (va_wsS RX7 47 yX7_in wsX7_in) := goodIn_app (goodIn_of _ (by decide +kernel)) ggX7_back_X7_in
theorem dX7_back_0 : decode cX7_back 0 = .ok (.iload_n 1, 1) := by decide +kernel
theorem dX7_back_1 : decode cX7_back 1 = .ok (.iconst 0, 1) := by decide +kernel
theorem dX7_back_2 : decode cX7_back 2 = .ok (.iconst 1, 1) := by decide +kernel
theorem dX7_back_3 : decode cX7_back 3 = .ok (.invokestatic 47, 3) := by decide +kernel
theorem dX7_back_6 : decode cX7_back 6 = .ok (.ifCond .ne 5, 3) := by decide +kernel
theorem dX7_back_9 : decode cX7_back 9 = .ok (.iconst (-1), 1) := by decide +kernel
theorem dX7_back_10 : decode cX7_back 10 = .ok (.ireturn, 1) := by decide +kernel
theorem dX7_back_11 : decode cX7_back 11 = .ok (.aload_n 0, 1) := by decide +kernel
theorem dX7_back_12 : decode cX7_back 12 = .ok (.getfield 22, 3) := by decide +kernel
theorem dX7_back_15 : decode cX7_back 15 = .ok (.iload_n 1, 1) := by decide +kernel
theorem dX7_back_16 : decode cX7_back 16 = .ok (.baload, 1) := by decide +kernel
theorem dX7_back_17 : decode cX7_back 17 = .ok (.ifCond .ne 6, 3) := by decide +kernel
theorem dX7_back_20 : decode cX7_back 20 = .ok (.bipush (-2), 2) := by decide +kernel
theorem dX7_back_22 : decode cX7_back 22 = .ok (.ireturn, 1) := by decide +kernel
theorem dX7_back_23 : decode cX7_back 23 = .ok (.iconst 0, 1) := by decide +kernel
theorem dX7_back_24 : decode cX7_back 24 = .ok (.istore_n 2, 1) := by decide +kernel
theorem dX7_back_25 : decode cX7_back 25 = .ok (.iload_n 2, 1) := by decide +kernel
theorem dX7_back_26 : decode cX7_back 26 = .ok (.bipush 41, 2) := by decide +kernel
theorem dX7_back_28 : decode cX7_back 28 = .ok (.if_icmp .ge 26, 3) := by decide +kernel
theorem dX7_back_31 : decode cX7_back 31 = .ok (.aload_n 0, 1) := by decide +kernel
theorem dX7_back_32 : decode cX7_back 32 = .ok (.getfield 7, 3) := by decide +kernel
theorem dX7_back_35 : decode cX7_back 35 = .ok (.iload_n 2, 1) := by decide +kernel
theorem dX7_back_36 : decode cX7_back 36 = .ok (.aload_n 0, 1) := by decide +kernel
theorem dX7_back_37 : decode cX7_back 37 = .ok (.getfield 19, 3) := by decide +kernel
theorem dX7_back_40 : decode cX7_back 40 = .ok (.bipush 41, 2) := by decide +kernel
theorem dX7_back_42 : decode cX7_back 42 = .ok (.iload_n 1, 1) := by decide +kernel
theorem dX7_back_43 : decode cX7_back 43 = .ok (.imul, 1) := by decide +kernel
theorem dX7_back_44 : decode cX7_back 44 = .ok (.iload_n 2, 1) := by decide +kernel
theorem dX7_back_45 : decode cX7_back 45 = .ok (.iadd, 1) := by decide +kernel
theorem dX7_back_46 : decode cX7_back 46 = .ok (.iaload, 1) := by decide +kernel
theorem dX7_back_47 : decode cX7_back 47 = .ok (.iastore, 1) := by decide +kernel
theorem dX7_back_48 : decode cX7_back 48 = .ok (.iinc 2 1, 3) := by decide +kernel
theorem dX7_back_51 : decode cX7_back 51 = .ok (.goto (-26), 3) := by decide +kernel
theorem dX7_back_54 : decode cX7_back 54 = .ok (.aload_n 0, 1) := by decide +kernel
theorem dX7_back_55 : decode cX7_back 55 = .ok (.iconst 0, 1) := by decide +kernel
theorem dX7_back_56 : decode cX7_back 56 = .ok (.putfield 105, 3) := by decide +kernel
theorem dX7_back_59 : decode cX7_back 59 = .ok (.aload_n 0, 1) := by decide +kernel
theorem dX7_back_60 : decode cX7_back 60 = .ok (.getfield 7, 3) := by decide +kernel
theorem dX7_back_63 : decode cX7_back 63 = .ok (.iconst 0, 1) := by decide +kernel
theorem dX7_back_64 : decode cX7_back 64 = .ok (.iaload, 1) := by decide +kernel
theorem dX7_back_65 : decode cX7_back 65 = .ok (.ireturn, 1) := by decide +kernel
set_option maxRecDepth 20000 in
theorem ggX7_count_X7_isWhole : GoodIn wsX7_count wsX7_isWhole := goodIn_r _ [10, 11, 12, 13, 9, 14, 1, 34, 35, 36, 37, 38, 39, 40, 41, 42, 43, 44, 45, 46, 47, 48, 49, 50, 51, 52, 53, 54, 55, 56] (by decide +kernel) (by decide +kernel)
set_option maxRecDepth 20000 in
theorem gX7_count_X7_isWhole : GoodIn wsX7_count (wsV RX7 55 RX7 yX7_isWhole wsX7_isWhole) := goodIn_app (goodIn_of _ (by decide +kernel)) ggX7_count_X7_isWhole
set_option maxRecDepth 20000 in
theorem ggX7_count_X7_of : GoodIn wsX7_count wsX7_of := goodIn_r _ [14, 1, 34, 35, 36, 37, 38, 39, 40, 41, 42, 43, 44, 45, 46, 47, 48, 49, 50, 51, 52, 53, 54, 55, 56] (by decide +kernel) (by decide +kernel)
set_option maxRecDepth 20000 in
theorem gX7_count_X7_of : GoodIn wsX7_count (wsV RX7 51 RX7 yX7_of wsX7_of) := goodIn_app (goodIn_of _ (by decide +kernel)) ggX7_count_X7_of
set_option maxRecDepth 20000 in
theorem ggX7_count_X7_whole : GoodIn wsX7_count wsX7_whole := goodIn_r _ [18, 1, 6, 7, 8, 9, 10, 11, 12, 13, 14, 34, 35, 36, 37, 38, 39, 40, 41, 42, 43, 44, 45, 46, 47, 48, 49, 50, 51, 52, 53, 54, 55, 56] (by decide +kernel) (by decide +kernel)
set_option maxRecDepth 20000 in
theorem gX7_count_X7_whole : GoodIn wsX7_count (wsV RX7 131 RX7 yX7_whole wsX7_whole) := goodIn_app (goodIn_of _ (by decide +kernel)) ggX7_count_X7_whole
set_option maxRecDepth 20000 in
theorem ggX7_count_X7_ones : GoodIn wsX7_count wsX7_ones := goodIn_r _ [21, 22, 23, 9, 24] (by decide +kernel) (by decide +kernel)
set_option maxRecDepth 20000 in
theorem gX7_count_X7_ones : GoodIn wsX7_count (va_wsS RX7 145 yX7_ones wsX7_ones) := goodIn_app (goodIn_of _ (by decide +kernel)) ggX7_count_X7_ones
set_option maxRecDepth 20000 in
theorem ggX7_count_X7_all : GoodIn wsX7_count wsX7_all := goodIn_r _ [28, 1, 34, 35, 36, 37, 38, 39, 40, 41, 42, 43, 44, 45, 46, 47, 48, 49, 50, 51, 52, 53, 54, 55, 56] (by decide +kernel) (by decide +kernel)
set_option maxRecDepth 20000 in
theorem gX7_count_X7_all : GoodIn wsX7_count (wsV RX7 135 RX7 yX7_all wsX7_all) := goodIn_app (goodIn_of _ (by decide +kernel)) ggX7_count_X7_all
set_option maxRecDepth 20000 in
theorem ggX7_count_X7_reaches : GoodIn wsX7_count wsX7_reaches := goodIn_r _ [32, 1, 33, 2, 22, 23, 9, 24, 11, 12, 13, 14, 34, 35, 36, 37, 38, 39, 40, 41, 42, 43, 44, 45, 46, 47, 48, 49, 50, 51, 52, 53, 54, 55, 56] (by decide +kernel) (by decide +kernel)
set_option maxRecDepth 20000 in
theorem gX7_count_X7_reaches : GoodIn wsX7_count (wsV RX7 108 RX7 yX7_reaches wsX7_reaches) := goodIn_app (goodIn_of _ (by decide +kernel)) ggX7_count_X7_reaches
theorem dX7_count_0 : decode cX7_count 0 = .ok (.iconst 0, 1) := by decide +kernel
theorem dX7_count_1 : decode cX7_count 1 = .ok (.istore_n 2, 1) := by decide +kernel
theorem dX7_count_2 : decode cX7_count 2 = .ok (.iconst 0, 1) := by decide +kernel
theorem dX7_count_3 : decode cX7_count 3 = .ok (.istore_n 3, 1) := by decide +kernel
theorem dX7_count_4 : decode cX7_count 4 = .ok (.iconst 0, 1) := by decide +kernel
theorem dX7_count_5 : decode cX7_count 5 = .ok (.istore 4, 2) := by decide +kernel
theorem dX7_count_7 : decode cX7_count 7 = .ok (.iload 4, 2) := by decide +kernel
theorem dX7_count_9 : decode cX7_count 9 = .ok (.aload_n 0, 1) := by decide +kernel
theorem dX7_count_10 : decode cX7_count 10 = .ok (.getfield 7, 3) := by decide +kernel
theorem dX7_count_13 : decode cX7_count 13 = .ok (.iconst 0, 1) := by decide +kernel
theorem dX7_count_14 : decode cX7_count 14 = .ok (.iaload, 1) := by decide +kernel
theorem dX7_count_15 : decode cX7_count 15 = .ok (.if_icmp .ge 42, 3) := by decide +kernel
theorem dX7_count_18 : decode cX7_count 18 = .ok (.iload_n 2, 1) := by decide +kernel
theorem dX7_count_19 : decode cX7_count 19 = .ok (.aload_n 0, 1) := by decide +kernel
theorem dX7_count_20 : decode cX7_count 20 = .ok (.iload 4, 2) := by decide +kernel
theorem dX7_count_22 : decode cX7_count 22 = .ok (.invokevirtual 55, 3) := by decide +kernel
theorem dX7_count_25 : decode cX7_count 25 = .ok (.ifCond .eq 13, 3) := by decide +kernel
theorem dX7_count_28 : decode cX7_count 28 = .ok (.aload_n 0, 1) := by decide +kernel
theorem dX7_count_29 : decode cX7_count 29 = .ok (.iload 4, 2) := by decide +kernel
theorem dX7_count_31 : decode cX7_count 31 = .ok (.iconst 2, 1) := by decide +kernel
theorem dX7_count_32 : decode cX7_count 32 = .ok (.invokevirtual 51, 3) := by decide +kernel
theorem dX7_count_35 : decode cX7_count 35 = .ok (.goto 4, 3) := by decide +kernel
theorem dX7_count_38 : decode cX7_count 38 = .ok (.iconst 0, 1) := by decide +kernel
theorem dX7_count_39 : decode cX7_count 39 = .ok (.iadd, 1) := by decide +kernel
theorem dX7_count_40 : decode cX7_count 40 = .ok (.istore_n 2, 1) := by decide +kernel
theorem dX7_count_41 : decode cX7_count 41 = .ok (.iload_n 3, 1) := by decide +kernel
theorem dX7_count_42 : decode cX7_count 42 = .ok (.aload_n 0, 1) := by decide +kernel
theorem dX7_count_43 : decode cX7_count 43 = .ok (.iload 4, 2) := by decide +kernel
theorem dX7_count_45 : decode cX7_count 45 = .ok (.iconst 1, 1) := by decide +kernel
theorem dX7_count_46 : decode cX7_count 46 = .ok (.invokevirtual 51, 3) := by decide +kernel
theorem dX7_count_49 : decode cX7_count 49 = .ok (.iadd, 1) := by decide +kernel
theorem dX7_count_50 : decode cX7_count 50 = .ok (.istore_n 3, 1) := by decide +kernel
theorem dX7_count_51 : decode cX7_count 51 = .ok (.iinc 4 1, 3) := by decide +kernel
theorem dX7_count_54 : decode cX7_count 54 = .ok (.goto (-47), 3) := by decide +kernel
theorem dX7_count_57 : decode cX7_count 57 = .ok (.iload_n 1, 1) := by decide +kernel
theorem dX7_count_58 : decode cX7_count 58 = .ok (.tableswitch 102 0 7 #[46, 53, 61, 63, 65, 87, 92, 97], 46) := by decide +kernel
theorem dX7_count_104 : decode cX7_count 104 = .ok (.aload_n 0, 1) := by decide +kernel
theorem dX7_count_105 : decode cX7_count 105 = .ok (.getfield 7, 3) := by decide +kernel
theorem dX7_count_108 : decode cX7_count 108 = .ok (.iconst 0, 1) := by decide +kernel
theorem dX7_count_109 : decode cX7_count 109 = .ok (.iaload, 1) := by decide +kernel
theorem dX7_count_110 : decode cX7_count 110 = .ok (.ireturn, 1) := by decide +kernel
theorem dX7_count_111 : decode cX7_count 111 = .ok (.aload_n 0, 1) := by decide +kernel
theorem dX7_count_112 : decode cX7_count 112 = .ok (.invokevirtual 131, 3) := by decide +kernel
theorem dX7_count_115 : decode cX7_count 115 = .ok (.invokestatic 145, 3) := by decide +kernel
theorem dX7_count_118 : decode cX7_count 118 = .ok (.ireturn, 1) := by decide +kernel
theorem dX7_count_119 : decode cX7_count 119 = .ok (.iload_n 2, 1) := by decide +kernel
theorem dX7_count_120 : decode cX7_count 120 = .ok (.ireturn, 1) := by decide +kernel
theorem dX7_count_121 : decode cX7_count 121 = .ok (.iload_n 3, 1) := by decide +kernel
theorem dX7_count_122 : decode cX7_count 122 = .ok (.ireturn, 1) := by decide +kernel
theorem dX7_count_123 : decode cX7_count 123 = .ok (.aload_n 0, 1) := by decide +kernel
theorem dX7_count_124 : decode cX7_count 124 = .ok (.aload_n 0, 1) := by decide +kernel
theorem dX7_count_125 : decode cX7_count 125 = .ok (.invokevirtual 135, 3) := by decide +kernel
theorem dX7_count_128 : decode cX7_count 128 = .ok (.invokevirtual 108, 3) := by decide +kernel
theorem dX7_count_131 : decode cX7_count 131 = .ok (.aload_n 0, 1) := by decide +kernel
theorem dX7_count_132 : decode cX7_count 132 = .ok (.getfield 38, 3) := by decide +kernel
theorem dX7_count_135 : decode cX7_count 135 = .ok (.aload_n 0, 1) := by decide +kernel
theorem dX7_count_136 : decode cX7_count 136 = .ok (.getfield 7, 3) := by decide +kernel
theorem dX7_count_139 : decode cX7_count 139 = .ok (.iconst 0, 1) := by decide +kernel
theorem dX7_count_140 : decode cX7_count 140 = .ok (.iaload, 1) := by decide +kernel
theorem dX7_count_141 : decode cX7_count 141 = .ok (.iconst 1, 1) := by decide +kernel
theorem dX7_count_142 : decode cX7_count 142 = .ok (.isub, 1) := by decide +kernel
theorem dX7_count_143 : decode cX7_count 143 = .ok (.iaload, 1) := by decide +kernel
theorem dX7_count_144 : decode cX7_count 144 = .ok (.ireturn, 1) := by decide +kernel
theorem dX7_count_145 : decode cX7_count 145 = .ok (.aload_n 0, 1) := by decide +kernel
theorem dX7_count_146 : decode cX7_count 146 = .ok (.getfield 102, 3) := by decide +kernel
theorem dX7_count_149 : decode cX7_count 149 = .ok (.ireturn, 1) := by decide +kernel
theorem dX7_count_150 : decode cX7_count 150 = .ok (.aload_n 0, 1) := by decide +kernel
theorem dX7_count_151 : decode cX7_count 151 = .ok (.getfield 63, 3) := by decide +kernel
theorem dX7_count_154 : decode cX7_count 154 = .ok (.ireturn, 1) := by decide +kernel
theorem dX7_count_155 : decode cX7_count 155 = .ok (.aload_n 0, 1) := by decide +kernel
theorem dX7_count_156 : decode cX7_count 156 = .ok (.getfield 105, 3) := by decide +kernel
theorem dX7_count_159 : decode cX7_count 159 = .ok (.ireturn, 1) := by decide +kernel
theorem dX7_count_160 : decode cX7_count 160 = .ok (.iconst (-1), 1) := by decide +kernel
theorem dX7_count_161 : decode cX7_count 161 = .ok (.ireturn, 1) := by decide +kernel
end
section
/-! the worlds' kinds, the facts that every method carries, contracts of methods that make nothing -/
abbrev GG : Type := va_G × ClassId × ClassId × ClassId × ClassId
abbrev gTy (g : GG) : List (ClassId × FieldType) := [(g.2.1, .char), (g.2.2.1, .int), (g.2.2.2.1, .boolean), (g.2.2.2.2, .object "StackedLeaves$Leaves")]
abbrev aC (g : GG) (n : Nat) (f : Nat → Int32) : va_E := .inl (g.2.1, n, .inl f)
abbrev aI (g : GG) (n : Nat) (f : Nat → Int32) : va_E := .inl (g.2.2.1, n, .inl f)
abbrev aZ (g : GG) (n : Nat) (f : Nat → Int32) : va_E := .inl (g.2.2.2.1, n, .inl f)
abbrev aO (g : GG) (n : Nat) (f : Nat → Option Nat) : va_E := .inl (g.2.2.2.2, n, .inr (.inr (.inr (.inr f))))
abbrev ob (ci : Nat) (fs : List Value) : va_E := .inr (ci, fs)
def bI (b : Bool) : Int32 := if b then 1 else 0
def nwF : List (String × Nat × String × String × String) := [
  ("StackedLeaves$Pack", 21, "StackedLeaves$Leaves", "size", "I"), ("StackedLeaves", 84, "StackedLeaves$Leaves", "size", "I"), ("StackedLeaves", 88, "StackedLeaves$Leaves", "whole", "I"),
  ("StackedLeaves", 62, "StackedLeaves$Text", "size", "I"), ("StackedLeaves", 128, "StackedLeaves$History", "size", "I"), ("StackedLeaves", 175, "StackedLeaves$Sightings", "size", "I"),
  ("StackedLeaves", 132, "StackedLeaves$Pack", "reach", "[I"), ("StackedLeaves", 141, "StackedLeaves$Pack", "upper", "I"), ("StackedLeaves", 144, "StackedLeaves$Pack", "lower", "I"),
  ("StackedLeaves", 157, "StackedLeaves$Pack", "pressedStiff", "I"), ("StackedLeaves$Text", 47, "StackedLeaves", "LEAST_NUMBER", "[I"), ("StackedLeaves$Leaves", 36, "StackedLeaves", "MOST_NUMBER", "[I"),
  ("StackedLeaves$Text", 35, "StackedLeaves$Leaves", "size", "I")]
def nwM : List (String × Nat × MethodName) := [("StackedLeaves", 21, yX5_init), ("StackedLeaves", 42, yX4_init), ("StackedLeaves", 49, yX3_init),
  ("StackedLeaves$Pack", 31, yX6_holds), ("StackedLeaves$Leaves", 28, yX6_holds), ("StackedLeaves$Images", 26, yX6_holds)]
def EVN (U : State) : Prop := (∀ q ∈ nwF, va_Nw (.fieldLinkNest q.1 q.2.1 q.2.2.1 q.2.2.2.1 q.2.2.2.2 "StackedLeaves") U) ∧ (∀ q ∈ nwM, va_Nw (.methodLinkNest q.1 q.2.1 q.2.2 "StackedLeaves") U)
def fLe (j : Nat) : Int32 := if j = 2 then 0 else 1
def fMo (j : Nat) : Int32 := if j = 0 then 9 else if j = 1 then 9 else if j = 2 then 30 else 99
def EV (A : Nat → Prop) (U : State) (H : Heap) : Prop := EVN U ∧ (∃ t : Nat, va_Z "StackedLeaves" "LEAST_NUMBER" "[I" (.ref t) A U H ∧ va_T .int t 4 (fun j => .int (fLe j)) A U H) ∧ (∃ t : Nat, va_Z "StackedLeaves" "MOST_NUMBER" "[I" (.ref t) A U H ∧ va_T .int t 4 (fun j => .int (fMo j)) A U H)
theorem EV.moved {A : Nat → Prop} {s U : State} {H : Heap} (hW : s.WarmedH U.vm) (h : EV A s H) : EV A U H := by
  obtain ⟨⟨h1, h2⟩, ⟨t1, a1, b1⟩, ⟨t2, a2, b2⟩⟩ := h
  exact ⟨⟨fun q hq => va_Nw.warmF hW (h1 q hq), fun q hq => va_Nw.warmM hW (h2 q hq)⟩, ⟨t1, a1.moved hW.alike, b1.moved hW.alike⟩, ⟨t2, a2.moved hW.alike, b2.moved hW.alike⟩⟩
theorem EV.same {A : Nat → Prop} {s U : State} {H : Heap} (hv : s.vm = U.vm) (h : EV A s H) : EV A U H := by
  obtain ⟨⟨h1, h2⟩, ⟨t1, a1, b1⟩, ⟨t2, a2, b2⟩⟩ := h
  have ha : s.vm.Alike U.vm := by rw [hv]; exact Vm.Alike.refl U.vm
  exact ⟨⟨fun q hq => va_Nw.same rfl hv (h1 q hq), fun q hq => va_Nw.same rfl hv (h2 q hq)⟩, ⟨t1, a1.moved ha, b1.moved ha⟩, ⟨t2, a2.moved ha, b2.moved ha⟩⟩
theorem EV.kept {A : Nat → Prop} {U : State} {H H1 : Heap} (hq : ∀ a : Nat, a < H.size → ¬ A a → H1[a]? = H[a]?) (h : EV A U H) : EV A U H1 := by
  obtain ⟨h1, ⟨t1, a1, b1⟩, ⟨t2, a2, b2⟩⟩ := h
  exact ⟨h1, ⟨t1, a1.kept hq, b1.kept hq⟩, ⟨t2, a2.kept hq, b2.kept hq⟩⟩
theorem EV.narrow {A B : Nat → Prop} {U : State} {H : Heap} (hAB : ∀ q, B q → A q) (h : EV A U H) : EV B U H := by
  obtain ⟨h1, ⟨t1, a1, b1⟩, ⟨t2, a2, b2⟩⟩ := h
  exact ⟨h1, ⟨t1, a1.narrow hAB, b1.narrow hAB⟩, ⟨t2, a2.narrow hAB, b2.narrow hAB⟩⟩
def PRE (g : GG) (ws : va_W) (sz : Nat) (U : State) : Prop := U.heap.size = sz ∧ va_P g.1 vwCl ws U.heap ∧ va_K g.1 vwCl (gTy g) U ∧ va_D (fun _ => True) ws ∧ EV (va_A ws sz) U U.heap
def POST (g : GG) (A : Nat → Prop) (ws' : va_W) (t : State) : Prop := va_P g.1 vwCl ws' t.heap ∧ va_K g.1 vwCl (gTy g) t ∧ va_D A ws'
theorem pre_blind (g : GG) (av : List Value) (ws : va_W) (sz : Nat) : FrameBlind (va_Pc av (PRE g ws sz)) := fun a U f mk q => by
  obtain ⟨q0, q1, qP, qK, qD, qE⟩ := q
  exact ⟨q0, q1, qP, va_K.moved (u := U) (U := U.calling f mk a) (Vm.Alike.refl U.vm) qK, qD, EV.same (s := U) (U := U.calling f mk a) rfl qE⟩
def KI (l : Launch) (g : GG) (y : MethodName) (wy : List Cond) (fr lo : Nat) (av : List Value) (ws : va_W) (X : Int32 → va_W → Prop) : Prop :=
  ∀ sz : Nat, Met l y wy { frames := fr, cells := 0, slots := 0, locals := lo } (va_Pc av (PRE g ws sz)) (va_Qi X (fun ws' t => POST g (va_A ws sz) ws' t) (va_A ws sz)) 0 0 (va_A ws sz)
def KV (l : Launch) (g : GG) (y : MethodName) (wy : List Cond) (fr lo : Nat) (av : List Value) (ws : va_W) (X : va_W → Prop) : Prop :=
  ∀ sz : Nat, Met l y wy { frames := fr, cells := 0, slots := 0, locals := lo } (va_Pc av (PRE g ws sz)) (va_Qv X (fun ws' t => POST g (va_A ws sz) ws' t) (va_A ws sz)) 0 0 (va_A ws sz)
def QI (below : List Frame) (args : Array Value) (s : State) (g : GG) (A : Nat → Prop) (X : Int32 → va_W → Prop) : State → Prop := MQ below (va_Qi X (fun ws' t => POST g A ws' t) A) args s 0 0 A
def QV (below : List Frame) (args : Array Value) (s : State) (g : GG) (A : Nat → Prop) (X : va_W → Prop) : State → Prop := MQ below (va_Qv X (fun ws' t => POST g A ws' t) A) args s 0 0 A
/-- what holds throughout a method's body -/
def CX (p : Program) (s : State) (m : MethodId) (args : Array Value) (meth : Method) (c : Code) (cc : ByteArray) (nL : Nat) (Ts : List Cond) (own : String) (g : GG) (A : Nat → Prop) : Prop :=
  CallFix p m c cc nL s args Ts own ∧ va_K g.1 vwCl (gTy g) s ∧ EV A s s.heap ∧ (∀ q : Nat, s.heap.size ≤ q → A q) ∧ meth.locks = false
/-- the world now -/
def ST (g : GG) (A : Nat → Prop) (s : State) (H : Heap) (locs : List Loc) (ws : va_W) : Prop := va_P g.1 vwCl ws H ∧ va_D A ws ∧ va_S A s.heap H locs
theorem ST.sub {g : GG} {A : Nat → Prop} {s : State} {H : Heap} {locs : List Loc} {ws ws' : va_W} (h : ST g A s H locs ws) (is : List Nat) (hn : va_nd is = true) (hs : is.map (fun i => ws[i]?) = ws'.map some) : ST g A s H locs ws' := by
  refine ⟨fun k q hk => ?_, h.2.1.sub is hn hs, h.2.2⟩
  have h1 : (is.map (fun i => ws[i]?))[k]? = some (some q) := by rw [hs, List.getElem?_map, hk]; rfl
  rw [List.getElem?_map] at h1
  cases hi : is[k]? with
  | none => rw [hi] at h1; cases h1
  | some i => rw [hi] at h1; exact h.1 i q (Option.some.inj h1)
theorem ST.eq {g : GG} {A : Nat → Prop} {s : State} {H : Heap} {locs : List Loc} {ws ws' : va_W} (h : ST g A s H locs ws) (e : ws = ws') : ST g A s H locs ws' := e ▸ h
theorem kI_of {l : Launch} {g : GG} {y : MethodName} {wy wy' : List Cond} {fr lo : Nat} {av : List Value} {ws : va_W} {X : Int32 → va_W → Prop} {cc : ByteArray} {maxL : Nat} {ty : FieldType}
    (hy : plainName y.cls = true) (hw : wy = Cond.code y cc maxL (some ty) :: wy') (hlen : (lg_sl av).length ≤ maxL)
    (body : ∀ (p : Program) (e : Env) (s : State) (m : MethodId) (below : List Frame) (meth : Method) (c : Code) (A : Nat → Prop) (ls : Array Slot), CX p s m av.toArray meth c cc maxL wy y.cls g A → ST g A s s.heap [] ws → meth.sig.returnType = some ty → lv_has ls maxL (lv_args 0 av) →
      W p l e { frames := fr, cells := 0, slots := 0, locals := lo } s m av.toArray below meth c s.heap [] 0 0 (QI below av.toArray s g A X) (F0 m 0 ls [])) : KI l g y wy fr lo av ws X := by
  intro sz
  refine Met.ofW (cc := cc) (maxL := maxL) (ret := some ty) hy hw ?_
  intro p e s m args below meth c s₁ B hml hv
  obtain ⟨rfl, hsz, hP, hK, hD0, hE⟩ := hv
  subst hsz
  have hl := lv_entry av (n := maxL) hlen
  rw [lg_entry_eq]
  exact body p e s m below meth c (va_A ws s.heap.size) _ ⟨⟨B.exec, B.bytes, hml, findClass_of_methodNamed B.named, atoms_spec (ws := wy) B.pre⟩, hK, hE, fun q h => Or.inr h, B.notSynchronized⟩ ⟨hP, hD0.self, va_S.rf⟩ B.returns hl
theorem kV_of {l : Launch} {g : GG} {y : MethodName} {wy wy' : List Cond} {fr lo : Nat} {av : List Value} {ws : va_W} {X : va_W → Prop} {cc : ByteArray} {maxL : Nat}
    (hy : plainName y.cls = true) (hw : wy = Cond.code y cc maxL none :: wy') (hlen : (lg_sl av).length ≤ maxL)
    (body : ∀ (p : Program) (e : Env) (s : State) (m : MethodId) (below : List Frame) (meth : Method) (c : Code) (A : Nat → Prop) (ls : Array Slot), CX p s m av.toArray meth c cc maxL wy y.cls g A → ST g A s s.heap [] ws → meth.sig.returnType = none → lv_has ls maxL (lv_args 0 av) →
      W p l e { frames := fr, cells := 0, slots := 0, locals := lo } s m av.toArray below meth c s.heap [] 0 0 (QV below av.toArray s g A X) (F0 m 0 ls [])) : KV l g y wy fr lo av ws X := by
  intro sz
  refine Met.ofW (cc := cc) (maxL := maxL) (ret := none) hy hw ?_
  intro p e s m args below meth c s₁ B hml hv
  obtain ⟨rfl, hsz, hP, hK, hD0, hE⟩ := hv
  subst hsz
  have hl := lv_entry av (n := maxL) hlen
  rw [lg_entry_eq]
  exact body p e s m below meth c (va_A ws s.heap.size) _ ⟨⟨B.exec, B.bytes, hml, findClass_of_methodNamed B.named, atoms_spec (ws := wy) B.pre⟩, hK, hE, fun q h => Or.inr h, B.notSynchronized⟩ ⟨hP, hD0.self, va_S.rf⟩ B.returns hl
section BASE
variable {p : Program} {l : Launch} {e : Env} {R : Room} {s : State} {m : MethodId} {args : Array Value} {below : List Frame} {meth : Method} {c : Code} {H : Heap} {locs : List Loc} {cells slots : Nat} {Q : State → Prop}
variable {cc : ByteArray} {nL pc : Nat} {ls : Array Slot} {rest : List Value} {Ts : List Cond} {own : String} {g : GG} {A : Nat → Prop} {ws wc wr wc' : va_W}
theorem ev_at (C : CX p s m args meth c cc nL Ts own g A) (S : ST g A s H locs ws) : EV A s H := EV.kept (fun a h1 h2 => S.2.2.2.1 a h1 h2) C.2.2.1
theorem pre_at (C : CX p s m args meth c cc nL Ts own g A) (S : ST g A s H locs ws) (isC : List Nat) (hC : isC.map (fun i => ws[i]?) = wc.map some) (hn : va_nd isC = true) : ∀ U : State, U.heap = H → s.WarmedH U.vm → PRE g wc H.size U := by
  intro U hU hW
  have S2 := S.sub isC hn hC
  refine ⟨by rw [hU], by rw [hU]; exact S2.1, va_K.moved hW.alike C.2.1, S2.2.1.weaken (fun _ _ _ _ => trivial), ?_⟩
  rw [hU]
  exact EV.moved hW (EV.narrow (va_free S.2.1 S.2.2 C.2.2.2.1 isC hC) (ev_at C S))
theorem preS_at (C : CX p s m args meth c cc nL Ts own g A) (S : ST g A s H locs ws) {As : List Value} (isC : List Nat) (hC : isC.map (fun i => ws[i]?) = wc.map some) (hn : va_nd isC = true) : PreS s H (va_Pc As (PRE g wc H.size)) As :=
  ⟨pre_blind g As wc H.size, fun U hU hW => ⟨rfl, pre_at C S isC hC hn U hU hW⟩⟩
theorem preV_at (C : CX p s m args meth c cc nL Ts own g A) (S : ST g A s H locs ws) {As : List Value} {b : Nat} (q0 : Nat) {ci : Nat} {fs : List Value} (he : ws[q0]? = some (b, .inr (ci, fs))) {q : vw_C} (hc : vwCl[ci]? = some q) (isC : List Nat) (hC : isC.map (fun i => ws[i]?) = wc.map some) (hn : va_nd isC = true) : PreV s H q.1 b (va_Pc (.ref b :: As) (PRE g wc H.size)) As :=
  ⟨pre_blind g (.ref b :: As) wc H.size, va_recv C.2.1 S.1 hc he, fun U hU hW => ⟨rfl, pre_at C S isC hC hn U hU hW⟩⟩
theorem after_I {y : MethodName} {st0 : List Value} {a : Array Value} {X : Int32 → va_W → Prop} (C : CX p s m args meth c cc nL Ts own g A) (S : ST g A s H locs ws)
    (hr : va_Run p l e R s m args below meth c H locs cells slots 0 0 (F0 m pc ls st0) rest (va_Qi X (fun ws' t => POST g (va_A wc H.size) ws' t) (va_A wc H.size) a) (va_A wc H.size))
    (isC isR : List Nat) (hC : isC.map (fun i => ws[i]?) = wc.map some) (hR : isR.map (fun i => ws[i]?) = wr.map some) (hn : va_nd isR = true) (hdis : ∀ i ∈ isR, i ∉ isC)
    (kk : ∀ (r : Int32) (wc' : va_W) (H1 : Heap) (locs1 : List Loc), X r wc' → ST g A s H1 locs1 (wr ++ wc') → W p l e R s m args below meth c H1 locs1 cells slots Q (F0 m (pc + 3) ls (.int r :: rest))) : W p l e R s m args below meth c H locs cells slots Q (F0 m pc ls st0) := by
  have hF := va_free S.2.1 S.2.2 C.2.2.2.1 isC hC
  refine va_calli hr S.2.2 (fun q _ h => hF q h) hF (fun r1 u t H1 locs1 ht hvm hw hB hz1 hk1 hS => ?_)
  obtain ⟨hP1, hK1, hD1⟩ := hB
  rw [ht] at hP1
  obtain ⟨hP, hD⟩ := va_join S.1 S.2.1 isC isR hC hR hn hdis hk1 hF hP1 hD1
  exact kk r1 u H1 locs1 hw ⟨hP, hD, hS⟩
theorem after_V {y : MethodName} {st0 : List Value} {a : Array Value} {X : va_W → Prop} (C : CX p s m args meth c cc nL Ts own g A) (S : ST g A s H locs ws)
    (hr : va_Run p l e R s m args below meth c H locs cells slots 0 0 (F0 m pc ls st0) rest (va_Qv X (fun ws' t => POST g (va_A wc H.size) ws' t) (va_A wc H.size) a) (va_A wc H.size))
    (isC isR : List Nat) (hC : isC.map (fun i => ws[i]?) = wc.map some) (hR : isR.map (fun i => ws[i]?) = wr.map some) (hn : va_nd isR = true) (hdis : ∀ i ∈ isR, i ∉ isC)
    (kk : ∀ (wc' : va_W) (H1 : Heap) (locs1 : List Loc), X wc' → ST g A s H1 locs1 (wr ++ wc') → W p l e R s m args below meth c H1 locs1 cells slots Q (F0 m (pc + 3) ls rest)) : W p l e R s m args below meth c H locs cells slots Q (F0 m pc ls st0) := by
  have hF := va_free S.2.1 S.2.2 C.2.2.2.1 isC hC
  refine va_callv hr S.2.2 (fun q _ h => hF q h) hF (fun u t H1 locs1 ht hvm hw hB hz1 hk1 hS => ?_)
  obtain ⟨hP1, hK1, hD1⟩ := hB
  rw [ht] at hP1
  obtain ⟨hP, hD⟩ := va_join S.1 S.2.1 isC isR hC hR hn hdis hk1 hF hP1 hD1
  exact kk u H1 locs1 hw ⟨hP, hD, hS⟩
theorem ret_I {v : Int32} {X : Int32 → va_W → Prop} (C : CX p s m args meth c cc nL Ts own g A) (S : ST g A s H locs ws) (hr : meth.sig.returnType = some .int) (hdg : decode cc pc = .ok (.ireturn, 1)) (hv : X v ws) : W p l e R s m args below meth c H locs 0 0 (QI below args s g A X) (F0 m pc ls [.int v]) :=
  W.iret C.1.1 C.1.2.1 hr (fun t ht hW => ⟨⟨v, ws, rfl, hv, by rw [ht]; exact S.1, va_K.moved hW.alike C.2.1, S.2.1⟩, S.2.2.F ht⟩) S.2.2.2.2 hdg C.2.2.2.2
theorem bI_nar (b : Bool) : narrow .boolean (.int (bI b)) = .int (bI b) := by cases b <;> rfl
theorem ret_Z {v : Int32} (b : Bool) {X : Int32 → va_W → Prop} (C : CX p s m args meth c cc nL Ts own g A) (S : ST g A s H locs ws) (hr : meth.sig.returnType = some .boolean) (hdg : decode cc pc = .ok (.ireturn, 1)) (hb : v = bI b) (hv : X v ws) : W p l e R s m args below meth c H locs 0 0 (QI below args s g A X) (F0 m pc ls [.int v]) := by
  subst hb
  exact W.zret C.1.1 C.1.2.1 hr (bI_nar b) (fun t ht hW => ⟨⟨_, ws, rfl, hv, by rw [ht]; exact S.1, va_K.moved hW.alike C.2.1, S.2.1⟩, S.2.2.F ht⟩) S.2.2.2.2 hdg C.2.2.2.2
theorem ret_V {X : va_W → Prop} (C : CX p s m args meth c cc nL Ts own g A) (S : ST g A s H locs ws) (hr : meth.sig.returnType = none) (hdg : decode cc pc = .ok (.return_, 1)) (hv : X ws) : W p l e R s m args below meth c H locs 0 0 (QV below args s g A X) (F0 m pc ls []) :=
  W.vret C.1.1 C.1.2.1 hr (fun t ht hW => ⟨⟨ws, rfl, hv, by rw [ht]; exact S.1, va_K.moved hW.alike C.2.1, S.2.1⟩, S.2.2.F ht⟩) S.2.2.2.2 hdg C.2.2.2.2
/-- a number on top, by another of its names -/
theorem top_eq {x y : Int32} (h : x = y) (k : W p l e R s m args below meth c H locs cells slots Q (F0 m pc ls (.int y :: rest))) : W p l e R s m args below meth c H locs cells slots Q (F0 m pc ls (.int x :: rest)) := by rw [h]; exact k
theorem top_get {C0 : String} {T : u_T} {N ci index : Nat} {fs : List Value} {a : Nat} {v : Value} {ref : String} (C : CX p s m args meth c cc nL Ts own g A) (S : ST g A s H locs ws) (hin : ∀ w ∈ u_ws C0 T N, w ∈ Ts) (hc : vwCl[ci]? = some (C0, T, N)) (q0 : Nat) (he : ws[q0]? = some (a, .inr (ci, fs))) (k : Nat) (hk : k < N) (hlink : Cond.fieldLink own index ref (T k).2.1 (T k).2.2.1 ∈ Ts) (hsame : (T k).1 = ref) (hv : fs[k]? = some v) (hdg : decode cc pc = .ok (.getfield index, 3))
    (kk : W p l e R s m args below meth c H locs cells slots Q (F0 m (pc + 3) ls (v :: rest))) : W p l e R s m args below meth c H locs cells slots Q (F0 m pc ls (.ref a :: rest)) :=
  va_get C.1.1 C.1.2.1 C.1.2.2.2.2 hin C.1.2.2.2.1 C.2.1 S.1 q0 he hc k hk (C.1.2.2.2.2 _ hlink) (fun x h => by rw [← hsame]; exact h) hv hdg kk
theorem top_getN {C0 : String} {T : u_T} {N ci index : Nat} {fs : List Value} {a : Nat} {v : Value} (C : CX p s m args meth c cc nL Ts own g A) (S : ST g A s H locs ws) (hin : ∀ w ∈ u_ws C0 T N, w ∈ Ts) (hc : vwCl[ci]? = some (C0, T, N)) (q0 : Nat) (he : ws[q0]? = some (a, .inr (ci, fs))) (k : Nat) (hk : k < N) (hlink : (own, index, (T k).1, (T k).2.1, (T k).2.2.1) ∈ nwF) (hv : fs[k]? = some v) (hdg : decode cc pc = .ok (.getfield index, 3))
    (kk : W p l e R s m args below meth c H locs cells slots Q (F0 m (pc + 3) ls (v :: rest))) : W p l e R s m args below meth c H locs cells slots Q (F0 m pc ls (.ref a :: rest)) :=
  va_getN C.1.1 C.1.2.1 C.1.2.2.2.2 hin C.1.2.2.2.1 C.2.1 S.1 q0 he hc k hk (va_Nw.use rfl (C.2.2.1.1.1 _ hlink)) (fun x h => h) hv hdg kk
theorem top_put {C0 : String} {T : u_T} {N ci index : Nat} {fs : List Value} {a : Nat} {v : Value} {ty : FieldType} {ref : String} (C : CX p s m args meth c cc nL Ts own g A) (S : ST g A s H locs ws) (hin : ∀ w ∈ u_ws C0 T N, w ∈ Ts) (ty0 : Nat → FieldType) (hty : ∀ k, k < N → parseFieldDescriptor (T k).2.2.1 = some (ty0 k)) (hnm : ∀ a, a < N → ∀ b, b < N → a ≠ b → (T a).2.1 ≠ (T b).2.1) (hc : vwCl[ci]? = some (C0, T, N)) (q0 : Nat) (he : ws[q0]? = some (a, .inr (ci, fs))) (k : Nat) (hk : k < N) (hlink : Cond.fieldLink own index ref (T k).2.1 (T k).2.2.1 ∈ Ts) (hsame : (T k).1 = ref) (hfin : (T k).2.2.2 = false) (hd : parseFieldDescriptor (T k).2.2.1 = some ty) (hn : narrow ty v = v) (hfit : fits ty v = true) (hl : k < fs.length) (hdg : decode cc pc = .ok (.putfield index, 3))
    (kk : ∀ (H1 : Heap) (locs1 : List Loc), ST g A s H1 locs1 (ws.set q0 (a, .inr (ci, fs.set k v))) → W p l e R s m args below meth c H1 locs1 cells slots Q (F0 m (pc + 3) ls rest)) : W p l e R s m args below meth c H locs cells slots Q (F0 m pc ls (v :: .ref a :: rest)) :=
  va_put C.1.1 C.1.2.1 C.1.2.2.2.2 hin ty0 hty hnm C.1.2.2.2.1 C.2.1 S.1 S.2.1 S.2.2 q0 he hc k hk (C.1.2.2.2.2 _ hlink) (fun x h => by rw [← hsame]; exact h) hfin hd hn hfit hl hdg (fun H1 locs1 a1 a2 a3 => kk H1 locs1 ⟨a1, a2, a3⟩)
theorem top_putN {C0 : String} {T : u_T} {N ci index : Nat} {fs : List Value} {a : Nat} {v : Value} {ty : FieldType} (C : CX p s m args meth c cc nL Ts own g A) (S : ST g A s H locs ws) (hin : ∀ w ∈ u_ws C0 T N, w ∈ Ts) (ty0 : Nat → FieldType) (hty : ∀ k, k < N → parseFieldDescriptor (T k).2.2.1 = some (ty0 k)) (hnm : ∀ a, a < N → ∀ b, b < N → a ≠ b → (T a).2.1 ≠ (T b).2.1) (hc : vwCl[ci]? = some (C0, T, N)) (q0 : Nat) (he : ws[q0]? = some (a, .inr (ci, fs))) (k : Nat) (hk : k < N) (hlink : (own, index, (T k).1, (T k).2.1, (T k).2.2.1) ∈ nwF) (hfin : (T k).2.2.2 = false) (hd : parseFieldDescriptor (T k).2.2.1 = some ty) (hn : narrow ty v = v) (hfit : fits ty v = true) (hl : k < fs.length) (hdg : decode cc pc = .ok (.putfield index, 3))
    (kk : ∀ (H1 : Heap) (locs1 : List Loc), ST g A s H1 locs1 (ws.set q0 (a, .inr (ci, fs.set k v))) → W p l e R s m args below meth c H1 locs1 cells slots Q (F0 m (pc + 3) ls rest)) : W p l e R s m args below meth c H locs cells slots Q (F0 m pc ls (v :: .ref a :: rest)) :=
  va_putN C.1.1 C.1.2.1 C.1.2.2.2.2 hin ty0 hty hnm C.1.2.2.2.1 C.2.1 S.1 S.2.1 S.2.2 q0 he hc k hk (va_Nw.use rfl (C.2.2.1.1.1 _ hlink)) (fun x h => h) hfin hd hn hfit hl hdg (fun H1 locs1 a1 a2 a3 => kk H1 locs1 ⟨a1, a2, a3⟩)
/-- arrays, at a place that is a number of ours -/
theorem top_ild {n j a : Nat} {f : Nat → Int32} {x : Int32} (C : CX p s m args meth c cc nL Ts own g A) (S : ST g A s H locs ws) (q0 : Nat) (he : ws[q0]? = some (a, aI g n f)) (hx : x = nI j) (hj : j < n) (hn : n < 2 ^ 31) (hdg : decode cc pc = .ok (.iaload, 1))
    (kk : W p l e R s m args below meth c H locs cells slots Q (F0 m (pc + 1) ls (.int (f j) :: rest))) : W p l e R s m args below meth c H locs cells slots Q (F0 m pc ls (.int x :: .ref a :: rest)) := by
  subst hx
  refine va_iald C.1.1 C.1.2.1 C.2.1 S.1 q0 1 he rfl (vp_in_nI hj hn) hdg ?_
  rw [nI_clamp (Nat.lt_trans hj hn)]
  exact kk
theorem top_zld {n j a : Nat} {f : Nat → Int32} {x : Int32} (C : CX p s m args meth c cc nL Ts own g A) (S : ST g A s H locs ws) (q0 : Nat) (he : ws[q0]? = some (a, aZ g n f)) (hx : x = nI j) (hj : j < n) (hn : n < 2 ^ 31) (hdg : decode cc pc = .ok (.baload, 1))
    (kk : W p l e R s m args below meth c H locs cells slots Q (F0 m (pc + 1) ls (.int (f j) :: rest))) : W p l e R s m args below meth c H locs cells slots Q (F0 m pc ls (.int x :: .ref a :: rest)) := by
  subst hx
  refine va_zald C.1.1 C.1.2.1 C.2.1 S.1 q0 2 he rfl (vp_in_nI hj hn) hdg ?_
  rw [nI_clamp (Nat.lt_trans hj hn)]
  exact kk
theorem top_cld {n j a : Nat} {f : Nat → Int32} {x : Int32} (C : CX p s m args meth c cc nL Ts own g A) (S : ST g A s H locs ws) (q0 : Nat) (he : ws[q0]? = some (a, aC g n f)) (hx : x = nI j) (hj : j < n) (hn : n < 2 ^ 31) (hdg : decode cc pc = .ok (.caload, 1))
    (kk : W p l e R s m args below meth c H locs cells slots Q (F0 m (pc + 1) ls (.int (f j) :: rest))) : W p l e R s m args below meth c H locs cells slots Q (F0 m pc ls (.int x :: .ref a :: rest)) := by
  subst hx
  refine va_cald C.1.1 C.1.2.1 C.2.1 S.1 q0 0 he rfl (vp_in_nI hj hn) hdg ?_
  rw [nI_clamp (Nat.lt_trans hj hn)]
  exact kk
theorem top_old {n j a : Nat} {f : Nat → Option Nat} {x : Int32} {y : Nat} (C : CX p s m args meth c cc nL Ts own g A) (S : ST g A s H locs ws) (q0 : Nat) (he : ws[q0]? = some (a, aO g n f)) (hx : x = nI j) (hj : j < n) (hn : n < 2 ^ 31) (hy : f j = some y) (hdg : decode cc pc = .ok (.aaload, 1))
    (kk : W p l e R s m args below meth c H locs cells slots Q (F0 m (pc + 1) ls (.ref y :: rest))) : W p l e R s m args below meth c H locs cells slots Q (F0 m pc ls (.int x :: .ref a :: rest)) := by
  subst hx
  refine va_aldq C.1.1 C.1.2.1 C.2.1 S.1 q0 3 he rfl (vp_in_nI hj hn) hdg ?_
  rw [nI_clamp (Nat.lt_trans hj hn), hy]
  exact kk
theorem top_ist {n j a : Nat} {f : Nat → Int32} {x v : Int32} (C : CX p s m args meth c cc nL Ts own g A) (S : ST g A s H locs ws) (q0 : Nat) (he : ws[q0]? = some (a, aI g n f)) (hx : x = nI j) (hj : j < n) (hn : n < 2 ^ 31) (hdg : decode cc pc = .ok (.iastore, 1))
    (kk : ∀ (H1 : Heap) (locs1 : List Loc), ST g A s H1 locs1 (ws.set q0 (a, aI g n (upd f j v))) → W p l e R s m args below meth c H1 locs1 cells slots Q (F0 m (pc + 1) ls rest)) : W p l e R s m args below meth c H locs cells slots Q (F0 m pc ls (.int v :: .int x :: .ref a :: rest)) := by
  subst hx
  refine va_iast C.1.1 C.1.2.1 C.2.1 S.1 S.2.1 S.2.2 q0 1 he rfl (vp_in_nI hj hn) hdg (fun H1 locs1 a1 a2 a3 => ?_)
  rw [nI_clamp (Nat.lt_trans hj hn)] at a1 a2
  exact kk H1 locs1 ⟨a1, a2, a3⟩
theorem top_zst {n j a : Nat} {f : Nat → Int32} {x v : Int32} (C : CX p s m args meth c cc nL Ts own g A) (S : ST g A s H locs ws) (q0 : Nat) (he : ws[q0]? = some (a, aZ g n f)) (hx : x = nI j) (hj : j < n) (hn : n < 2 ^ 31) (hv : vp_nar .boolean v = v) (hdg : decode cc pc = .ok (.bastore, 1))
    (kk : ∀ (H1 : Heap) (locs1 : List Loc), ST g A s H1 locs1 (ws.set q0 (a, aZ g n (upd f j v))) → W p l e R s m args below meth c H1 locs1 cells slots Q (F0 m (pc + 1) ls rest)) : W p l e R s m args below meth c H locs cells slots Q (F0 m pc ls (.int v :: .int x :: .ref a :: rest)) := by
  subst hx
  refine va_zast C.1.1 C.1.2.1 C.2.1 S.1 S.2.1 S.2.2 q0 2 he rfl (vp_in_nI hj hn) hdg (fun H1 locs1 a1 a2 a3 => ?_)
  rw [nI_clamp (Nat.lt_trans hj hn), hv] at a1 a2
  exact kk H1 locs1 ⟨a1, a2, a3⟩
theorem top_cst {n j a : Nat} {f : Nat → Int32} {x v : Int32} (C : CX p s m args meth c cc nL Ts own g A) (S : ST g A s H locs ws) (q0 : Nat) (he : ws[q0]? = some (a, aC g n f)) (hx : x = nI j) (hj : j < n) (hn : n < 2 ^ 31) (hv : vp_nar .char v = v) (hdg : decode cc pc = .ok (.castore, 1))
    (kk : ∀ (H1 : Heap) (locs1 : List Loc), ST g A s H1 locs1 (ws.set q0 (a, aC g n (upd f j v))) → W p l e R s m args below meth c H1 locs1 cells slots Q (F0 m (pc + 1) ls rest)) : W p l e R s m args below meth c H locs cells slots Q (F0 m pc ls (.int v :: .int x :: .ref a :: rest)) := by
  subst hx
  refine va_cast C.1.1 C.1.2.1 C.2.1 S.1 S.2.1 S.2.2 q0 0 he rfl (vp_in_nI hj hn) hdg (fun H1 locs1 a1 a2 a3 => ?_)
  rw [nI_clamp (Nat.lt_trans hj hn), hv] at a1 a2
  exact kk H1 locs1 ⟨a1, a2, a3⟩
/-- branches on an answer that is yes or no -/
theorem br_eqB {b : Bool} {off : Int} {tgt : Nat} (hx : p.tables.exec = Jvm.exec) (hb : c.code = cc) (hdg : decode cc pc = .ok (.ifCond .eq off, 3)) (ht : (pc : Int) + off = (tgt : Int))
    (k1 : b = false → W p l e R s m args below meth c H locs cells slots Q (F0 m tgt ls rest)) (k2 : b = true → W p l e R s m args below meth c H locs cells slots Q (F0 m (pc + 3) ls rest)) : W p l e R s m args below meth c H locs cells slots Q (F0 m pc ls (.int (bI b) :: rest)) := by
  cases b with
  | false => exact lv_if_eq hx hb hdg ht (fun _ => k1 rfl) (fun h => absurd (rfl : bI false = 0) h)
  | true => exact lv_if_eq hx hb hdg ht (fun h => absurd h (by decide)) (fun _ => k2 rfl)
theorem br_neB {b : Bool} {off : Int} {tgt : Nat} (hx : p.tables.exec = Jvm.exec) (hb : c.code = cc) (hdg : decode cc pc = .ok (.ifCond .ne off, 3)) (ht : (pc : Int) + off = (tgt : Int))
    (k1 : b = true → W p l e R s m args below meth c H locs cells slots Q (F0 m tgt ls rest)) (k2 : b = false → W p l e R s m args below meth c H locs cells slots Q (F0 m (pc + 3) ls rest)) : W p l e R s m args below meth c H locs cells slots Q (F0 m pc ls (.int (bI b) :: rest)) := by
  cases b with
  | false => exact lv_if_ne hx hb hdg ht (fun h => absurd (rfl : bI false = 0) h) (fun _ => k2 rfl)
  | true => exact lv_if_ne hx hb hdg ht (fun _ => k1 rfl) (fun h => absurd h (by decide))
theorem bn_ilt {x y : Int32} {a b : Nat} {off : Int} {tgt : Nat} (hx : p.tables.exec = Jvm.exec) (hb : c.code = cc) (hxa : x = nI a) (hyb : y = nI b) (ha : a < 2 ^ 31) (hb2 : b < 2 ^ 31) (hdg : decode cc pc = .ok (.if_icmp .lt off, 3)) (ht : (pc : Int) + off = (tgt : Int))
    (kt : a < b → W p l e R s m args below meth c H locs cells slots Q (F0 m tgt ls rest)) (kf : ¬ a < b → W p l e R s m args below meth c H locs cells slots Q (F0 m (pc + 3) ls rest)) : W p l e R s m args below meth c H locs cells slots Q (F0 m pc ls (.int y :: .int x :: rest)) := by
  subst hxa; subst hyb
  exact lv_icmp_lt hx hb hdg ht (fun q => kt ((nI_ltI ha hb2).mp q)) (fun q => kf (fun z => q ((nI_ltI ha hb2).mpr z)))
theorem bn_zlt {x : Int32} {a : Nat} {off : Int} {tgt : Nat} (hx : p.tables.exec = Jvm.exec) (hb : c.code = cc) (hxa : x = nI a) (ha : a < 2 ^ 31) (hdg : decode cc pc = .ok (.ifCond .lt off, 3)) (ht : (pc : Int) + off = (tgt : Int))
    (kt : a < 0 → W p l e R s m args below meth c H locs cells slots Q (F0 m tgt ls rest)) (kf : ¬ a < 0 → W p l e R s m args below meth c H locs cells slots Q (F0 m (pc + 3) ls rest)) : W p l e R s m args below meth c H locs cells slots Q (F0 m pc ls (.int x :: rest)) := by
  subst hxa
  exact lv_if_lt hx hb hdg ht (fun q => kt ((nI_ltI ha (by decide)).mp q)) (fun q => kf (fun z => q ((nI_ltI ha (by decide)).mpr z)))
theorem bn_ige {x y : Int32} {a b : Nat} {off : Int} {tgt : Nat} (hx : p.tables.exec = Jvm.exec) (hb : c.code = cc) (hxa : x = nI a) (hyb : y = nI b) (ha : a < 2 ^ 31) (hb2 : b < 2 ^ 31) (hdg : decode cc pc = .ok (.if_icmp .ge off, 3)) (ht : (pc : Int) + off = (tgt : Int))
    (kt : b ≤ a → W p l e R s m args below meth c H locs cells slots Q (F0 m tgt ls rest)) (kf : ¬ b ≤ a → W p l e R s m args below meth c H locs cells slots Q (F0 m (pc + 3) ls rest)) : W p l e R s m args below meth c H locs cells slots Q (F0 m pc ls (.int y :: .int x :: rest)) := by
  subst hxa; subst hyb
  exact lv_icmp_ge hx hb hdg ht (fun q => kt ((nI_leI hb2 ha).mp q)) (fun q => kf (fun z => q ((nI_leI hb2 ha).mpr z)))
theorem bn_zge {x : Int32} {a : Nat} {off : Int} {tgt : Nat} (hx : p.tables.exec = Jvm.exec) (hb : c.code = cc) (hxa : x = nI a) (ha : a < 2 ^ 31) (hdg : decode cc pc = .ok (.ifCond .ge off, 3)) (ht : (pc : Int) + off = (tgt : Int))
    (kt : 0 ≤ a → W p l e R s m args below meth c H locs cells slots Q (F0 m tgt ls rest)) (kf : ¬ 0 ≤ a → W p l e R s m args below meth c H locs cells slots Q (F0 m (pc + 3) ls rest)) : W p l e R s m args below meth c H locs cells slots Q (F0 m pc ls (.int x :: rest)) := by
  subst hxa
  exact lv_if_ge hx hb hdg ht (fun q => kt ((nI_leI (by decide) ha).mp q)) (fun q => kf (fun z => q ((nI_leI (by decide) ha).mpr z)))
theorem bn_igt {x y : Int32} {a b : Nat} {off : Int} {tgt : Nat} (hx : p.tables.exec = Jvm.exec) (hb : c.code = cc) (hxa : x = nI a) (hyb : y = nI b) (ha : a < 2 ^ 31) (hb2 : b < 2 ^ 31) (hdg : decode cc pc = .ok (.if_icmp .gt off, 3)) (ht : (pc : Int) + off = (tgt : Int))
    (kt : b < a → W p l e R s m args below meth c H locs cells slots Q (F0 m tgt ls rest)) (kf : ¬ b < a → W p l e R s m args below meth c H locs cells slots Q (F0 m (pc + 3) ls rest)) : W p l e R s m args below meth c H locs cells slots Q (F0 m pc ls (.int y :: .int x :: rest)) := by
  subst hxa; subst hyb
  exact lv_icmp_gt hx hb hdg ht (fun q => kt ((nI_ltI hb2 ha).mp q)) (fun q => kf (fun z => q ((nI_ltI hb2 ha).mpr z)))
theorem bn_zgt {x : Int32} {a : Nat} {off : Int} {tgt : Nat} (hx : p.tables.exec = Jvm.exec) (hb : c.code = cc) (hxa : x = nI a) (ha : a < 2 ^ 31) (hdg : decode cc pc = .ok (.ifCond .gt off, 3)) (ht : (pc : Int) + off = (tgt : Int))
    (kt : 0 < a → W p l e R s m args below meth c H locs cells slots Q (F0 m tgt ls rest)) (kf : ¬ 0 < a → W p l e R s m args below meth c H locs cells slots Q (F0 m (pc + 3) ls rest)) : W p l e R s m args below meth c H locs cells slots Q (F0 m pc ls (.int x :: rest)) := by
  subst hxa
  exact lv_if_gt hx hb hdg ht (fun q => kt ((nI_ltI (by decide) ha).mp q)) (fun q => kf (fun z => q ((nI_ltI (by decide) ha).mpr z)))
theorem bn_ile {x y : Int32} {a b : Nat} {off : Int} {tgt : Nat} (hx : p.tables.exec = Jvm.exec) (hb : c.code = cc) (hxa : x = nI a) (hyb : y = nI b) (ha : a < 2 ^ 31) (hb2 : b < 2 ^ 31) (hdg : decode cc pc = .ok (.if_icmp .le off, 3)) (ht : (pc : Int) + off = (tgt : Int))
    (kt : a ≤ b → W p l e R s m args below meth c H locs cells slots Q (F0 m tgt ls rest)) (kf : ¬ a ≤ b → W p l e R s m args below meth c H locs cells slots Q (F0 m (pc + 3) ls rest)) : W p l e R s m args below meth c H locs cells slots Q (F0 m pc ls (.int y :: .int x :: rest)) := by
  subst hxa; subst hyb
  exact lv_icmp_le hx hb hdg ht (fun q => kt ((nI_leI ha hb2).mp q)) (fun q => kf (fun z => q ((nI_leI ha hb2).mpr z)))
theorem bn_zle {x : Int32} {a : Nat} {off : Int} {tgt : Nat} (hx : p.tables.exec = Jvm.exec) (hb : c.code = cc) (hxa : x = nI a) (ha : a < 2 ^ 31) (hdg : decode cc pc = .ok (.ifCond .le off, 3)) (ht : (pc : Int) + off = (tgt : Int))
    (kt : a ≤ 0 → W p l e R s m args below meth c H locs cells slots Q (F0 m tgt ls rest)) (kf : ¬ a ≤ 0 → W p l e R s m args below meth c H locs cells slots Q (F0 m (pc + 3) ls rest)) : W p l e R s m args below meth c H locs cells slots Q (F0 m pc ls (.int x :: rest)) := by
  subst hxa
  exact lv_if_le hx hb hdg ht (fun q => kt ((nI_leI ha (by decide)).mp q)) (fun q => kf (fun z => q ((nI_leI ha (by decide)).mpr z)))
theorem bn_ieq {x y : Int32} {a b : Nat} {off : Int} {tgt : Nat} (hx : p.tables.exec = Jvm.exec) (hb : c.code = cc) (hxa : x = nI a) (hyb : y = nI b) (ha : a < 2 ^ 31) (hb2 : b < 2 ^ 31) (hdg : decode cc pc = .ok (.if_icmp .eq off, 3)) (ht : (pc : Int) + off = (tgt : Int))
    (kt : a = b → W p l e R s m args below meth c H locs cells slots Q (F0 m tgt ls rest)) (kf : ¬ a = b → W p l e R s m args below meth c H locs cells slots Q (F0 m (pc + 3) ls rest)) : W p l e R s m args below meth c H locs cells slots Q (F0 m pc ls (.int y :: .int x :: rest)) := by
  subst hxa; subst hyb
  exact lv_icmp_eq hx hb hdg ht (fun q => kt ((nI_eq ha hb2).mp q)) (fun q => kf (fun z => q ((nI_eq ha hb2).mpr z)))
theorem bn_zeq {x : Int32} {a : Nat} {off : Int} {tgt : Nat} (hx : p.tables.exec = Jvm.exec) (hb : c.code = cc) (hxa : x = nI a) (ha : a < 2 ^ 31) (hdg : decode cc pc = .ok (.ifCond .eq off, 3)) (ht : (pc : Int) + off = (tgt : Int))
    (kt : a = 0 → W p l e R s m args below meth c H locs cells slots Q (F0 m tgt ls rest)) (kf : ¬ a = 0 → W p l e R s m args below meth c H locs cells slots Q (F0 m (pc + 3) ls rest)) : W p l e R s m args below meth c H locs cells slots Q (F0 m pc ls (.int x :: rest)) := by
  subst hxa
  exact lv_if_eq hx hb hdg ht (fun q => kt ((nI_eq ha (by decide)).mp q)) (fun q => kf (fun z => q ((nI_eq ha (by decide)).mpr z)))
theorem bn_ine {x y : Int32} {a b : Nat} {off : Int} {tgt : Nat} (hx : p.tables.exec = Jvm.exec) (hb : c.code = cc) (hxa : x = nI a) (hyb : y = nI b) (ha : a < 2 ^ 31) (hb2 : b < 2 ^ 31) (hdg : decode cc pc = .ok (.if_icmp .ne off, 3)) (ht : (pc : Int) + off = (tgt : Int))
    (kt : ¬ a = b → W p l e R s m args below meth c H locs cells slots Q (F0 m tgt ls rest)) (kf : a = b → W p l e R s m args below meth c H locs cells slots Q (F0 m (pc + 3) ls rest)) : W p l e R s m args below meth c H locs cells slots Q (F0 m pc ls (.int y :: .int x :: rest)) := by
  subst hxa; subst hyb
  exact lv_icmp_ne hx hb hdg ht (fun q => kt (fun z => q ((nI_eq ha hb2).mpr z))) (fun q => kf ((nI_eq ha hb2).mp q))
theorem bn_zne {x : Int32} {a : Nat} {off : Int} {tgt : Nat} (hx : p.tables.exec = Jvm.exec) (hb : c.code = cc) (hxa : x = nI a) (ha : a < 2 ^ 31) (hdg : decode cc pc = .ok (.ifCond .ne off, 3)) (ht : (pc : Int) + off = (tgt : Int))
    (kt : ¬ a = 0 → W p l e R s m args below meth c H locs cells slots Q (F0 m tgt ls rest)) (kf : a = 0 → W p l e R s m args below meth c H locs cells slots Q (F0 m (pc + 3) ls rest)) : W p l e R s m args below meth c H locs cells slots Q (F0 m pc ls (.int x :: rest)) := by
  subst hxa
  exact lv_if_ne hx hb hdg ht (fun q => kt (fun z => q ((nI_eq ha (by decide)).mpr z))) (fun q => kf ((nI_eq ha (by decide)).mp q))
theorem top_tab {t j : Nat} {f : Nat → Int32} {x : Int32} (C : CX p s m args meth c cc nL Ts own g A) (S : ST g A s H locs ws) (hT : va_T .int t 4 (fun j => .int (f j)) A s s.heap) (hx : x = nI j) (hj : j < 4) (hdg : decode cc pc = .ok (.iaload, 1))
    (kk : W p l e R s m args below meth c H locs cells slots Q (F0 m (pc + 1) ls (.int (f j) :: rest))) : W p l e R s m args below meth c H locs cells slots Q (F0 m pc ls (.int x :: .ref t :: rest)) := by
  subst hx
  refine va_ti C.1.1 C.1.2.1 hT S.2.2 (vp_in_nI hj (by decide)) rfl hdg ?_
  rw [nI_clamp (Nat.lt_trans hj (by decide))]
  exact kk
end BASE
def imax (x y : Int32) : Int32 := if x < y then y else x
def imin (x y : Int32) : Int32 := if y < x then y else x
theorem sw_out (x : Int32) {hi : Nat} (hh : hi < 100) (h : ∀ k : Nat, k ≤ hi → ¬ x = nI k) : x.toInt < 0 ∨ (hi : Int) < x.toInt := by
  by_cases h0 : x < 0
  · exact Or.inl (by have := Int32.lt_iff_toInt_lt.mp h0; simpa using this)
  · right
    obtain ⟨j, hj, rfl⟩ := nI_of h0
    rw [nI_toInt hj]
    by_cases hjk : j ≤ hi
    · exact absurd rfl (h j hjk)
    · omega
end
section
/-! numbers and bits -/
theorem nf_t {b : Bool} (h : ¬ b = false) : b = true := by cases b <;> simp_all
def oI (o : Option Nat) : Int32 := match o with
  | none => -1
  | some j => nI j
def clr (W j : Nat) : Nat := if W.testBit j then W - 2 ^ j else W
def pop (W : Nat) : Nat := (W.testBit 0).toNat + (W.testBit 1).toNat + (W.testBit 2).toNat + (W.testBit 3).toNat + (W.testBit 4).toNat + (W.testBit 5).toNat + (W.testBit 6).toNat + (W.testBit 7).toNat + (W.testBit 8).toNat
theorem fa_lit (n : Nat) : (OfNat.ofNat n : Int32) = nI n := rfl
theorem fa_and (a b : Nat) : nI a &&& nI b = nI (a &&& b) := by
  apply Int32.toBitVec_inj.1
  show BitVec.ofNat 32 a &&& BitVec.ofNat 32 b = BitVec.ofNat 32 (a &&& b)
  apply BitVec.eq_of_getLsbD_eq
  intro i hi
  simp [hi]
theorem fa_or (a b : Nat) : nI a ||| nI b = nI (a ||| b) := by
  apply Int32.toBitVec_inj.1
  show BitVec.ofNat 32 a ||| BitVec.ofNat 32 b = BitVec.ofNat 32 (a ||| b)
  apply BitVec.eq_of_getLsbD_eq
  intro i hi
  simp [hi]
theorem sl_31 : ∀ n, n < 32 → ((nI n &&& 31).toBitVec.smod 32).toNat = n := by decide +kernel
theorem shl_1 {j : Nat} (h : j < 31) : (1 : Int32) <<< (nI j &&& 31) = nI (2 ^ j) := by
  have e := pk_shlN (n := 1) (nI j &&& 31) j (sl_31 j (by omega)) (by rw [Nat.one_mul]; exact Nat.pow_lt_pow_right (by decide) (by omega))
  rw [Nat.one_mul] at e
  exact e
theorem bit_N {W i : Nat} (hW : W < 2 ^ 31) (hi : i < 31) : ((nI W >>> (nI i &&& 31)) &&& 1) = nI (W / 2 ^ i % 2) := by
  rw [pk_shrN hW (nI i &&& 31) i (sl_31 i (by omega))]
  have h : W / 2 ^ i < 2 ^ 32 := Nat.lt_of_le_of_lt (Nat.div_le_self _ _) (by omega)
  exact pk_andN h 1 rfl
theorem bit_0 {W i : Nat} (hW : W < 2 ^ 31) (hi : i < 31) : ((nI W >>> (nI i &&& 31)) &&& 1) = 0 ↔ W.testBit i = false := by
  rw [bit_N hW hi, Nat.testBit_eq_decide_div_mod_eq]
  have : W / 2 ^ i % 2 < 2 := Nat.mod_lt _ (by decide)
  rcases (show W / 2 ^ i % 2 = 0 ∨ W / 2 ^ i % 2 = 1 by omega) with h | h <;> rw [h] <;> decide
theorem bit_1 {W i : Nat} (hW : W < 2 ^ 31) (hi : i < 31) : ((nI W >>> (nI i &&& 31)) &&& 1) = 1 ↔ W.testBit i = true := by
  rw [bit_N hW hi, Nat.testBit_eq_decide_div_mod_eq]
  have : W / 2 ^ i % 2 < 2 := Nat.mod_lt _ (by decide)
  rcases (show W / 2 ^ i % 2 = 0 ∨ W / 2 ^ i % 2 = 1 by omega) with h | h <;> rw [h] <;> decide
theorem clr_d : ∀ j, j < 8 → ∀ W, W < 256 → nI W &&& (nI (2 ^ j) ^^^ (-1)) = nI (clr W j) := by decide +kernel
theorem clr_N {W j : Nat} (hW : W < 256) (hj : j < 8) : nI W &&& (nI (2 ^ j) ^^^ (-1)) = nI (clr W j) := clr_d j hj W hW
theorem clr_le (W j : Nat) : clr W j ≤ W := by unfold clr; split; exact Nat.sub_le _ _; exact Nat.le_refl _
theorem clr_tb_d : ∀ j, j < 8 → ∀ W, W < 256 → ∀ i, i < 9 → (clr W j).testBit i = (W.testBit i && !decide (i = j)) := by decide +kernel
theorem clr_tb {W j i : Nat} (hW : W < 256) (hj : j < 8) (hi : i < 9) : (clr W j).testBit i = (W.testBit i && !decide (i = j)) := clr_tb_d j hj W hW i hi
theorem set_tb_d : ∀ j, j < 8 → ∀ W, W < 256 → ∀ i, i < 9 → (W ||| 2 ^ j).testBit i = (W.testBit i || decide (i = j)) := by decide +kernel
theorem set_tb {W j i : Nat} (hW : W < 256) (hj : j < 8) (hi : i < 9) : (W ||| 2 ^ j).testBit i = (W.testBit i || decide (i = j)) := set_tb_d j hj W hW i hi
theorem or_lt {a b k : Nat} (ha : a < 2 ^ k) (hb : b < 2 ^ k) : a ||| b < 2 ^ k := Nat.or_lt_two_pow ha hb
theorem sub_lt_N {a b p : Nat} (ha : a < 2 ^ 30) (hb : b < 2 ^ 30) (hp : p < 2 ^ 30) : nI p ≤ nI a - nI b ↔ p + b ≤ a := by
  rw [Int32.le_iff_toInt_le, pk_sub_toInt ha hb, nI_toInt (by omega)]
  omega
theorem sub_gt_N {a b p : Nat} (ha : a < 2 ^ 30) (hb : b < 2 ^ 30) (hp : p < 2 ^ 30) : nI p < nI a - nI b ↔ p + b < a := by
  rw [Int32.lt_iff_toInt_lt, pk_sub_toInt ha hb, nI_toInt (by omega)]
  omega
theorem max_0 {a b : Nat} (ha : a < 2 ^ 30) (hb : b < 2 ^ 30) : imax 0 (nI a - nI b) = nI (a - b) := by
  unfold imax
  show (if nI 0 < nI a - nI b then nI a - nI b else nI 0) = nI (a - b)
  by_cases h : b < a
  · rw [if_pos ((sub_gt_N (p := 0) ha hb (by decide)).mpr (by omega)), pk_sub (by omega)]
  · rw [if_neg (fun q => h (by have := (sub_gt_N (p := 0) ha hb (by decide)).mp q; omega)), show a - b = 0 by omega]
theorem ge0_oI {o : Option Nat} (h : ∀ j, o = some j → j < 2 ^ 31) : 0 ≤ oI o ↔ o ≠ none := by
  cases o with
  | none => decide
  | some j => exact ⟨fun _ => by simp, fun _ => nI_pos' (h j rfl)⟩
def sumN (v : Nat → Nat) (b : Nat) : Nat → Nat
  | 0 => 0
  | i + 1 => if b.testBit i = true then sumN v b i + v i else sumN v b i
end
section
set_option maxRecDepth 100000 in
set_option maxHeartbeats 4000000 in
/-- bit i of ww -/
theorem kX6_holds (l : Launch) (g : GG) (ww : Nat) (i : Nat) (hw : ww < 512) (hi : i < 31) : KI l g yX6_holds wsX6_holds 0 0 [.int (nI ww), .int (nI i)] [] (fun (r : Int32) (w' : va_W) => r = (bI (ww.testBit i)) ∧ w' = []) := by
  refine kI_of (cc := cX6_holds) (maxL := 2) (by decide) rfl (Nat.le_of_ble_eq_true rfl) ?_
  intro pp ee ss mm bel mth cd A ls C S hr hl
  obtain ⟨hx, hb, hml, hown, hts⟩ := id C.1
  have hl : lv_has ls 2 [(0, .int (nI ww)), (1, .int (nI i))] := hl
  obtain ⟨H, hH⟩ : ∃ H, H = ss.heap := ⟨_, rfl⟩
  obtain ⟨locs, hL0⟩ : ∃ L : List Loc, L = [] := ⟨_, rfl⟩
  rw [← hH, ← hL0] at S ⊢
  refine lv_iload_n hx hb dX6_holds_0 rfl (lv_at hl 0 rfl) ?_
  refine lv_iload_n hx hb dX6_holds_1 rfl (lv_at hl 1 rfl) ?_
  refine lv_ishr hx hb dX6_holds_2 ?_
  refine lv_iconst (v := 1) hx hb dX6_holds_3 (by decide) ?_
  refine lv_iand hx hb dX6_holds_4 ?_
  refine lv_if_eq (tgt := 12) hx hb dX6_holds_5 (by decide) (fun c_1 => ?_) (fun c_1 => ?_)
  · -- 5 T
    refine lv_iconst (v := 0) hx hb dX6_holds_12 (by decide) ?_
    exact ret_Z (ww.testBit i) C S hr dX6_holds_13 (by rw [(bit_0 (by omega) (by omega)).mp c_1]; rfl) ⟨(by rw [(bit_0 (by omega) (by omega)).mp c_1]; rfl), (rfl)⟩
  · -- 5 F
    refine lv_iconst (v := 1) hx hb dX6_holds_8 (by decide) ?_
    refine lv_goto (tgt := 13) hx hb dX6_holds_9 (by decide) ?_
    exact ret_Z (ww.testBit i) C S hr dX6_holds_13 (by rw [nf_t (fun q => c_1 ((bit_0 (by omega) (by omega)).mpr q))]; rfl) ⟨(by rw [nf_t (fun q => c_1 ((bit_0 (by omega) (by omega)).mpr q))]; rfl), (rfl)⟩

def sX6_isLoad (p0 : Int32) : Bool := if p0 < 0 then false else (if 999 < p0 then false else true)
set_option maxRecDepth 100000 in
set_option maxHeartbeats 4000000 in
theorem kX6_isLoad (l : Launch) (g : GG) (p0 : Int32)  : KI l g yX6_isLoad wsX6_isLoad 0 0 [.int p0] [] (fun (r : Int32) (w' : va_W) => r = (bI (sX6_isLoad p0)) ∧ w' = []) := by
  refine kI_of (cc := cX6_isLoad) (maxL := 1) (by decide) rfl (Nat.le_of_ble_eq_true rfl) ?_
  intro pp ee ss mm bel mth cd A ls C S hr hl
  obtain ⟨hx, hb, hml, hown, hts⟩ := id C.1
  have hl : lv_has ls 1 [(0, .int p0)] := hl
  obtain ⟨H, hH⟩ : ∃ H, H = ss.heap := ⟨_, rfl⟩
  obtain ⟨locs, hL0⟩ : ∃ L : List Loc, L = [] := ⟨_, rfl⟩
  rw [← hH, ← hL0] at S ⊢
  refine lv_iload_n hx hb dX6_isLoad_0 rfl (lv_at hl 0 rfl) ?_
  refine lv_if_lt (tgt := 15) hx hb dX6_isLoad_1 (by decide) (fun c_1 => ?_) (fun c_1 => ?_)
  · -- 1 T
    refine lv_iconst (v := 0) hx hb dX6_isLoad_15 (by decide) ?_
    exact ret_Z (sX6_isLoad p0) C S hr dX6_isLoad_16 (by first | rfl | (simp only [sX6_isLoad, if_pos c_1]; first | rfl | done)) ⟨(by first | rfl | (simp only [sX6_isLoad, if_pos c_1]; first | rfl | done)), (by first | rfl | (simp only [sX6_isLoad, if_pos c_1]; first | rfl | done))⟩
  · -- 1 F
    refine lv_iload_n hx hb dX6_isLoad_4 rfl (lv_at hl 0 rfl) ?_
    refine lv_sipush (v := 999) hx hb dX6_isLoad_5 (by decide) ?_
    refine lv_icmp_gt (tgt := 15) hx hb dX6_isLoad_8 (by decide) (fun c_2 => ?_) (fun c_2 => ?_)
    · -- 8 T
      refine lv_iconst (v := 0) hx hb dX6_isLoad_15 (by decide) ?_
      exact ret_Z (sX6_isLoad p0) C S hr dX6_isLoad_16 (by first | rfl | (simp only [sX6_isLoad, if_neg c_1, if_pos c_2]; first | rfl | done)) ⟨(by first | rfl | (simp only [sX6_isLoad, if_neg c_1, if_pos c_2]; first | rfl | done)), (by first | rfl | (simp only [sX6_isLoad, if_neg c_1, if_pos c_2]; first | rfl | done))⟩
    · -- 8 F
      refine lv_iconst (v := 1) hx hb dX6_isLoad_11 (by decide) ?_
      refine lv_goto (tgt := 16) hx hb dX6_isLoad_12 (by decide) ?_
      exact ret_Z (sX6_isLoad p0) C S hr dX6_isLoad_16 (by first | rfl | (simp only [sX6_isLoad, if_neg c_1, if_neg c_2]; first | rfl | done)) ⟨(by first | rfl | (simp only [sX6_isLoad, if_neg c_1, if_neg c_2]; first | rfl | done)), (by first | rfl | (simp only [sX6_isLoad, if_neg c_1, if_neg c_2]; first | rfl | done))⟩

def sJ6_bitCount_0f7a4a (x0 : Int32) : Int32 := (((((((x0 - (((x0.toUInt32 >>> (Int32.toUInt32 1 &&& Int32.toUInt32 31)).toInt32) &&& (1431655765))) &&& (858993459)) + ((((x0 - (((x0.toUInt32 >>> (Int32.toUInt32 1 &&& Int32.toUInt32 31)).toInt32) &&& (1431655765))).toUInt32 >>> (Int32.toUInt32 2 &&& Int32.toUInt32 31)).toInt32) &&& (858993459))) + (((((x0 - (((x0.toUInt32 >>> (Int32.toUInt32 1 &&& Int32.toUInt32 31)).toInt32) &&& (1431655765))) &&& (858993459)) + ((((x0 - (((x0.toUInt32 >>> (Int32.toUInt32 1 &&& Int32.toUInt32 31)).toInt32) &&& (1431655765))).toUInt32 >>> (Int32.toUInt32 2 &&& Int32.toUInt32 31)).toInt32) &&& (858993459))).toUInt32 >>> (Int32.toUInt32 4 &&& Int32.toUInt32 31)).toInt32)) &&& (252645135)) + (((((((x0 - (((x0.toUInt32 >>> (Int32.toUInt32 1 &&& Int32.toUInt32 31)).toInt32) &&& (1431655765))) &&& (858993459)) + ((((x0 - (((x0.toUInt32 >>> (Int32.toUInt32 1 &&& Int32.toUInt32 31)).toInt32) &&& (1431655765))).toUInt32 >>> (Int32.toUInt32 2 &&& Int32.toUInt32 31)).toInt32) &&& (858993459))) + (((((x0 - (((x0.toUInt32 >>> (Int32.toUInt32 1 &&& Int32.toUInt32 31)).toInt32) &&& (1431655765))) &&& (858993459)) + ((((x0 - (((x0.toUInt32 >>> (Int32.toUInt32 1 &&& Int32.toUInt32 31)).toInt32) &&& (1431655765))).toUInt32 >>> (Int32.toUInt32 2 &&& Int32.toUInt32 31)).toInt32) &&& (858993459))).toUInt32 >>> (Int32.toUInt32 4 &&& Int32.toUInt32 31)).toInt32)) &&& (252645135)).toUInt32 >>> (Int32.toUInt32 8 &&& Int32.toUInt32 31)).toInt32)) + ((((((((x0 - (((x0.toUInt32 >>> (Int32.toUInt32 1 &&& Int32.toUInt32 31)).toInt32) &&& (1431655765))) &&& (858993459)) + ((((x0 - (((x0.toUInt32 >>> (Int32.toUInt32 1 &&& Int32.toUInt32 31)).toInt32) &&& (1431655765))).toUInt32 >>> (Int32.toUInt32 2 &&& Int32.toUInt32 31)).toInt32) &&& (858993459))) + (((((x0 - (((x0.toUInt32 >>> (Int32.toUInt32 1 &&& Int32.toUInt32 31)).toInt32) &&& (1431655765))) &&& (858993459)) + ((((x0 - (((x0.toUInt32 >>> (Int32.toUInt32 1 &&& Int32.toUInt32 31)).toInt32) &&& (1431655765))).toUInt32 >>> (Int32.toUInt32 2 &&& Int32.toUInt32 31)).toInt32) &&& (858993459))).toUInt32 >>> (Int32.toUInt32 4 &&& Int32.toUInt32 31)).toInt32)) &&& (252645135)) + (((((((x0 - (((x0.toUInt32 >>> (Int32.toUInt32 1 &&& Int32.toUInt32 31)).toInt32) &&& (1431655765))) &&& (858993459)) + ((((x0 - (((x0.toUInt32 >>> (Int32.toUInt32 1 &&& Int32.toUInt32 31)).toInt32) &&& (1431655765))).toUInt32 >>> (Int32.toUInt32 2 &&& Int32.toUInt32 31)).toInt32) &&& (858993459))) + (((((x0 - (((x0.toUInt32 >>> (Int32.toUInt32 1 &&& Int32.toUInt32 31)).toInt32) &&& (1431655765))) &&& (858993459)) + ((((x0 - (((x0.toUInt32 >>> (Int32.toUInt32 1 &&& Int32.toUInt32 31)).toInt32) &&& (1431655765))).toUInt32 >>> (Int32.toUInt32 2 &&& Int32.toUInt32 31)).toInt32) &&& (858993459))).toUInt32 >>> (Int32.toUInt32 4 &&& Int32.toUInt32 31)).toInt32)) &&& (252645135)).toUInt32 >>> (Int32.toUInt32 8 &&& Int32.toUInt32 31)).toInt32)).toUInt32 >>> (Int32.toUInt32 16 &&& Int32.toUInt32 31)).toInt32)) &&& 63
set_option maxRecDepth 100000 in
set_option maxHeartbeats 4000000 in
theorem kJ6_bitCount_0f7a4a (l : Launch) (g : GG) (x0 : Int32)  : KI l g yJ6_bitCount_0f7a4 wsJ6_bitCount_0f7a4 0 0 [.int x0] [] (fun (r : Int32) (w' : va_W) => r = (sJ6_bitCount_0f7a4a x0) ∧ w' = []) := by
  refine kI_of (cc := cJ6_bitCount_0f7a4) (maxL := 1) (by decide) rfl (Nat.le_of_ble_eq_true rfl) ?_
  intro pp ee ss mm bel mth cd A ls C S hr hl
  obtain ⟨hx, hb, hml, hown, hts⟩ := id C.1
  have hl : lv_has ls 1 [(0, .int x0)] := hl
  obtain ⟨H, hH⟩ : ∃ H, H = ss.heap := ⟨_, rfl⟩
  obtain ⟨locs, hL0⟩ : ∃ L : List Loc, L = [] := ⟨_, rfl⟩
  rw [← hH, ← hL0] at S ⊢
  refine lv_iload_n hx hb dJ6_bitCount_0f7a4_0 rfl (lv_at hl 0 rfl) ?_
  refine lv_iload_n hx hb dJ6_bitCount_0f7a4_1 rfl (lv_at hl 0 rfl) ?_
  refine lv_iconst (v := 1) hx hb dJ6_bitCount_0f7a4_2 (by decide) ?_
  refine lv_iushr hx hb dJ6_bitCount_0f7a4_3 rfl ?_
  refine lv_ldcw (v := (1431655765)) hx hb hown (hts (.constant RJ6 265 (1431655765)) (by decide +kernel)) dJ6_bitCount_0f7a4_4 ?_
  refine lv_iand hx hb dJ6_bitCount_0f7a4_7 ?_
  refine lv_isub hx hb dJ6_bitCount_0f7a4_8 ?_
  refine lv_istore_n (lv' := [(0, .int (x0 - (((x0.toUInt32 >>> (Int32.toUInt32 1 &&& Int32.toUInt32 31)).toInt32) &&& (1431655765))))]) hx hb dJ6_bitCount_0f7a4_9 rfl hl (by decide) rfl (fun ls hl => ?_)
  refine lv_iload_n hx hb dJ6_bitCount_0f7a4_10 rfl (lv_at hl 0 rfl) ?_
  refine lv_ldcw (v := (858993459)) hx hb hown (hts (.constant RJ6 266 (858993459)) (by decide +kernel)) dJ6_bitCount_0f7a4_11 ?_
  refine lv_iand hx hb dJ6_bitCount_0f7a4_14 ?_
  refine lv_iload_n hx hb dJ6_bitCount_0f7a4_15 rfl (lv_at hl 0 rfl) ?_
  refine lv_iconst (v := 2) hx hb dJ6_bitCount_0f7a4_16 (by decide) ?_
  refine lv_iushr hx hb dJ6_bitCount_0f7a4_17 rfl ?_
  refine lv_ldcw (v := (858993459)) hx hb hown (hts (.constant RJ6 266 (858993459)) (by decide +kernel)) dJ6_bitCount_0f7a4_18 ?_
  refine lv_iand hx hb dJ6_bitCount_0f7a4_21 ?_
  refine lv_iadd hx hb dJ6_bitCount_0f7a4_22 ?_
  refine lv_istore_n (lv' := [(0, .int (((x0 - (((x0.toUInt32 >>> (Int32.toUInt32 1 &&& Int32.toUInt32 31)).toInt32) &&& (1431655765))) &&& (858993459)) + ((((x0 - (((x0.toUInt32 >>> (Int32.toUInt32 1 &&& Int32.toUInt32 31)).toInt32) &&& (1431655765))).toUInt32 >>> (Int32.toUInt32 2 &&& Int32.toUInt32 31)).toInt32) &&& (858993459))))]) hx hb dJ6_bitCount_0f7a4_23 rfl hl (by decide) rfl (fun ls hl => ?_)
  refine lv_iload_n hx hb dJ6_bitCount_0f7a4_24 rfl (lv_at hl 0 rfl) ?_
  refine lv_iload_n hx hb dJ6_bitCount_0f7a4_25 rfl (lv_at hl 0 rfl) ?_
  refine lv_iconst (v := 4) hx hb dJ6_bitCount_0f7a4_26 (by decide) ?_
  refine lv_iushr hx hb dJ6_bitCount_0f7a4_27 rfl ?_
  refine lv_iadd hx hb dJ6_bitCount_0f7a4_28 ?_
  refine lv_ldcw (v := (252645135)) hx hb hown (hts (.constant RJ6 267 (252645135)) (by decide +kernel)) dJ6_bitCount_0f7a4_29 ?_
  refine lv_iand hx hb dJ6_bitCount_0f7a4_32 ?_
  refine lv_istore_n (lv' := [(0, .int (((((x0 - (((x0.toUInt32 >>> (Int32.toUInt32 1 &&& Int32.toUInt32 31)).toInt32) &&& (1431655765))) &&& (858993459)) + ((((x0 - (((x0.toUInt32 >>> (Int32.toUInt32 1 &&& Int32.toUInt32 31)).toInt32) &&& (1431655765))).toUInt32 >>> (Int32.toUInt32 2 &&& Int32.toUInt32 31)).toInt32) &&& (858993459))) + (((((x0 - (((x0.toUInt32 >>> (Int32.toUInt32 1 &&& Int32.toUInt32 31)).toInt32) &&& (1431655765))) &&& (858993459)) + ((((x0 - (((x0.toUInt32 >>> (Int32.toUInt32 1 &&& Int32.toUInt32 31)).toInt32) &&& (1431655765))).toUInt32 >>> (Int32.toUInt32 2 &&& Int32.toUInt32 31)).toInt32) &&& (858993459))).toUInt32 >>> (Int32.toUInt32 4 &&& Int32.toUInt32 31)).toInt32)) &&& (252645135)))]) hx hb dJ6_bitCount_0f7a4_33 rfl hl (by decide) rfl (fun ls hl => ?_)
  refine lv_iload_n hx hb dJ6_bitCount_0f7a4_34 rfl (lv_at hl 0 rfl) ?_
  refine lv_iload_n hx hb dJ6_bitCount_0f7a4_35 rfl (lv_at hl 0 rfl) ?_
  refine lv_bipush (v := 8) hx hb dJ6_bitCount_0f7a4_36 (by decide) ?_
  refine lv_iushr hx hb dJ6_bitCount_0f7a4_38 rfl ?_
  refine lv_iadd hx hb dJ6_bitCount_0f7a4_39 ?_
  refine lv_istore_n (lv' := [(0, .int ((((((x0 - (((x0.toUInt32 >>> (Int32.toUInt32 1 &&& Int32.toUInt32 31)).toInt32) &&& (1431655765))) &&& (858993459)) + ((((x0 - (((x0.toUInt32 >>> (Int32.toUInt32 1 &&& Int32.toUInt32 31)).toInt32) &&& (1431655765))).toUInt32 >>> (Int32.toUInt32 2 &&& Int32.toUInt32 31)).toInt32) &&& (858993459))) + (((((x0 - (((x0.toUInt32 >>> (Int32.toUInt32 1 &&& Int32.toUInt32 31)).toInt32) &&& (1431655765))) &&& (858993459)) + ((((x0 - (((x0.toUInt32 >>> (Int32.toUInt32 1 &&& Int32.toUInt32 31)).toInt32) &&& (1431655765))).toUInt32 >>> (Int32.toUInt32 2 &&& Int32.toUInt32 31)).toInt32) &&& (858993459))).toUInt32 >>> (Int32.toUInt32 4 &&& Int32.toUInt32 31)).toInt32)) &&& (252645135)) + (((((((x0 - (((x0.toUInt32 >>> (Int32.toUInt32 1 &&& Int32.toUInt32 31)).toInt32) &&& (1431655765))) &&& (858993459)) + ((((x0 - (((x0.toUInt32 >>> (Int32.toUInt32 1 &&& Int32.toUInt32 31)).toInt32) &&& (1431655765))).toUInt32 >>> (Int32.toUInt32 2 &&& Int32.toUInt32 31)).toInt32) &&& (858993459))) + (((((x0 - (((x0.toUInt32 >>> (Int32.toUInt32 1 &&& Int32.toUInt32 31)).toInt32) &&& (1431655765))) &&& (858993459)) + ((((x0 - (((x0.toUInt32 >>> (Int32.toUInt32 1 &&& Int32.toUInt32 31)).toInt32) &&& (1431655765))).toUInt32 >>> (Int32.toUInt32 2 &&& Int32.toUInt32 31)).toInt32) &&& (858993459))).toUInt32 >>> (Int32.toUInt32 4 &&& Int32.toUInt32 31)).toInt32)) &&& (252645135)).toUInt32 >>> (Int32.toUInt32 8 &&& Int32.toUInt32 31)).toInt32)))]) hx hb dJ6_bitCount_0f7a4_40 rfl hl (by decide) rfl (fun ls hl => ?_)
  refine lv_iload_n hx hb dJ6_bitCount_0f7a4_41 rfl (lv_at hl 0 rfl) ?_
  refine lv_iload_n hx hb dJ6_bitCount_0f7a4_42 rfl (lv_at hl 0 rfl) ?_
  refine lv_bipush (v := 16) hx hb dJ6_bitCount_0f7a4_43 (by decide) ?_
  refine lv_iushr hx hb dJ6_bitCount_0f7a4_45 rfl ?_
  refine lv_iadd hx hb dJ6_bitCount_0f7a4_46 ?_
  refine lv_istore_n (lv' := [(0, .int (((((((x0 - (((x0.toUInt32 >>> (Int32.toUInt32 1 &&& Int32.toUInt32 31)).toInt32) &&& (1431655765))) &&& (858993459)) + ((((x0 - (((x0.toUInt32 >>> (Int32.toUInt32 1 &&& Int32.toUInt32 31)).toInt32) &&& (1431655765))).toUInt32 >>> (Int32.toUInt32 2 &&& Int32.toUInt32 31)).toInt32) &&& (858993459))) + (((((x0 - (((x0.toUInt32 >>> (Int32.toUInt32 1 &&& Int32.toUInt32 31)).toInt32) &&& (1431655765))) &&& (858993459)) + ((((x0 - (((x0.toUInt32 >>> (Int32.toUInt32 1 &&& Int32.toUInt32 31)).toInt32) &&& (1431655765))).toUInt32 >>> (Int32.toUInt32 2 &&& Int32.toUInt32 31)).toInt32) &&& (858993459))).toUInt32 >>> (Int32.toUInt32 4 &&& Int32.toUInt32 31)).toInt32)) &&& (252645135)) + (((((((x0 - (((x0.toUInt32 >>> (Int32.toUInt32 1 &&& Int32.toUInt32 31)).toInt32) &&& (1431655765))) &&& (858993459)) + ((((x0 - (((x0.toUInt32 >>> (Int32.toUInt32 1 &&& Int32.toUInt32 31)).toInt32) &&& (1431655765))).toUInt32 >>> (Int32.toUInt32 2 &&& Int32.toUInt32 31)).toInt32) &&& (858993459))) + (((((x0 - (((x0.toUInt32 >>> (Int32.toUInt32 1 &&& Int32.toUInt32 31)).toInt32) &&& (1431655765))) &&& (858993459)) + ((((x0 - (((x0.toUInt32 >>> (Int32.toUInt32 1 &&& Int32.toUInt32 31)).toInt32) &&& (1431655765))).toUInt32 >>> (Int32.toUInt32 2 &&& Int32.toUInt32 31)).toInt32) &&& (858993459))).toUInt32 >>> (Int32.toUInt32 4 &&& Int32.toUInt32 31)).toInt32)) &&& (252645135)).toUInt32 >>> (Int32.toUInt32 8 &&& Int32.toUInt32 31)).toInt32)) + ((((((((x0 - (((x0.toUInt32 >>> (Int32.toUInt32 1 &&& Int32.toUInt32 31)).toInt32) &&& (1431655765))) &&& (858993459)) + ((((x0 - (((x0.toUInt32 >>> (Int32.toUInt32 1 &&& Int32.toUInt32 31)).toInt32) &&& (1431655765))).toUInt32 >>> (Int32.toUInt32 2 &&& Int32.toUInt32 31)).toInt32) &&& (858993459))) + (((((x0 - (((x0.toUInt32 >>> (Int32.toUInt32 1 &&& Int32.toUInt32 31)).toInt32) &&& (1431655765))) &&& (858993459)) + ((((x0 - (((x0.toUInt32 >>> (Int32.toUInt32 1 &&& Int32.toUInt32 31)).toInt32) &&& (1431655765))).toUInt32 >>> (Int32.toUInt32 2 &&& Int32.toUInt32 31)).toInt32) &&& (858993459))).toUInt32 >>> (Int32.toUInt32 4 &&& Int32.toUInt32 31)).toInt32)) &&& (252645135)) + (((((((x0 - (((x0.toUInt32 >>> (Int32.toUInt32 1 &&& Int32.toUInt32 31)).toInt32) &&& (1431655765))) &&& (858993459)) + ((((x0 - (((x0.toUInt32 >>> (Int32.toUInt32 1 &&& Int32.toUInt32 31)).toInt32) &&& (1431655765))).toUInt32 >>> (Int32.toUInt32 2 &&& Int32.toUInt32 31)).toInt32) &&& (858993459))) + (((((x0 - (((x0.toUInt32 >>> (Int32.toUInt32 1 &&& Int32.toUInt32 31)).toInt32) &&& (1431655765))) &&& (858993459)) + ((((x0 - (((x0.toUInt32 >>> (Int32.toUInt32 1 &&& Int32.toUInt32 31)).toInt32) &&& (1431655765))).toUInt32 >>> (Int32.toUInt32 2 &&& Int32.toUInt32 31)).toInt32) &&& (858993459))).toUInt32 >>> (Int32.toUInt32 4 &&& Int32.toUInt32 31)).toInt32)) &&& (252645135)).toUInt32 >>> (Int32.toUInt32 8 &&& Int32.toUInt32 31)).toInt32)).toUInt32 >>> (Int32.toUInt32 16 &&& Int32.toUInt32 31)).toInt32)))]) hx hb dJ6_bitCount_0f7a4_47 rfl hl (by decide) rfl (fun ls hl => ?_)
  refine lv_iload_n hx hb dJ6_bitCount_0f7a4_48 rfl (lv_at hl 0 rfl) ?_
  refine lv_bipush (v := 63) hx hb dJ6_bitCount_0f7a4_49 (by decide) ?_
  refine lv_iand hx hb dJ6_bitCount_0f7a4_51 ?_
  exact ret_I C S hr dJ6_bitCount_0f7a4_52 ⟨(by first | rfl | simp only [sJ6_bitCount_0f7a4a]), (by first | rfl | simp only [sJ6_bitCount_0f7a4a])⟩

def sX2_exists (n : Nat) (x : Int32) : Bool := if x < 0 then false else (if (nI n) ≤ x then false else true)
theorem inX2_exists_X2 : ∀ w ∈ wsX20, w ∈ wsX2_exists := by decide +kernel
set_option maxRecDepth 100000 in
set_option maxHeartbeats 4000000 in
theorem kX2_exists (l : Launch) (g : GG) (h : Nat) (q : Nat) (f : Nat → Int32) (n : Nat) (ww : Nat) (x : Int32)  : KI l g yX2_exists wsX2_exists 0 0 [.ref h, .int x] [(h, ob 2 [.ref q, .int (nI n), .int (nI ww)]), (q, aI g 32 f)] (fun (r : Int32) (w' : va_W) => r = (bI (sX2_exists n x)) ∧ w' = [(h, ob 2 [.ref q, .int (nI n), .int (nI ww)]), (q, aI g 32 f)]) := by
  refine kI_of (cc := cX2_exists) (maxL := 2) (by decide) rfl (Nat.le_of_ble_eq_true rfl) ?_
  intro pp ee ss mm bel mth cd A ls C S hr hl
  obtain ⟨hx, hb, hml, hown, hts⟩ := id C.1
  have hl : lv_has ls 2 [(0, .ref h), (1, .int x)] := hl
  obtain ⟨H, hH⟩ : ∃ H, H = ss.heap := ⟨_, rfl⟩
  obtain ⟨locs, hL0⟩ : ∃ L : List Loc, L = [] := ⟨_, rfl⟩
  rw [← hH, ← hL0] at S ⊢
  refine lv_iload_n hx hb dX2_exists_0 rfl (lv_at hl 1 rfl) ?_
  refine lv_if_lt (tgt := 16) hx hb dX2_exists_1 (by decide) (fun c_1 => ?_) (fun c_1 => ?_)
  · -- 1 T
    refine lv_iconst (v := 0) hx hb dX2_exists_16 (by decide) ?_
    exact ret_Z (sX2_exists n x) C S hr dX2_exists_17 (by first | rfl | (simp only [sX2_exists, if_pos c_1]; first | rfl | done)) ⟨(by first | rfl | (simp only [sX2_exists, if_pos c_1]; first | rfl | done)), (by first | rfl | (simp only [sX2_exists, if_pos c_1]; first | rfl | done))⟩
  · -- 1 F
    refine lv_iload_n hx hb dX2_exists_4 rfl (lv_at hl 1 rfl) ?_
    refine lv_aload_n hx hb dX2_exists_5 rfl (lv_at hl 0 rfl) ?_
    refine top_get C S inX2_exists_X2 rfl 0 rfl 1 (by decide) (by decide +kernel) rfl rfl dX2_exists_6 ?_
    refine lv_icmp_ge (tgt := 16) hx hb dX2_exists_9 (by decide) (fun c_2 => ?_) (fun c_2 => ?_)
    · -- 9 T
      refine lv_iconst (v := 0) hx hb dX2_exists_16 (by decide) ?_
      exact ret_Z (sX2_exists n x) C S hr dX2_exists_17 (by first | rfl | (simp only [sX2_exists, if_neg c_1, if_pos c_2]; first | rfl | done)) ⟨(by first | rfl | (simp only [sX2_exists, if_neg c_1, if_pos c_2]; first | rfl | done)), (by first | rfl | (simp only [sX2_exists, if_neg c_1, if_pos c_2]; first | rfl | done))⟩
    · -- 9 F
      refine lv_iconst (v := 1) hx hb dX2_exists_12 (by decide) ?_
      refine lv_goto (tgt := 17) hx hb dX2_exists_13 (by decide) ?_
      exact ret_Z (sX2_exists n x) C S hr dX2_exists_17 (by first | rfl | (simp only [sX2_exists, if_neg c_1, if_neg c_2]; first | rfl | done)) ⟨(by first | rfl | (simp only [sX2_exists, if_neg c_1, if_neg c_2]; first | rfl | done)), (by first | rfl | (simp only [sX2_exists, if_neg c_1, if_neg c_2]; first | rfl | done))⟩

theorem inX2_isWhole_X2 : ∀ w ∈ wsX20, w ∈ wsX2_isWhole := by decide +kernel
set_option maxRecDepth 100000 in
set_option maxHeartbeats 4000000 in
theorem kX2_isWhole (l : Launch) (g : GG) (h : Nat) (q : Nat) (f : Nat → Int32) (n : Nat) (ww : Nat) (i : Nat) (hw : ww < 512) (hi : i < 31) : KI l g yX2_isWhole wsX2_isWhole 1 21 [.ref h, .int (nI i)] [(h, ob 2 [.ref q, .int (nI n), .int (nI ww)]), (q, aI g 32 f)] (fun (r : Int32) (w' : va_W) => r = (bI (ww.testBit i)) ∧ w' = [(h, ob 2 [.ref q, .int (nI n), .int (nI ww)]), (q, aI g 32 f)]) := by
  refine kI_of (cc := cX2_isWhole) (maxL := 2) (by decide) rfl (Nat.le_of_ble_eq_true rfl) ?_
  intro pp ee ss mm bel mth cd A ls C S hr hl
  obtain ⟨hx, hb, hml, hown, hts⟩ := id C.1
  have hl : lv_has ls 2 [(0, .ref h), (1, .int (nI i))] := hl
  obtain ⟨H, hH⟩ : ∃ H, H = ss.heap := ⟨_, rfl⟩
  obtain ⟨locs, hL0⟩ : ∃ L : List Loc, L = [] := ⟨_, rfl⟩
  rw [← hH, ← hL0] at S ⊢
  refine lv_aload_n hx hb dX2_isWhole_0 rfl (lv_at hl 0 rfl) ?_
  refine top_get C S inX2_isWhole_X2 rfl 0 rfl 2 (by decide) (by decide +kernel) rfl rfl dX2_isWhole_1 ?_
  refine lv_iload_n hx hb dX2_isWhole_4 rfl (lv_at hl 1 rfl) ?_
  refine after_I (wc := []) (y := yX6_holds) C S (va_runSN (As := [.int (nI ww), .int (nI i)]) (rest := []) C.1 (kX6_holds l g ww i (by first | assumption | omega) (by first | assumption | omega) H.size) ⟨va_cnB 2 hts gX2_isWhole_X6_holds_n28 rfl rfl rfl (C.2.2.1.1.2 ("StackedLeaves$Leaves", 28, yX6_holds) (by decide +kernel)) (hts (.initialized RX6) (by decide +kernel)) (by decide +kernel) ⟨Nat.le_of_ble_eq_true rfl, Nat.le_of_ble_eq_true rfl⟩, hts (.static yX6_holds) (by decide +kernel), trivial⟩ (preS_at C S [] rfl (by decide)) rfl rfl hl.1 rfl (lv_room (Nat.le_of_ble_eq_true rfl)) dX2_isWhole_5 ⟨Nat.le_of_ble_eq_true rfl, Nat.le_of_ble_eq_true rfl⟩) [] [0, 1] rfl (wr := [(h, ob 2 [.ref q, .int (nI n), .int (nI ww)]), (q, aI g 32 f)]) rfl (by decide) (by decide) (fun r0 w0 H locs hq S => ?_)
  obtain ⟨rfl, rfl⟩ := hq
  have S : ST g A ss H locs [(h, ob 2 [.ref q, .int (nI n), .int (nI ww)]), (q, aI g 32 f)] := S
  exact ret_Z (ww.testBit i) C S hr dX2_isWhole_8 (rfl) ⟨(rfl), (rfl)⟩

theorem inX2_number_X2 : ∀ w ∈ wsX20, w ∈ wsX2_number := by decide +kernel
set_option maxRecDepth 100000 in
set_option maxHeartbeats 4000000 in
theorem kX2_number (l : Launch) (g : GG) (h : Nat) (q : Nat) (f : Nat → Int32) (n : Nat) (ww : Nat) (a : Nat) (b : Nat) (ha : a < 4) (hb1 : b < 8) : KI l g yX2_number wsX2_number 0 0 [.ref h, .int (nI a), .int (nI b)] [(h, ob 2 [.ref q, .int (nI n), .int (nI ww)]), (q, aI g 32 f)] (fun (r : Int32) (w' : va_W) => r = (f (a * 8 + b)) ∧ w' = [(h, ob 2 [.ref q, .int (nI n), .int (nI ww)]), (q, aI g 32 f)]) := by
  refine kI_of (cc := cX2_number) (maxL := 3) (by decide) rfl (Nat.le_of_ble_eq_true rfl) ?_
  intro pp ee ss mm bel mth cd A ls C S hr hl
  obtain ⟨hx, hb, hml, hown, hts⟩ := id C.1
  have hl : lv_has ls 3 [(0, .ref h), (1, .int (nI a)), (2, .int (nI b))] := hl
  obtain ⟨H, hH⟩ : ∃ H, H = ss.heap := ⟨_, rfl⟩
  obtain ⟨locs, hL0⟩ : ∃ L : List Loc, L = [] := ⟨_, rfl⟩
  rw [← hH, ← hL0] at S ⊢
  refine lv_aload_n hx hb dX2_number_0 rfl (lv_at hl 0 rfl) ?_
  refine top_get C S inX2_number_X2 rfl 0 rfl 0 (by decide) (by decide +kernel) rfl rfl dX2_number_1 ?_
  refine lv_iload_n hx hb dX2_number_4 rfl (lv_at hl 1 rfl) ?_
  refine lv_bipush (v := 8) hx hb dX2_number_5 (by decide) ?_
  refine lv_imul hx hb dX2_number_7 ?_
  refine top_eq (y := nI (a * 8)) (pk_mul _ _) ?_
  refine lv_iload_n hx hb dX2_number_8 rfl (lv_at hl 2 rfl) ?_
  refine lv_iadd hx hb dX2_number_9 ?_
  refine top_eq (y := nI ((a * 8) + b)) (nI_add _ _) ?_
  refine top_ild C S 1 rfl (j := ((a * 8) + b)) rfl (by omega) (by decide) dX2_number_10 ?_
  exact ret_I C S hr dX2_number_11 ⟨(by first | rfl | simp only []), (by first | rfl | simp only [])⟩

theorem inX2_put_X2 : ∀ w ∈ wsX20, w ∈ wsX2_put := by decide +kernel
set_option maxRecDepth 100000 in
set_option maxHeartbeats 4000000 in
theorem kX2_put (l : Launch) (g : GG) (h : Nat) (q : Nat) (f : Nat → Int32) (n : Nat) (ww : Nat) (a : Nat) (b : Nat) (v : Int32) (ha : a < 4) (hb1 : b < 8) : KV l g yX2_put wsX2_put 0 0 [.ref h, .int (nI a), .int (nI b), .int v] [(h, ob 2 [.ref q, .int (nI n), .int (nI ww)]), (q, aI g 32 f)] (fun (w' : va_W) => w' = [(h, ob 2 [.ref q, .int (nI n), .int (nI ww)]), (q, aI g 32 (upd f (a * 8 + b) v))]) := by
  refine kV_of (cc := cX2_put) (maxL := 4) (by decide) rfl (Nat.le_of_ble_eq_true rfl) ?_
  intro pp ee ss mm bel mth cd A ls C S hr hl
  obtain ⟨hx, hb, hml, hown, hts⟩ := id C.1
  have hl : lv_has ls 4 [(0, .ref h), (1, .int (nI a)), (2, .int (nI b)), (3, .int v)] := hl
  obtain ⟨H, hH⟩ : ∃ H, H = ss.heap := ⟨_, rfl⟩
  obtain ⟨locs, hL0⟩ : ∃ L : List Loc, L = [] := ⟨_, rfl⟩
  rw [← hH, ← hL0] at S ⊢
  refine lv_aload_n hx hb dX2_put_0 rfl (lv_at hl 0 rfl) ?_
  refine top_get C S inX2_put_X2 rfl 0 rfl 0 (by decide) (by decide +kernel) rfl rfl dX2_put_1 ?_
  refine lv_iload_n hx hb dX2_put_4 rfl (lv_at hl 1 rfl) ?_
  refine lv_bipush (v := 8) hx hb dX2_put_5 (by decide) ?_
  refine lv_imul hx hb dX2_put_7 ?_
  refine top_eq (y := nI (a * 8)) (pk_mul _ _) ?_
  refine lv_iload_n hx hb dX2_put_8 rfl (lv_at hl 2 rfl) ?_
  refine lv_iadd hx hb dX2_put_9 ?_
  refine top_eq (y := nI ((a * 8) + b)) (nI_add _ _) ?_
  refine lv_iload_n hx hb dX2_put_10 rfl (lv_at hl 3 rfl) ?_
  refine top_ist C S 1 rfl (j := ((a * 8) + b)) rfl (by omega) (by decide) dX2_put_11 (fun H locs S => ?_)
  have S : ST g A ss H locs [(h, ob 2 [.ref q, .int (nI n), .int (nI ww)]), (q, aI g 32 (upd f ((a * 8) + b) v))] := S
  exact ret_V C S hr dX2_put_12 (by first | rfl | simp only [])

theorem inX2_empty_X2 : ∀ w ∈ wsX20, w ∈ wsX2_empty := by decide +kernel
set_option maxRecDepth 100000 in
set_option maxHeartbeats 4000000 in
theorem kX2_empty (l : Launch) (g : GG) (h : Nat) (q : Nat) (f : Nat → Int32) (n : Nat) (ww : Nat)  : KV l g yX2_empty wsX2_empty 0 0 [.ref h] [(h, ob 2 [.ref q, .int (nI n), .int (nI ww)]), (q, aI g 32 f)] (fun (w' : va_W) => w' = [(h, ob 2 [.ref q, .int (nI 0), .int (nI 0)]), (q, aI g 32 f)]) := by
  refine kV_of (cc := cX2_empty) (maxL := 1) (by decide) rfl (Nat.le_of_ble_eq_true rfl) ?_
  intro pp ee ss mm bel mth cd A ls C S hr hl
  obtain ⟨hx, hb, hml, hown, hts⟩ := id C.1
  have hl : lv_has ls 1 [(0, .ref h)] := hl
  obtain ⟨H, hH⟩ : ∃ H, H = ss.heap := ⟨_, rfl⟩
  obtain ⟨locs, hL0⟩ : ∃ L : List Loc, L = [] := ⟨_, rfl⟩
  rw [← hH, ← hL0] at S ⊢
  refine lv_aload_n hx hb dX2_empty_0 rfl (lv_at hl 0 rfl) ?_
  refine lv_iconst (v := 0) hx hb dX2_empty_1 (by decide) ?_
  refine top_put (ty := .int) C S inX2_empty_X2 tyX2 tyX2_ok nmX2 rfl 0 rfl 1 (by decide) (by decide +kernel) rfl rfl (tyX2_ok 1 (by decide)) rfl rfl (Nat.le_of_ble_eq_true rfl) dX2_empty_2 (fun H locs S => ?_)
  have S : ST g A ss H locs [(h, ob 2 [.ref q, .int 0, .int (nI ww)]), (q, aI g 32 f)] := S
  refine lv_aload_n hx hb dX2_empty_5 rfl (lv_at hl 0 rfl) ?_
  refine lv_iconst (v := 0) hx hb dX2_empty_6 (by decide) ?_
  refine top_put (ty := .int) C S inX2_empty_X2 tyX2 tyX2_ok nmX2 rfl 0 rfl 2 (by decide) (by decide +kernel) rfl rfl (tyX2_ok 2 (by decide)) rfl rfl (Nat.le_of_ble_eq_true rfl) dX2_empty_7 (fun H locs S => ?_)
  have S : ST g A ss H locs [(h, ob 2 [.ref q, .int 0, .int 0]), (q, aI g 32 f)] := S
  exact ret_V C S hr dX2_empty_10 (by first | rfl | simp only [])

theorem inX2_appendWhole_X2 : ∀ w ∈ wsX20, w ∈ wsX2_appendWhole := by decide +kernel
set_option maxRecDepth 100000 in
set_option maxHeartbeats 4000000 in
theorem kX2_appendWhole (l : Launch) (g : GG) (h : Nat) (q : Nat) (f : Nat → Int32) (n : Nat) (ww : Nat) (hn : n < 8) (hw : ww < 512) : KV l g yX2_appendWhole wsX2_appendWhole 0 0 [.ref h] [(h, ob 2 [.ref q, .int (nI n), .int (nI ww)]), (q, aI g 32 f)] (fun (w' : va_W) => w' = [(h, ob 2 [.ref q, .int (nI (n + 1)), .int (nI (ww ||| 2 ^ n))]), (q, aI g 32 f)]) := by
  refine kV_of (cc := cX2_appendWhole) (maxL := 1) (by decide) rfl (Nat.le_of_ble_eq_true rfl) ?_
  intro pp ee ss mm bel mth cd A ls C S hr hl
  obtain ⟨hx, hb, hml, hown, hts⟩ := id C.1
  have hl : lv_has ls 1 [(0, .ref h)] := hl
  obtain ⟨H, hH⟩ : ∃ H, H = ss.heap := ⟨_, rfl⟩
  obtain ⟨locs, hL0⟩ : ∃ L : List Loc, L = [] := ⟨_, rfl⟩
  rw [← hH, ← hL0] at S ⊢
  refine lv_aload_n hx hb dX2_appendWhole_0 rfl (lv_at hl 0 rfl) ?_
  refine top_get C S inX2_appendWhole_X2 rfl 0 rfl 1 (by decide) (by decide +kernel) rfl rfl dX2_appendWhole_1 ?_
  refine lv_bipush (v := 8) hx hb dX2_appendWhole_4 (by decide) ?_
  refine bn_ige (tgt := 34) (a := n) (b := 8) hx hb rfl rfl (by omega) (by omega) dX2_appendWhole_6 (by decide) (fun c_1 => ?_) (fun c_1 => ?_)
  · -- 6 T
    exact absurd c_1 (by omega)
  · -- 6 F
    refine lv_aload_n hx hb dX2_appendWhole_9 rfl (lv_at hl 0 rfl) ?_
    refine lv_dup hx hb dX2_appendWhole_10 rfl ?_
    refine top_get C S inX2_appendWhole_X2 rfl 0 rfl 2 (by decide) (by decide +kernel) rfl rfl dX2_appendWhole_11 ?_
    refine lv_iconst (v := 1) hx hb dX2_appendWhole_14 (by decide) ?_
    refine lv_aload_n hx hb dX2_appendWhole_15 rfl (lv_at hl 0 rfl) ?_
    refine top_get C S inX2_appendWhole_X2 rfl 0 rfl 1 (by decide) (by decide +kernel) rfl rfl dX2_appendWhole_16 ?_
    refine lv_ishl hx hb dX2_appendWhole_19 ?_
    refine top_eq (y := nI (2 ^ n)) (shl_1 (by omega)) ?_
    refine lv_ior hx hb dX2_appendWhole_20 ?_
    refine top_eq (y := nI (ww ||| 2 ^ n)) (fa_or _ _) ?_
    refine top_put (ty := .int) C S inX2_appendWhole_X2 tyX2 tyX2_ok nmX2 rfl 0 rfl 2 (by decide) (by decide +kernel) rfl rfl (tyX2_ok 2 (by decide)) rfl rfl (Nat.le_of_ble_eq_true rfl) dX2_appendWhole_21 (fun H locs S => ?_)
    have S : ST g A ss H locs [(h, ob 2 [.ref q, .int (nI n), .int (nI (ww ||| 2 ^ n))]), (q, aI g 32 f)] := S
    refine lv_aload_n hx hb dX2_appendWhole_24 rfl (lv_at hl 0 rfl) ?_
    refine lv_dup hx hb dX2_appendWhole_25 rfl ?_
    refine top_get C S inX2_appendWhole_X2 rfl 0 rfl 1 (by decide) (by decide +kernel) rfl rfl dX2_appendWhole_26 ?_
    refine lv_iconst (v := 1) hx hb dX2_appendWhole_29 (by decide) ?_
    refine lv_iadd hx hb dX2_appendWhole_30 ?_
    refine top_eq (y := nI (n + 1)) (nI_add _ _) ?_
    refine top_put (ty := .int) C S inX2_appendWhole_X2 tyX2 tyX2_ok nmX2 rfl 0 rfl 1 (by decide) (by decide +kernel) rfl rfl (tyX2_ok 1 (by decide)) rfl rfl (Nat.le_of_ble_eq_true rfl) dX2_appendWhole_31 (fun H locs S => ?_)
    have S : ST g A ss H locs [(h, ob 2 [.ref q, .int (nI (n + 1)), .int (nI (ww ||| 2 ^ n))]), (q, aI g 32 f)] := S
    exact ret_V C S hr dX2_appendWhole_34 (by first | rfl | simp only [if_neg c_1])

def sX2_mostOfNext (f : Nat → Int32) (n : Nat) (a : Nat) : Int32 := if a = 0 then (if n ≤ 0 then (fMo a) else (f (0 * 8 + (n - 1)))) else (fMo a)
theorem inX2_mostOfNext_X2 : ∀ w ∈ wsX20, w ∈ wsX2_mostOfNext := by decide +kernel
set_option maxRecDepth 100000 in
set_option maxHeartbeats 4000000 in
theorem kX2_mostOfNext (l : Launch) (g : GG) (h : Nat) (q : Nat) (f : Nat → Int32) (n : Nat) (ww : Nat) (a : Nat) (ha : a < 4) (hn : n ≤ 8) : KI l g yX2_mostOfNext wsX2_mostOfNext 1 22 [.ref h, .int (nI a)] [(h, ob 2 [.ref q, .int (nI n), .int (nI ww)]), (q, aI g 32 f)] (fun (r : Int32) (w' : va_W) => r = (sX2_mostOfNext f n a) ∧ w' = [(h, ob 2 [.ref q, .int (nI n), .int (nI ww)]), (q, aI g 32 f)]) := by
  refine kI_of (cc := cX2_mostOfNext) (maxL := 2) (by decide) rfl (Nat.le_of_ble_eq_true rfl) ?_
  intro pp ee ss mm bel mth cd A ls C S hr hl
  obtain ⟨hx, hb, hml, hown, hts⟩ := id C.1
  have hl : lv_has ls 2 [(0, .ref h), (1, .int (nI a))] := hl
  obtain ⟨H, hH⟩ : ∃ H, H = ss.heap := ⟨_, rfl⟩
  obtain ⟨locs, hL0⟩ : ∃ L : List Loc, L = [] := ⟨_, rfl⟩
  rw [← hH, ← hL0] at S ⊢
  refine lv_iload_n hx hb dX2_mostOfNext_0 rfl (lv_at hl 1 rfl) ?_
  refine bn_zne (tgt := 25) (a := a) hx hb rfl (by omega) dX2_mostOfNext_1 (by decide) (fun c_1 => ?_) (fun c_1 => ?_)
  · -- 1 T
    obtain ⟨tMo, ztMo, htMo⟩ := C.2.2.1.2.2
    refine va_getsN hx hb ztMo S.2.2 hown (va_Nw.use rfl (C.2.2.1.1.1 ("StackedLeaves$Leaves", 36, "StackedLeaves", "MOST_NUMBER", "[I") (by decide +kernel))) (fun _ h9 => h9) dX2_mostOfNext_25 ?_
    refine lv_iload_n hx hb dX2_mostOfNext_28 rfl (lv_at hl 1 rfl) ?_
    refine top_tab C S htMo (j := a) rfl (by omega) dX2_mostOfNext_29 ?_
    exact ret_I C S hr dX2_mostOfNext_30 ⟨(by first | rfl | simp only [sX2_mostOfNext, if_neg c_1]), (by first | rfl | simp only [sX2_mostOfNext, if_neg c_1])⟩
  · -- 1 F
    refine lv_aload_n hx hb dX2_mostOfNext_4 rfl (lv_at hl 0 rfl) ?_
    refine top_get C S inX2_mostOfNext_X2 rfl 0 rfl 1 (by decide) (by decide +kernel) rfl rfl dX2_mostOfNext_5 ?_
    refine bn_zle (tgt := 25) (a := n) hx hb rfl (by omega) dX2_mostOfNext_8 (by decide) (fun c_2 => ?_) (fun c_2 => ?_)
    · -- 8 T
      obtain ⟨tMo, ztMo, htMo⟩ := C.2.2.1.2.2
      refine va_getsN hx hb ztMo S.2.2 hown (va_Nw.use rfl (C.2.2.1.1.1 ("StackedLeaves$Leaves", 36, "StackedLeaves", "MOST_NUMBER", "[I") (by decide +kernel))) (fun _ h9 => h9) dX2_mostOfNext_25 ?_
      refine lv_iload_n hx hb dX2_mostOfNext_28 rfl (lv_at hl 1 rfl) ?_
      refine top_tab C S htMo (j := a) rfl (by omega) dX2_mostOfNext_29 ?_
      exact ret_I C S hr dX2_mostOfNext_30 ⟨(by first | rfl | simp only [sX2_mostOfNext, if_pos c_1, if_pos c_2]), (by first | rfl | simp only [sX2_mostOfNext, if_pos c_1, if_pos c_2])⟩
    · -- 8 F
      refine lv_aload_n hx hb dX2_mostOfNext_11 rfl (lv_at hl 0 rfl) ?_
      refine lv_iconst (v := 0) hx hb dX2_mostOfNext_12 (by decide) ?_
      refine lv_aload_n hx hb dX2_mostOfNext_13 rfl (lv_at hl 0 rfl) ?_
      refine top_get C S inX2_mostOfNext_X2 rfl 0 rfl 1 (by decide) (by decide +kernel) rfl rfl dX2_mostOfNext_14 ?_
      refine lv_iconst (v := 1) hx hb dX2_mostOfNext_17 (by decide) ?_
      refine lv_isub hx hb dX2_mostOfNext_18 ?_
      refine top_eq (y := nI (n - 1)) (pk_sub (a := n) (b := 1) (by omega)) ?_
      refine after_I (wc := [(h, ob 2 [.ref q, .int (nI n), .int (nI ww)]), (q, aI g 32 f)]) (y := yX2_number) C S (va_runV (As := [.int 0, .int (nI (n - 1))]) (rest := []) C.1 (kX2_number l g h q f n ww 0 (n - 1) (by first | assumption | omega) (by first | assumption | omega) H.size) (cwV 2 hts gX2_mostOfNext_X2_number rfl rfl rfl (by decide +kernel) ⟨Nat.le_of_ble_eq_true rfl, Nat.le_of_ble_eq_true rfl⟩) (preV_at C S 0 rfl rfl [0, 1] rfl (by decide)) rfl rfl hl.1 rfl (lv_room (Nat.le_of_ble_eq_true rfl)) dX2_mostOfNext_19 ⟨Nat.le_of_ble_eq_true rfl, Nat.le_of_ble_eq_true rfl⟩) [0, 1] [] rfl (wr := []) rfl (by decide) (by decide) (fun r0 w0 H locs hq S => ?_)
      obtain ⟨rfl, rfl⟩ := hq
      have S : ST g A ss H locs [(h, ob 2 [.ref q, .int (nI n), .int (nI ww)]), (q, aI g 32 f)] := S
      refine lv_goto (tgt := 30) hx hb dX2_mostOfNext_22 (by decide) ?_
      exact ret_I C S hr dX2_mostOfNext_30 ⟨(by first | rfl | simp only [sX2_mostOfNext, if_pos c_1, if_neg c_2]), (by first | rfl | simp only [sX2_mostOfNext, if_pos c_1, if_neg c_2])⟩

set_option maxRecDepth 100000 in
set_option maxHeartbeats 4000000 in
theorem kX2_nipn (l : Launch) (g : GG) (h : Nat) (q : Nat) (f : Nat → Int32) (n : Nat) (ww : Nat) (b : Nat)  : KI l g yX2_nip wsX2_nip 0 0 [.ref h, .int (-1), .int (nI b)] [(h, ob 2 [.ref q, .int (nI n), .int (nI ww)]), (q, aI g 32 f)] (fun (r : Int32) (w' : va_W) => r = (nI 0) ∧ w' = [(h, ob 2 [.ref q, .int (nI n), .int (nI ww)]), (q, aI g 32 f)]) := by
  refine kI_of (cc := cX2_nip) (maxL := 3) (by decide) rfl (Nat.le_of_ble_eq_true rfl) ?_
  intro pp ee ss mm bel mth cd A ls C S hr hl
  obtain ⟨hx, hb, hml, hown, hts⟩ := id C.1
  have hl : lv_has ls 3 [(0, .ref h), (1, .int (-1)), (2, .int (nI b))] := hl
  obtain ⟨H, hH⟩ : ∃ H, H = ss.heap := ⟨_, rfl⟩
  obtain ⟨locs, hL0⟩ : ∃ L : List Loc, L = [] := ⟨_, rfl⟩
  rw [← hH, ← hL0] at S ⊢
  refine lv_iload_n hx hb dX2_nip_0 rfl (lv_at hl 1 rfl) ?_
  refine lv_if_ge (tgt := 8) hx hb dX2_nip_1 (by decide) (fun c_1 => ?_) (fun c_1 => ?_)
  · -- 1 T
    exact absurd c_1 (by decide)
  · -- 1 F
    refine lv_iconst (v := 0) hx hb dX2_nip_4 (by decide) ?_
    refine lv_goto (tgt := 25) hx hb dX2_nip_5 (by decide) ?_
    exact ret_I C S hr dX2_nip_25 ⟨(by first | rfl | simp only [if_neg c_1]), (by first | rfl | simp only [if_neg c_1])⟩

set_option maxRecDepth 100000 in
set_option maxHeartbeats 4000000 in
theorem kX2_nips (l : Launch) (g : GG) (h : Nat) (q : Nat) (f : Nat → Int32) (n : Nat) (ww : Nat) (nu : Nat → Nat → Nat) (j : Nat) (b : Nat) (hn : n ≤ 8) (hf : ∀ a i, a < 4 → i < n → f (a * 8 + i) = nI (nu a i)) (hca : ∀ i, i < n → nu 2 i ≤ 30) (hj : j < n) (hb1 : b < n) : KI l g yX2_nip wsX2_nip 1 22 [.ref h, .int (nI j), .int (nI b)] [(h, ob 2 [.ref q, .int (nI n), .int (nI ww)]), (q, aI g 32 f)] (fun (r : Int32) (w' : va_W) => r = (nI (nu 2 j - nu 2 b)) ∧ w' = [(h, ob 2 [.ref q, .int (nI n), .int (nI ww)]), (q, aI g 32 f)]) := by
  refine kI_of (cc := cX2_nip) (maxL := 3) (by decide) rfl (Nat.le_of_ble_eq_true rfl) ?_
  intro pp ee ss mm bel mth cd A ls C S hr hl
  obtain ⟨hx, hb, hml, hown, hts⟩ := id C.1
  have hl : lv_has ls 3 [(0, .ref h), (1, .int (nI j)), (2, .int (nI b))] := hl
  obtain ⟨H, hH⟩ : ∃ H, H = ss.heap := ⟨_, rfl⟩
  obtain ⟨locs, hL0⟩ : ∃ L : List Loc, L = [] := ⟨_, rfl⟩
  rw [← hH, ← hL0] at S ⊢
  have hc1 := hca j hj
  have hc2 := hca b hb1
  refine lv_iload_n hx hb dX2_nip_0 rfl (lv_at hl 1 rfl) ?_
  refine bn_zge (tgt := 8) (a := j) hx hb rfl (by omega) dX2_nip_1 (by decide) (fun c_1 => ?_) (fun c_1 => ?_)
  · -- 1 T
    refine lv_iconst (v := 0) hx hb dX2_nip_8 (by decide) ?_
    refine lv_aload_n hx hb dX2_nip_9 rfl (lv_at hl 0 rfl) ?_
    refine lv_iconst (v := 2) hx hb dX2_nip_10 (by decide) ?_
    refine lv_iload_n hx hb dX2_nip_11 rfl (lv_at hl 1 rfl) ?_
    refine after_I (wc := [(h, ob 2 [.ref q, .int (nI n), .int (nI ww)]), (q, aI g 32 f)]) (y := yX2_number) C S (va_runV (As := [.int 2, .int (nI j)]) (rest := [.int 0]) C.1 (kX2_number l g h q f n ww 2 j (by first | assumption | omega) (by first | assumption | omega) H.size) (cwV 2 hts gX2_nip_X2_number rfl rfl rfl (by decide +kernel) ⟨Nat.le_of_ble_eq_true rfl, Nat.le_of_ble_eq_true rfl⟩) (preV_at C S 0 rfl rfl [0, 1] rfl (by decide)) rfl rfl hl.1 rfl (lv_room (Nat.le_of_ble_eq_true rfl)) dX2_nip_12 ⟨Nat.le_of_ble_eq_true rfl, Nat.le_of_ble_eq_true rfl⟩) [0, 1] [] rfl (wr := []) rfl (by decide) (by decide) (fun r0 w0 H locs hq S => ?_)
    obtain ⟨rfl, rfl⟩ := hq
    have S : ST g A ss H locs [(h, ob 2 [.ref q, .int (nI n), .int (nI ww)]), (q, aI g 32 f)] := S
    refine top_eq (y := nI (nu 2 j)) (hf _ _ (by omega) (by omega)) ?_
    refine lv_aload_n hx hb dX2_nip_15 rfl (lv_at hl 0 rfl) ?_
    refine lv_iconst (v := 2) hx hb dX2_nip_16 (by decide) ?_
    refine lv_iload_n hx hb dX2_nip_17 rfl (lv_at hl 2 rfl) ?_
    refine after_I (wc := [(h, ob 2 [.ref q, .int (nI n), .int (nI ww)]), (q, aI g 32 f)]) (y := yX2_number) C S (va_runV (As := [.int 2, .int (nI b)]) (rest := [.int (nI (nu 2 j)), .int 0]) C.1 (kX2_number l g h q f n ww 2 b (by first | assumption | omega) (by first | assumption | omega) H.size) (cwV 2 hts gX2_nip_X2_number rfl rfl rfl (by decide +kernel) ⟨Nat.le_of_ble_eq_true rfl, Nat.le_of_ble_eq_true rfl⟩) (preV_at C S 0 rfl rfl [0, 1] rfl (by decide)) rfl rfl hl.1 rfl (lv_room (Nat.le_of_ble_eq_true rfl)) dX2_nip_18 ⟨Nat.le_of_ble_eq_true rfl, Nat.le_of_ble_eq_true rfl⟩) [0, 1] [] rfl (wr := []) rfl (by decide) (by decide) (fun r0 w0 H locs hq S => ?_)
    obtain ⟨rfl, rfl⟩ := hq
    have S : ST g A ss H locs [(h, ob 2 [.ref q, .int (nI n), .int (nI ww)]), (q, aI g 32 f)] := S
    refine top_eq (y := nI (nu 2 b)) (hf _ _ (by omega) (by omega)) ?_
    refine lv_isub hx hb dX2_nip_21 ?_
    refine va_mmax hx hb (hml.trans hl.1.symm) hown (hts (.methodLink RX2 39 Lib.Math.max.name) (by decide +kernel)) (hts (.static Lib.Math.max.name) (by decide +kernel)) (hts (.initialized "java/lang/Math") (by decide +kernel)) (hts (.code Lib.Math.max.name Lib.Math.max.code 2 (some .int)) (by decide +kernel)) (Nat.le_of_ble_eq_true rfl) (Nat.le_of_ble_eq_true rfl) (Nat.le_of_ble_eq_true rfl) (Nat.le_of_ble_eq_true rfl) dX2_nip_22 ?_
    refine top_eq (y := imax 0 ((nI (nu 2 j)) - (nI (nu 2 b)))) rfl ?_
    refine top_eq (y := nI (nu 2 j - nu 2 b)) (max_0 (by omega) (by omega)) ?_
    exact ret_I C S hr dX2_nip_25 ⟨(by first | rfl | simp only [if_pos c_1]), (by first | rfl | simp only [if_pos c_1])⟩
  · -- 1 F
    exact absurd (Nat.zero_le _) c_1

theorem inX2_sum_X2 : ∀ w ∈ wsX20, w ∈ wsX2_sum := by decide +kernel
set_option maxRecDepth 100000 in
set_option maxHeartbeats 4000000 in
theorem kX2_sum (l : Launch) (g : GG) (h : Nat) (q : Nat) (f : Nat → Int32) (n : Nat) (ww : Nat) (nu : Nat → Nat → Nat) (a : Nat) (b : Nat) (hn : n ≤ 8) (hf : ∀ a i, a < 4 → i < n → f (a * 8 + i) = nI (nu a i)) (ha : a < 4) (hb1 : b < 512) : KI l g yX2_sum wsX2_sum 1 22 [.ref h, .int (nI a), .int (nI b)] [(h, ob 2 [.ref q, .int (nI n), .int (nI ww)]), (q, aI g 32 f)] (fun (r : Int32) (w' : va_W) => r = (nI (sumN (nu a) b n)) ∧ w' = [(h, ob 2 [.ref q, .int (nI n), .int (nI ww)]), (q, aI g 32 f)]) := by
  refine kI_of (cc := cX2_sum) (maxL := 5) (by decide) rfl (Nat.le_of_ble_eq_true rfl) ?_
  intro pp ee ss mm bel mth cd A ls C S hr hl
  obtain ⟨hx, hb, hml, hown, hts⟩ := id C.1
  have hl : lv_has ls 5 [(0, .ref h), (1, .int (nI a)), (2, .int (nI b))] := hl
  obtain ⟨H, hH⟩ : ∃ H, H = ss.heap := ⟨_, rfl⟩
  obtain ⟨locs, hL0⟩ : ∃ L : List Loc, L = [] := ⟨_, rfl⟩
  rw [← hH, ← hL0] at S ⊢
  refine lv_iconst (v := 0) hx hb dX2_sum_0 (by decide) ?_
  refine lv_istore_n (lv' := [(3, .int 0), (0, .ref h), (1, .int (nI a)), (2, .int (nI b))]) hx hb dX2_sum_1 rfl hl (by decide) rfl (fun ls hl => ?_)
  refine lv_iconst (v := 0) hx hb dX2_sum_2 (by decide) ?_
  refine lv_istore (lv' := [(4, .int 0), (3, .int 0), (0, .ref h), (1, .int (nI a)), (2, .int (nI b))]) hx hb dX2_sum_3 hl (by decide) rfl (fun ls hl => ?_)
  have loop5 : ∀ (N0 : Nat) (i : Nat) (x : Nat), n - i < N0 → (i ≤ n) → (x = sumN (nu a) b i) → ∀ (H : Heap) (locs : List Loc) (ls : Array Slot), ST g A ss H locs [(h, ob 2 [.ref q, .int (nI n), .int (nI ww)]), (q, aI g 32 f)] → lv_has ls 5 [(4, .int (nI i)), (3, .int (nI x)), (0, .ref h), (1, .int (nI a)), (2, .int (nI b))] → W pp l ee { frames := 1, cells := 0, slots := 0, locals := 22 } ss mm ([.ref h, .int (nI a), .int (nI b)] : List Value).toArray bel mth cd H locs 0 0 (QI bel ([.ref h, .int (nI a), .int (nI b)] : List Value).toArray ss g A (fun (r : Int32) (w' : va_W) => r = (nI (sumN (nu a) b n)) ∧ w' = [(h, ob 2 [.ref q, .int (nI n), .int (nI ww)]), (q, aI g 32 f)])) (F0 mm 5 ls []) := by
    intro N0
    induction N0 with
    | zero => intro i x hN; exact absurd hN (Nat.not_lt_zero _)
    | succ N0 ih5 =>
      intro i x hN hi hx1 H locs ls S hl
      refine lv_iload hx hb dX2_sum_5 (lv_at hl 0 rfl) ?_
      refine lv_aload_n hx hb dX2_sum_7 rfl (lv_at hl 2 rfl) ?_
      refine top_get C S inX2_sum_X2 rfl 0 rfl 1 (by decide) (by decide +kernel) rfl rfl dX2_sum_8 ?_
      refine bn_ige (tgt := 39) (a := i) (b := n) hx hb rfl rfl (by omega) (by omega) dX2_sum_11 (by decide) (fun c_1 => ?_) (fun c_1 => ?_)
      · -- 11 T
        refine lv_iload_n hx hb dX2_sum_39 rfl (lv_at hl 1 rfl) ?_
        exact ret_I C S hr dX2_sum_40 ⟨(by rw [hx1, show i = n by omega]), (rfl)⟩
      · -- 11 F
        refine lv_iload_n hx hb dX2_sum_14 rfl (lv_at hl 4 rfl) ?_
        refine lv_iload hx hb dX2_sum_15 (lv_at hl 0 rfl) ?_
        refine after_I (wc := []) (y := yX6_holds) C S (va_runSN (As := [.int (nI b), .int (nI i)]) (rest := []) C.1 (kX6_holds l g b i (by first | assumption | omega) (by first | assumption | omega) H.size) ⟨va_cnB 2 hts gX2_sum_X6_holds_n28 rfl rfl rfl (C.2.2.1.1.2 ("StackedLeaves$Leaves", 28, yX6_holds) (by decide +kernel)) (hts (.initialized RX6) (by decide +kernel)) (by decide +kernel) ⟨Nat.le_of_ble_eq_true rfl, Nat.le_of_ble_eq_true rfl⟩, hts (.static yX6_holds) (by decide +kernel), trivial⟩ (preS_at C S [] rfl (by decide)) rfl rfl hl.1 rfl (lv_room (Nat.le_of_ble_eq_true rfl)) dX2_sum_17 ⟨Nat.le_of_ble_eq_true rfl, Nat.le_of_ble_eq_true rfl⟩) [] [0, 1] rfl (wr := [(h, ob 2 [.ref q, .int (nI n), .int (nI ww)]), (q, aI g 32 f)]) rfl (by decide) (by decide) (fun r0 w0 H locs hq S => ?_)
        obtain ⟨rfl, rfl⟩ := hq
        have S : ST g A ss H locs [(h, ob 2 [.ref q, .int (nI n), .int (nI ww)]), (q, aI g 32 f)] := S
        refine br_eqB (tgt := 33) hx hb dX2_sum_20 (by decide) (fun c_2 => ?_) (fun c_2 => ?_)
        · -- 20 T
          refine lv_iinc (v := nI (i + 1)) (lv' := [(4, .int (nI (i + 1))), (3, .int (nI x)), (0, .ref h), (1, .int (nI a)), (2, .int (nI b))]) hx hb dX2_sum_33 hl (k := 0) rfl (nI_add _ _) (by decide) rfl (fun ls hl => ?_)
          refine lv_goto (tgt := 5) hx hb dX2_sum_36 (by decide) ?_
          exact ih5 (i + 1) x (by omega) (by first | assumption | omega) (by simp only [sumN, hx1, if_neg c_1, if_neg (Bool.eq_false_iff.mp c_2)]) H locs ls (ST.eq S (rfl)) (lv_sub hl [0, 1, 2, 3, 4] (rfl))
        · -- 20 F
          refine lv_iload_n hx hb dX2_sum_23 rfl (lv_at hl 1 rfl) ?_
          refine lv_aload_n hx hb dX2_sum_24 rfl (lv_at hl 2 rfl) ?_
          refine lv_iload_n hx hb dX2_sum_25 rfl (lv_at hl 3 rfl) ?_
          refine lv_iload hx hb dX2_sum_26 (lv_at hl 0 rfl) ?_
          refine after_I (wc := [(h, ob 2 [.ref q, .int (nI n), .int (nI ww)]), (q, aI g 32 f)]) (y := yX2_number) C S (va_runV (As := [.int (nI a), .int (nI i)]) (rest := [.int (nI x)]) C.1 (kX2_number l g h q f n ww a i (by first | assumption | omega) (by first | assumption | omega) H.size) (cwV 2 hts gX2_sum_X2_number rfl rfl rfl (by decide +kernel) ⟨Nat.le_of_ble_eq_true rfl, Nat.le_of_ble_eq_true rfl⟩) (preV_at C S 0 rfl rfl [0, 1] rfl (by decide)) rfl rfl hl.1 rfl (lv_room (Nat.le_of_ble_eq_true rfl)) dX2_sum_28 ⟨Nat.le_of_ble_eq_true rfl, Nat.le_of_ble_eq_true rfl⟩) [0, 1] [] rfl (wr := []) rfl (by decide) (by decide) (fun r0 w0 H locs hq S => ?_)
          obtain ⟨rfl, rfl⟩ := hq
          have S : ST g A ss H locs [(h, ob 2 [.ref q, .int (nI n), .int (nI ww)]), (q, aI g 32 f)] := S
          refine top_eq (y := nI (nu a i)) (hf _ _ ha (by omega)) ?_
          refine lv_iadd hx hb dX2_sum_31 ?_
          refine top_eq (y := nI (x + (nu a i))) (nI_add _ _) ?_
          refine lv_istore_n (lv' := [(3, .int (nI (x + (nu a i)))), (4, .int (nI i)), (0, .ref h), (1, .int (nI a)), (2, .int (nI b))]) hx hb dX2_sum_32 rfl hl (by decide) rfl (fun ls hl => ?_)
          refine lv_iinc (v := nI (i + 1)) (lv' := [(4, .int (nI (i + 1))), (3, .int (nI (x + (nu a i)))), (0, .ref h), (1, .int (nI a)), (2, .int (nI b))]) hx hb dX2_sum_33 hl (k := 1) rfl (nI_add _ _) (by decide) rfl (fun ls hl => ?_)
          refine lv_goto (tgt := 5) hx hb dX2_sum_36 (by decide) ?_
          exact ih5 (i + 1) (x + (nu a i)) (by omega) (by first | assumption | omega) (by simp only [sumN, hx1, if_neg c_1, if_pos c_2]) H locs ls (ST.eq S (rfl)) (lv_sub hl [0, 1, 2, 3, 4] (rfl))
  exact loop5 _ 0 0 (Nat.lt_succ_self _) (by first | assumption | omega) (rfl) H locs ls (ST.eq S (rfl)) (lv_sub hl [0, 1, 2, 3, 4] (rfl))

theorem inX2_become_X2 : ∀ w ∈ wsX20, w ∈ wsX2_become := by decide +kernel
set_option maxRecDepth 100000 in
set_option maxHeartbeats 4000000 in
theorem kX2_become (l : Launch) (g : GG) (h : Nat) (q : Nat) (f : Nat → Int32) (n : Nat) (ww : Nat) (h2 : Nat) (q2 : Nat) (f2 : Nat → Int32) (n2 : Nat) (ww2 : Nat)  : KV l g yX2_become wsX2_become 1 64 [.ref h, .ref h2] [(h, ob 2 [.ref q, .int (nI n), .int (nI ww)]), (q, aI g 32 f), (h2, ob 2 [.ref q2, .int (nI n2), .int (nI ww2)]), (q2, aI g 32 f2)] (fun (w' : va_W) => ∃ (f' : Nat → Int32), (∀ j, j < 32 → f' j = f2 j) ∧ w' = [(h, ob 2 [.ref q, .int (nI n2), .int (nI ww2)]), (q, aI g 32 f'), (h2, ob 2 [.ref q2, .int (nI n2), .int (nI ww2)]), (q2, aI g 32 f2)]) := by
  refine kV_of (cc := cX2_become) (maxL := 2) (by decide) rfl (Nat.le_of_ble_eq_true rfl) ?_
  intro pp ee ss mm bel mth cd A ls C S hr hl
  obtain ⟨hx, hb, hml, hown, hts⟩ := id C.1
  have hl : lv_has ls 2 [(0, .ref h), (1, .ref h2)] := hl
  obtain ⟨H, hH⟩ : ∃ H, H = ss.heap := ⟨_, rfl⟩
  obtain ⟨locs, hL0⟩ : ∃ L : List Loc, L = [] := ⟨_, rfl⟩
  rw [← hH, ← hL0] at S ⊢
  refine lv_aload_n hx hb dX2_become_0 rfl (lv_at hl 1 rfl) ?_
  refine top_get C S inX2_become_X2 rfl 2 rfl 0 (by decide) (by decide +kernel) rfl rfl dX2_become_1 ?_
  refine lv_iconst (v := 0) hx hb dX2_become_4 (by decide) ?_
  refine lv_aload_n hx hb dX2_become_5 rfl (lv_at hl 0 rfl) ?_
  refine top_get C S inX2_become_X2 rfl 0 rfl 0 (by decide) (by decide +kernel) rfl rfl dX2_become_6 ?_
  refine lv_iconst (v := 0) hx hb dX2_become_9 (by decide) ?_
  refine lv_bipush (v := 32) hx hb dX2_become_10 (by decide) ?_
  refine va_copyi hx hb (hml.trans hl.1.symm) hown (hts (.methodLink RX2 22 arraycopyName) (by decide +kernel)) (hts (.native arraycopyName) (by decide +kernel)) (hts (.static arraycopyName) (by decide +kernel)) (hts (.initialized "java/lang/System") (by decide +kernel)) C.2.1 S.1 S.2.1 S.2.2 3 1 1 1 rfl rfl rfl rfl rfl (by decide) (by decide) (by decide) (by decide) (by decide) (fun _ _ => rfl) (Nat.le_of_ble_eq_true rfl) (by decide) dX2_become_12 (fun H locs hP hD hS => ?_)
  have S : ST g A ss H locs [(h, ob 2 [.ref q, .int (nI n), .int (nI ww)]), (q, aI g 32 (va_cpy f2 f 0 0 32)), (h2, ob 2 [.ref q2, .int (nI n2), .int (nI ww2)]), (q2, aI g 32 f2)] := ⟨hP, hD, hS⟩
  refine lv_aload_n hx hb dX2_become_15 rfl (lv_at hl 0 rfl) ?_
  refine lv_aload_n hx hb dX2_become_16 rfl (lv_at hl 1 rfl) ?_
  refine top_get C S inX2_become_X2 rfl 2 rfl 1 (by decide) (by decide +kernel) rfl rfl dX2_become_17 ?_
  refine top_put (ty := .int) C S inX2_become_X2 tyX2 tyX2_ok nmX2 rfl 0 rfl 1 (by decide) (by decide +kernel) rfl rfl (tyX2_ok 1 (by decide)) rfl rfl (Nat.le_of_ble_eq_true rfl) dX2_become_20 (fun H locs S => ?_)
  have S : ST g A ss H locs [(h, ob 2 [.ref q, .int (nI n2), .int (nI ww)]), (q, aI g 32 (va_cpy f2 f 0 0 32)), (h2, ob 2 [.ref q2, .int (nI n2), .int (nI ww2)]), (q2, aI g 32 f2)] := S
  refine lv_aload_n hx hb dX2_become_23 rfl (lv_at hl 0 rfl) ?_
  refine lv_aload_n hx hb dX2_become_24 rfl (lv_at hl 1 rfl) ?_
  refine top_get C S inX2_become_X2 rfl 2 rfl 2 (by decide) (by decide +kernel) rfl rfl dX2_become_25 ?_
  refine top_put (ty := .int) C S inX2_become_X2 tyX2 tyX2_ok nmX2 rfl 0 rfl 2 (by decide) (by decide +kernel) rfl rfl (tyX2_ok 2 (by decide)) rfl rfl (Nat.le_of_ble_eq_true rfl) dX2_become_28 (fun H locs S => ?_)
  have S : ST g A ss H locs [(h, ob 2 [.ref q, .int (nI n2), .int (nI ww2)]), (q, aI g 32 (va_cpy f2 f 0 0 32)), (h2, ob 2 [.ref q2, .int (nI n2), .int (nI ww2)]), (q2, aI g 32 f2)] := S
  exact ret_V C S hr dX2_become_31 ⟨(va_cpy f2 f 0 0 32), (fun j hj => sb_cpy0 hj), (by first | rfl | simp only [])⟩
end
section
/-! the pack's mathematics: reach, bend, what is borne, what breaks -/
def nipN (ca : Nat → Nat) (o : Option Nat) (b : Nat) : Nat := match o with
  | none => 0
  | some j => ca j - ca b
def rs (ca : Nat → Nat) (M : Nat) : Nat → Option Nat × Nat
  | 0 => (none, 0)
  | i + 1 => if M.testBit i = true then (some i, (rs ca M i).2 + nipN ca (rs ca M i).1 i) else rs ca M i
def RC (ca : Nat → Nat) (M j : Nat) : Nat := (rs ca M (j + 1)).2
theorem rs_lt {ca : Nat → Nat} {M : Nat} : ∀ i j : Nat, (rs ca M i).1 = some j → j < i := by
  intro i
  induction i with
  | zero => intro j h; simp [rs] at h
  | succ i ih =>
    intro j h
    simp only [rs] at h
    split at h
    · simp at h; omega
    · have := ih j h; omega
theorem rs_le {ca : Nat → Nat} {M n : Nat} (hc : ∀ i, i < n → ca i ≤ 30) : ∀ i, i ≤ n → (rs ca M i).2 ≤ 30 * i := by
  intro i
  induction i with
  | zero => intro _; simp [rs]
  | succ i ih =>
    intro hi
    have h1 := ih (by omega)
    simp only [rs]
    split
    · show (rs ca M i).2 + nipN ca (rs ca M i).1 i ≤ _
      have : nipN ca (rs ca M i).1 i ≤ 30 := by
        cases h : (rs ca M i).1 with
        | none => simp [nipN]
        | some j =>
          have hj := rs_lt i j h
          have := hc j (by omega)
          simp only [nipN]; omega
      omega
    · omega
theorem rs_mono {ca : Nat → Nat} {M : Nat} : ∀ i, (rs ca M i).2 ≤ (rs ca M (i + 1)).2 := by
  intro i
  show _ ≤ (if M.testBit i = true then (some i, (rs ca M i).2 + nipN ca (rs ca M i).1 i) else rs ca M i).2
  split
  · show (rs ca M i).2 ≤ (rs ca M i).2 + _; omega
  · omega
theorem RC_mono {ca : Nat → Nat} {M : Nat} : ∀ k i, RC ca M i ≤ RC ca M (i + k) := by
  intro k
  induction k with
  | zero => intro i; exact Nat.le_refl _
  | succ k ih => intro i; exact Nat.le_trans (ih i) (rs_mono (i + k + 1))
theorem RC_le {ca : Nat → Nat} {M n : Nat} (hn : n ≤ 8) (hc : ∀ i, i < n → ca i ≤ 30) : ∀ i, i < n → RC ca M i ≤ 240 := by
  intro i hi
  have := rs_le (M := M) hc (i + 1) (by omega)
  show (rs ca M (i + 1)).2 ≤ 240
  omega
def pr (st R : Nat → Nat) (b p : Nat) : Nat → Nat × Nat
  | 0 => (0, 0)
  | i + 1 => if b.testBit i = true then (if p + (pr st R b p i).2 ≤ (pr st R b p i).1 * R i then pr st R b p i else ((pr st R b p i).1 + st i, (pr st R b p i).2 + st i * R i)) else pr st R b p i
theorem pr_le {st R : Nat → Nat} {b p n : Nat} (hS : ∀ i, i < n → st i ≤ 9) (hR : ∀ i, i < n → R i ≤ 240) : ∀ i, i ≤ n → (pr st R b p i).1 ≤ 9 * i ∧ (pr st R b p i).2 ≤ 2160 * i := by
  intro i
  induction i with
  | zero => intro _; simp [pr]
  | succ i ih =>
    intro hi
    obtain ⟨h1, h2⟩ := ih (by omega)
    have a1 := hS i (by omega)
    have a2 := hR i (by omega)
    have a3 : st i * R i ≤ 9 * 240 := Nat.mul_le_mul a1 a2
    simp only [pr]
    split
    · split
      · exact ⟨by omega, by omega⟩
      · exact ⟨by show _ + st i ≤ _; omega, by show _ + st i * R i ≤ _; omega⟩
    · exact ⟨by omega, by omega⟩
def lowN (st R : Nat → Nat) (b p n : Nat) : Nat := if p = 0 then 1 else (pr st R b p n).1
def uppN (st R : Nat → Nat) (b p n : Nat) : Nat := p + (pr st R b p n).2
theorem low_le {st R : Nat → Nat} {b p n : Nat} (hn : n ≤ 8) (hS : ∀ i, i < n → st i ≤ 9) (hR : ∀ i, i < n → R i ≤ 240) : lowN st R b p n ≤ 72 := by
  have := (pr_le (b := b) (p := p) hS hR n (Nat.le_refl n)).1
  unfold lowN; split <;> omega
theorem upp_le {st R : Nat → Nat} {b p n : Nat} (hn : n ≤ 8) (hp : p ≤ 999) (hS : ∀ i, i < n → st i ≤ 9) (hR : ∀ i, i < n → R i ≤ 240) : uppN st R b p n ≤ 20000 := by
  have := (pr_le (b := b) (p := p) hS hR n (Nat.le_refl n)).2
  unfold uppN; omega
def cutI (U L : Nat) : Int32 := if L ≤ 0 then (-9) else nI (U / L)
def boN (st R : Nat → Nat) (b U L j : Nat) : Nat := if b.testBit j = true then st j * (U - R j * L) else 0
theorem bo_le {st R : Nat → Nat} {b U L j : Nat} (hU : U ≤ 20000) (hS : st j ≤ 9) : boN st R b U L j ≤ 180000 := by
  unfold boN
  split
  · have : st j * (U - R j * L) ≤ 9 * 20000 := Nat.mul_le_mul hS (by omega)
    omega
  · omega
def fbk (bo tl : Nat → Nat) : Nat → Option Nat × Nat
  | 0 => (none, 0)
  | i + 1 => if (fbk bo tl i).2 + tl i < bo i then (some i, bo i - tl i) else fbk bo tl i
theorem fbk_lt {bo tl : Nat → Nat} : ∀ i j : Nat, (fbk bo tl i).1 = some j → j < i := by
  intro i
  induction i with
  | zero => intro j h; simp [fbk] at h
  | succ i ih =>
    intro j h
    simp only [fbk] at h
    split at h
    · simp at h; omega
    · have := ih j h; omega
theorem fbk_le {bo tl : Nat → Nat} {K : Nat} (h : ∀ i, bo i ≤ K) : ∀ i, (fbk bo tl i).2 ≤ K := by
  intro i
  induction i with
  | zero => simp [fbk]
  | succ i ih =>
    simp only [fbk]
    split
    · show bo i - tl i ≤ K; have := h i; omega
    · exact ih
/-- which leaf breaks first by p -/
def fb (st R sg : Nat → Nat) (n p b : Nat) : Option Nat := if 0 < lowN st R b p n then (fbk (fun j => boN st R b (uppN st R b p n) (lowN st R b p n) j) (fun j => sg j * lowN st R b p n) n).1 else none
theorem fb_lt {st R sg : Nat → Nat} {n p b j : Nat} (h : fb st R sg n p b = some j) : j < n := by
  unfold fb at h
  split at h
  · exact fbk_lt n j h
  · cases h
def wa (fbb : Nat → Option Nat) : Nat → Nat → Nat
  | 0, b => b
  | k + 1, b => match fbb b with
    | none => b
    | some j => wa fbb k (clr b j)
theorem wa_none {fbb : Nat → Option Nat} {k b : Nat} (h : fbb b = none) : wa fbb k b = b := by
  cases k with
  | zero => rfl
  | succ k => simp only [wa, h]
theorem wa_some {fbb : Nat → Option Nat} {k b j : Nat} (h : fbb b = some j) : wa fbb (k + 1) b = wa fbb k (clr b j) := by
  simp only [wa, h]
def laN (st R : Nat → Nat) (b d : Nat) : Nat → Nat
  | 0 => 0
  | i + 1 => if b.testBit i = true then laN st R b d i + st i * (d - R i) else laN st R b d i
theorem la_le {st R : Nat → Nat} {b d n : Nat} (hd : d ≤ 240) (hS : ∀ i, i < n → st i ≤ 9) : ∀ i, i ≤ n → laN st R b d i ≤ 2160 * i := by
  intro i
  induction i with
  | zero => intro _; simp [laN]
  | succ i ih =>
    intro hi
    have h1 := ih (by omega)
    have a1 := hS i (by omega)
    have a3 : st i * (d - R i) ≤ 9 * 240 := Nat.mul_le_mul a1 (by omega)
    simp only [laN]
    split <;> omega
theorem upd_lt {f : Nat → Int32} {P : Nat → Nat} {i : Nat} {v : Int32} (h : ∀ j, j < i → f j = nI (P j)) (hv : v = nI (P i)) (j : Nat) (hj : j < i + 1) : upd f i v j = nI (P j) := by
  by_cases e : j = i
  · subst e; rw [pk_us]; exact hv
  · rw [pk_un e]; exact h j (by omega)
theorem sub_le_N {a b p : Nat} (ha : a < 2 ^ 30) (hb : b < 2 ^ 30) (hp : p < 2 ^ 30) : nI a - nI b ≤ nI p ↔ a ≤ p + b := by
  rw [Int32.le_iff_toInt_le, pk_sub_toInt ha hb, nI_toInt (by omega)]
  omega
theorem oI_neg {o : Option Nat} (h : ∀ j, o = some j → j < 2 ^ 31) (c : oI o < 0) : o = none := by
  cases o with
  | none => rfl
  | some j => exact absurd c (nI_pos (h j rfl))
theorem oI_pos {o : Option Nat} (c : ¬ oI o < 0) : ∃ j, o = some j := by
  cases o with
  | none => exact absurd (show oI none < 0 by decide) c
  | some j => exact ⟨j, rfl⟩
theorem oI_neg' {o : Option Nat} (h : ∀ j, o = some j → j < 2 ^ 31) (c : ¬ 0 ≤ oI o) : o = none := by
  cases o with
  | none => rfl
  | some j => exact absurd (nI_pos' (h j rfl)) c
theorem oI_pos' {o : Option Nat} (c : 0 ≤ oI o) : ∃ j, o = some j := by
  cases o with
  | none => exact absurd c (show ¬ 0 ≤ oI none by decide)
  | some j => exact ⟨j, rfl⟩
def lstN (T : Nat → Option Nat) : Nat → Nat → Nat
  | 0, p => p
  | k + 1, p => match T p with
    | none => lstN T k (p + 1)
    | some _ => p
theorem lst_eq {T : Nat → Option Nat} : ∀ (k p L : Nat), p ≤ L → L ≤ p + k → (∀ q, p ≤ q → q < L → T q = none) → (L < p + k → T L ≠ none) → L = lstN T k p := by
  intro k
  induction k with
  | zero => intro p L h1 h2 _ _; simp only [lstN]; omega
  | succ k ih =>
    intro p L h1 h2 h3 h4
    simp only [lstN]
    cases e : T p with
    | none =>
      refine ih (p + 1) L ?_ (by omega) (fun q a b => h3 q (by omega) b) (fun a => h4 (by omega))
      rcases Nat.lt_or_ge p L with h | h
      · exact h
      · exact absurd (show T L = none by rw [show L = p by omega]; exact e) (h4 (by omega))
    | some j =>
      show L = p
      rcases Nat.lt_or_ge p L with h | h
      · have := h3 p (Nat.le_refl p) h; rw [e] at this; cases this
      · omega
def bwN (st R sg : Nat → Nat) (n p d b : Nat) : Bool := if 0 < lowN st R b p n then (if d * lowN st R b p n < uppN st R b p n then false else (fb st R sg n p b).isNone) else false
end
section
theorem bc_d : ∀ W, W < 512 → sJ6_bitCount_0f7a4a (nI W) = nI (pop W) := by decide +kernel
theorem kJ6_bitCount_0f7a4 (l : Launch) (g : GG) (ww : Nat) (hw : ww < 512) : KI l g yJ6_bitCount_0f7a4 wsJ6_bitCount_0f7a4 0 0 [.int (nI ww)] [] (fun (r : Int32) (w' : va_W) => r = nI (pop ww) ∧ w' = []) := by
  have h := kJ6_bitCount_0f7a4a l g (nI ww)
  rw [bc_d ww hw] at h
  exact h

theorem inX3_stack_X2 : ∀ w ∈ wsX20, w ∈ wsX3_stack := by decide +kernel
theorem inX3_stack_X3 : ∀ w ∈ wsX30, w ∈ wsX3_stack := by decide +kernel
set_option maxRecDepth 100000 in
set_option maxHeartbeats 4000000 in
/-- the leaves M laid on one another -/
theorem kX3_stack (l : Launch) (g : GG) (P : Nat) (ra : Nat) (sa : Nat) (ta : Nat) (rf : Nat → Int32) (sf : Nat → Int32) (tf : Nat → Int32) (p1 : Int32) (p2 : Int32) (p3 : Int32) (p4 : Int32) (p5 : Int32) (h : Nat) (q : Nat) (f : Nat → Int32) (n : Nat) (ww : Nat) (nu : Nat → Nat → Nat) (M : Nat) (Wh : Nat) (hn : n ≤ 8) (hM : M < 512) (hWh : Wh < 512) (hf : ∀ a i, a < 4 → i < n → f (a * 8 + i) = nI (nu a i)) (hca : ∀ i, i < n → nu 2 i ≤ 30) : KV l g yX3_stack wsX3_stack 2 44 [.ref P, .ref h, .int (nI M), .int (nI Wh)] [(P, ob 3 [.ref ra, .ref sa, .ref ta, .int p1, .int p2, .int p3, .int p4, .int p5]), (ra, aI g 8 rf), (sa, aI g 8 sf), (ta, aI g 8 tf), (h, ob 2 [.ref q, .int (nI n), .int (nI ww)]), (q, aI g 32 f)] (fun (w' : va_W) => ∃ (rf' : Nat → Int32), ∃ (sf' : Nat → Int32), ∃ (tf' : Nat → Int32), (∀ j, j < n → rf' j = nI (RC (nu 2) M j)) ∧ (∀ j, j < n → sf' j = nI (nu 1 j)) ∧ (∀ j, j < n → tf' j = nI (nu 3 j)) ∧ w' = [(P, ob 3 [.ref ra, .ref sa, .ref ta, .int (nI n), .int (nI (M &&& Wh)), .int p3, .int p4, .int p5]), (ra, aI g 8 rf'), (sa, aI g 8 sf'), (ta, aI g 8 tf'), (h, ob 2 [.ref q, .int (nI n), .int (nI ww)]), (q, aI g 32 f)]) := by
  refine kV_of (cc := cX3_stack) (maxL := 7) (by decide) rfl (Nat.le_of_ble_eq_true rfl) ?_
  intro pp ee ss mm bel mth cd A ls C S hr hl
  obtain ⟨hx, hb, hml, hown, hts⟩ := id C.1
  have hl : lv_has ls 7 [(0, .ref P), (1, .ref h), (2, .int (nI M)), (3, .int (nI Wh))] := hl
  obtain ⟨H, hH⟩ : ∃ H, H = ss.heap := ⟨_, rfl⟩
  obtain ⟨locs, hL0⟩ : ∃ L : List Loc, L = [] := ⟨_, rfl⟩
  rw [← hH, ← hL0] at S ⊢
  refine lv_aload_n hx hb dX3_stack_0 rfl (lv_at hl 0 rfl) ?_
  refine lv_aload_n hx hb dX3_stack_1 rfl (lv_at hl 1 rfl) ?_
  refine top_getN C S inX3_stack_X2 rfl 4 rfl 1 (by decide) (by decide +kernel) rfl dX3_stack_2 ?_
  refine top_put (ty := .int) C S inX3_stack_X3 tyX3 tyX3_ok nmX3 rfl 0 rfl 3 (by decide) (by decide +kernel) rfl rfl (tyX3_ok 3 (by decide)) rfl rfl (Nat.le_of_ble_eq_true rfl) dX3_stack_5 (fun H locs S => ?_)
  have S : ST g A ss H locs [(P, ob 3 [.ref ra, .ref sa, .ref ta, .int (nI n), .int p2, .int p3, .int p4, .int p5]), (ra, aI g 8 rf), (sa, aI g 8 sf), (ta, aI g 8 tf), (h, ob 2 [.ref q, .int (nI n), .int (nI ww)]), (q, aI g 32 f)] := S
  refine lv_aload_n hx hb dX3_stack_8 rfl (lv_at hl 0 rfl) ?_
  refine lv_iload_n hx hb dX3_stack_9 rfl (lv_at hl 2 rfl) ?_
  refine lv_iload_n hx hb dX3_stack_10 rfl (lv_at hl 3 rfl) ?_
  refine lv_iand hx hb dX3_stack_11 ?_
  refine top_eq (y := nI (M &&& Wh)) (fa_and _ _) ?_
  refine top_put (ty := .int) C S inX3_stack_X3 tyX3 tyX3_ok nmX3 rfl 0 rfl 4 (by decide) (by decide +kernel) rfl rfl (tyX3_ok 4 (by decide)) rfl rfl (Nat.le_of_ble_eq_true rfl) dX3_stack_12 (fun H locs S => ?_)
  have S : ST g A ss H locs [(P, ob 3 [.ref ra, .ref sa, .ref ta, .int (nI n), .int (nI (M &&& Wh)), .int p3, .int p4, .int p5]), (ra, aI g 8 rf), (sa, aI g 8 sf), (ta, aI g 8 tf), (h, ob 2 [.ref q, .int (nI n), .int (nI ww)]), (q, aI g 32 f)] := S
  refine lv_iconst (v := (-1)) hx hb dX3_stack_15 (by decide) ?_
  refine lv_istore (lv' := [(4, .int (-1)), (0, .ref P), (1, .ref h), (2, .int (nI M)), (3, .int (nI Wh))]) hx hb dX3_stack_16 hl (by decide) rfl (fun ls hl => ?_)
  refine lv_iconst (v := 0) hx hb dX3_stack_18 (by decide) ?_
  refine lv_istore (lv' := [(5, .int 0), (4, .int (-1)), (0, .ref P), (1, .ref h), (2, .int (nI M)), (3, .int (nI Wh))]) hx hb dX3_stack_19 hl (by decide) rfl (fun ls hl => ?_)
  refine lv_iconst (v := 0) hx hb dX3_stack_21 (by decide) ?_
  refine lv_istore (lv' := [(6, .int 0), (5, .int 0), (4, .int (-1)), (0, .ref P), (1, .ref h), (2, .int (nI M)), (3, .int (nI Wh))]) hx hb dX3_stack_22 hl (by decide) rfl (fun ls hl => ?_)
  have loop24 : ∀ (N0 : Nat) (i : Nat) (x : Nat) (o : Option Nat) (r1 : Nat → Int32) (s1 : Nat → Int32) (t1 : Nat → Int32), n - i < N0 → (i ≤ n) → (rs (nu 2) M i = (o, x)) → (∀ j, j < i → r1 j = nI (RC (nu 2) M j)) → (∀ j, j < i → s1 j = nI (nu 1 j)) → (∀ j, j < i → t1 j = nI (nu 3 j)) → ∀ (H : Heap) (locs : List Loc) (ls : Array Slot), ST g A ss H locs [(P, ob 3 [.ref ra, .ref sa, .ref ta, .int (nI n), .int (nI (M &&& Wh)), .int p3, .int p4, .int p5]), (ra, aI g 8 r1), (sa, aI g 8 s1), (ta, aI g 8 t1), (h, ob 2 [.ref q, .int (nI n), .int (nI ww)]), (q, aI g 32 f)] → lv_has ls 7 [(6, .int (nI i)), (5, .int (nI x)), (4, .int (oI o)), (0, .ref P), (1, .ref h), (2, .int (nI M)), (3, .int (nI Wh))] → W pp l ee { frames := 2, cells := 0, slots := 0, locals := 44 } ss mm ([.ref P, .ref h, .int (nI M), .int (nI Wh)] : List Value).toArray bel mth cd H locs 0 0 (QV bel ([.ref P, .ref h, .int (nI M), .int (nI Wh)] : List Value).toArray ss g A (fun (w' : va_W) => ∃ (rf' : Nat → Int32), ∃ (sf' : Nat → Int32), ∃ (tf' : Nat → Int32), (∀ j, j < n → rf' j = nI (RC (nu 2) M j)) ∧ (∀ j, j < n → sf' j = nI (nu 1 j)) ∧ (∀ j, j < n → tf' j = nI (nu 3 j)) ∧ w' = [(P, ob 3 [.ref ra, .ref sa, .ref ta, .int (nI n), .int (nI (M &&& Wh)), .int p3, .int p4, .int p5]), (ra, aI g 8 rf'), (sa, aI g 8 sf'), (ta, aI g 8 tf'), (h, ob 2 [.ref q, .int (nI n), .int (nI ww)]), (q, aI g 32 f)])) (F0 mm 24 ls []) := by
    intro N0
    induction N0 with
    | zero => intro i x o r1 s1 t1 hN; exact absurd hN (Nat.not_lt_zero _)
    | succ N0 ih24 =>
      intro i x o r1 s1 t1 hN hi ho hR0 hS0 hT0 H locs ls S hl
      refine lv_iload hx hb dX3_stack_24 (lv_at hl 0 rfl) ?_
      refine lv_aload_n hx hb dX3_stack_26 rfl (lv_at hl 3 rfl) ?_
      refine top_get C S inX3_stack_X3 rfl 0 rfl 3 (by decide) (by decide +kernel) rfl rfl dX3_stack_27 ?_
      refine bn_ige (tgt := 102) (a := i) (b := n) hx hb rfl rfl (by omega) (by omega) dX3_stack_30 (by decide) (fun c_1 => ?_) (fun c_1 => ?_)
      · -- 30 T
        exact ret_V C S hr dX3_stack_102 ⟨r1, s1, t1, (fun j hj => hR0 j (by omega)), (fun j hj => hS0 j (by omega)), (fun j hj => hT0 j (by omega)), (by first | rfl | simp only [if_pos c_1])⟩
      · -- 30 F
        refine lv_iload_n hx hb dX3_stack_33 rfl (lv_at hl 5 rfl) ?_
        refine lv_iload hx hb dX3_stack_34 (lv_at hl 0 rfl) ?_
        refine after_I (wc := []) (y := yX6_holds) C S (va_runSN (As := [.int (nI M), .int (nI i)]) (rest := []) C.1 (kX6_holds l g M i (by first | assumption | omega) (by first | assumption | omega) H.size) ⟨va_cnB 2 hts gX3_stack_X6_holds_n31 rfl rfl rfl (C.2.2.1.1.2 ("StackedLeaves$Pack", 31, yX6_holds) (by decide +kernel)) (hts (.initialized RX6) (by decide +kernel)) (by decide +kernel) ⟨Nat.le_of_ble_eq_true rfl, Nat.le_of_ble_eq_true rfl⟩, hts (.static yX6_holds) (by decide +kernel), trivial⟩ (preS_at C S [] rfl (by decide)) rfl rfl hl.1 rfl (lv_room (Nat.le_of_ble_eq_true rfl)) dX3_stack_36 ⟨Nat.le_of_ble_eq_true rfl, Nat.le_of_ble_eq_true rfl⟩) [] [0, 1, 2, 3, 4, 5] rfl (wr := [(P, ob 3 [.ref ra, .ref sa, .ref ta, .int (nI n), .int (nI (M &&& Wh)), .int p3, .int p4, .int p5]), (ra, aI g 8 r1), (sa, aI g 8 s1), (ta, aI g 8 t1), (h, ob 2 [.ref q, .int (nI n), .int (nI ww)]), (q, aI g 32 f)]) rfl (by decide) (by decide) (fun r0 w0 H locs hq S => ?_)
        obtain ⟨rfl, rfl⟩ := hq
        have S : ST g A ss H locs [(P, ob 3 [.ref ra, .ref sa, .ref ta, .int (nI n), .int (nI (M &&& Wh)), .int p3, .int p4, .int p5]), (ra, aI g 8 r1), (sa, aI g 8 s1), (ta, aI g 8 t1), (h, ob 2 [.ref q, .int (nI n), .int (nI ww)]), (q, aI g 32 f)] := S
        refine br_eqB (tgt := 59) hx hb dX3_stack_39 (by decide) (fun c_2 => ?_) (fun c_2 => ?_)
        · -- 39 T
          refine lv_aload_n hx hb dX3_stack_59 rfl (lv_at hl 3 rfl) ?_
          refine top_get C S inX3_stack_X3 rfl 0 rfl 0 (by decide) (by decide +kernel) rfl rfl dX3_stack_60 ?_
          refine lv_iload hx hb dX3_stack_63 (lv_at hl 0 rfl) ?_
          refine lv_iload hx hb dX3_stack_65 (lv_at hl 1 rfl) ?_
          refine top_ist C S 1 rfl (j := i) rfl (by omega) (by decide) dX3_stack_67 (fun H locs S => ?_)
          have S : ST g A ss H locs [(P, ob 3 [.ref ra, .ref sa, .ref ta, .int (nI n), .int (nI (M &&& Wh)), .int p3, .int p4, .int p5]), (ra, aI g 8 (upd r1 i (nI x))), (sa, aI g 8 s1), (ta, aI g 8 t1), (h, ob 2 [.ref q, .int (nI n), .int (nI ww)]), (q, aI g 32 f)] := S
          refine lv_aload_n hx hb dX3_stack_68 rfl (lv_at hl 3 rfl) ?_
          refine top_get C S inX3_stack_X3 rfl 0 rfl 1 (by decide) (by decide +kernel) rfl rfl dX3_stack_69 ?_
          refine lv_iload hx hb dX3_stack_72 (lv_at hl 0 rfl) ?_
          refine lv_aload_n hx hb dX3_stack_74 rfl (lv_at hl 4 rfl) ?_
          refine lv_iconst (v := 1) hx hb dX3_stack_75 (by decide) ?_
          refine lv_iload hx hb dX3_stack_76 (lv_at hl 0 rfl) ?_
          refine after_I (wc := [(h, ob 2 [.ref q, .int (nI n), .int (nI ww)]), (q, aI g 32 f)]) (y := yX2_number) C S (va_runV (As := [.int 1, .int (nI i)]) (rest := [.int (nI i), .ref sa]) C.1 (kX2_number l g h q f n ww 1 i (by first | assumption | omega) (by first | assumption | omega) H.size) (cwV 2 hts gX3_stack_X2_number rfl rfl rfl (by decide +kernel) ⟨Nat.le_of_ble_eq_true rfl, Nat.le_of_ble_eq_true rfl⟩) (preV_at C S 4 rfl rfl [4, 5] rfl (by decide)) rfl rfl hl.1 rfl (lv_room (Nat.le_of_ble_eq_true rfl)) dX3_stack_78 ⟨Nat.le_of_ble_eq_true rfl, Nat.le_of_ble_eq_true rfl⟩) [4, 5] [0, 1, 2, 3] rfl (wr := [(P, ob 3 [.ref ra, .ref sa, .ref ta, .int (nI n), .int (nI (M &&& Wh)), .int p3, .int p4, .int p5]), (ra, aI g 8 (upd r1 i (nI x))), (sa, aI g 8 s1), (ta, aI g 8 t1)]) rfl (by decide) (by decide) (fun r0 w0 H locs hq S => ?_)
          obtain ⟨rfl, rfl⟩ := hq
          have S : ST g A ss H locs [(P, ob 3 [.ref ra, .ref sa, .ref ta, .int (nI n), .int (nI (M &&& Wh)), .int p3, .int p4, .int p5]), (ra, aI g 8 (upd r1 i (nI x))), (sa, aI g 8 s1), (ta, aI g 8 t1), (h, ob 2 [.ref q, .int (nI n), .int (nI ww)]), (q, aI g 32 f)] := S
          refine top_eq (y := nI (nu 1 i)) (hf _ _ (by omega) (by omega)) ?_
          refine top_ist C S 2 rfl (j := i) rfl (by omega) (by decide) dX3_stack_81 (fun H locs S => ?_)
          have S : ST g A ss H locs [(P, ob 3 [.ref ra, .ref sa, .ref ta, .int (nI n), .int (nI (M &&& Wh)), .int p3, .int p4, .int p5]), (ra, aI g 8 (upd r1 i (nI x))), (sa, aI g 8 (upd s1 i (nI (nu 1 i)))), (ta, aI g 8 t1), (h, ob 2 [.ref q, .int (nI n), .int (nI ww)]), (q, aI g 32 f)] := S
          refine lv_aload_n hx hb dX3_stack_82 rfl (lv_at hl 3 rfl) ?_
          refine top_get C S inX3_stack_X3 rfl 0 rfl 2 (by decide) (by decide +kernel) rfl rfl dX3_stack_83 ?_
          refine lv_iload hx hb dX3_stack_86 (lv_at hl 0 rfl) ?_
          refine lv_aload_n hx hb dX3_stack_88 rfl (lv_at hl 4 rfl) ?_
          refine lv_iconst (v := 3) hx hb dX3_stack_89 (by decide) ?_
          refine lv_iload hx hb dX3_stack_90 (lv_at hl 0 rfl) ?_
          refine after_I (wc := [(h, ob 2 [.ref q, .int (nI n), .int (nI ww)]), (q, aI g 32 f)]) (y := yX2_number) C S (va_runV (As := [.int 3, .int (nI i)]) (rest := [.int (nI i), .ref ta]) C.1 (kX2_number l g h q f n ww 3 i (by first | assumption | omega) (by first | assumption | omega) H.size) (cwV 2 hts gX3_stack_X2_number rfl rfl rfl (by decide +kernel) ⟨Nat.le_of_ble_eq_true rfl, Nat.le_of_ble_eq_true rfl⟩) (preV_at C S 4 rfl rfl [4, 5] rfl (by decide)) rfl rfl hl.1 rfl (lv_room (Nat.le_of_ble_eq_true rfl)) dX3_stack_92 ⟨Nat.le_of_ble_eq_true rfl, Nat.le_of_ble_eq_true rfl⟩) [4, 5] [0, 1, 2, 3] rfl (wr := [(P, ob 3 [.ref ra, .ref sa, .ref ta, .int (nI n), .int (nI (M &&& Wh)), .int p3, .int p4, .int p5]), (ra, aI g 8 (upd r1 i (nI x))), (sa, aI g 8 (upd s1 i (nI (nu 1 i)))), (ta, aI g 8 t1)]) rfl (by decide) (by decide) (fun r0 w0 H locs hq S => ?_)
          obtain ⟨rfl, rfl⟩ := hq
          have S : ST g A ss H locs [(P, ob 3 [.ref ra, .ref sa, .ref ta, .int (nI n), .int (nI (M &&& Wh)), .int p3, .int p4, .int p5]), (ra, aI g 8 (upd r1 i (nI x))), (sa, aI g 8 (upd s1 i (nI (nu 1 i)))), (ta, aI g 8 t1), (h, ob 2 [.ref q, .int (nI n), .int (nI ww)]), (q, aI g 32 f)] := S
          refine top_eq (y := nI (nu 3 i)) (hf _ _ (by omega) (by omega)) ?_
          refine top_ist C S 3 rfl (j := i) rfl (by omega) (by decide) dX3_stack_95 (fun H locs S => ?_)
          have S : ST g A ss H locs [(P, ob 3 [.ref ra, .ref sa, .ref ta, .int (nI n), .int (nI (M &&& Wh)), .int p3, .int p4, .int p5]), (ra, aI g 8 (upd r1 i (nI x))), (sa, aI g 8 (upd s1 i (nI (nu 1 i)))), (ta, aI g 8 (upd t1 i (nI (nu 3 i)))), (h, ob 2 [.ref q, .int (nI n), .int (nI ww)]), (q, aI g 32 f)] := S
          refine lv_iinc (v := nI (i + 1)) (lv' := [(6, .int (nI (i + 1))), (5, .int (nI x)), (4, .int (oI o)), (0, .ref P), (1, .ref h), (2, .int (nI M)), (3, .int (nI Wh))]) hx hb dX3_stack_96 hl (k := 0) rfl (nI_add _ _) (by decide) rfl (fun ls hl => ?_)
          refine lv_goto (tgt := 24) hx hb dX3_stack_99 (by decide) ?_
          exact ih24 (i + 1) x o (upd r1 i (nI x)) (upd s1 i (nI (nu 1 i))) (upd t1 i (nI (nu 3 i))) (by omega) (by first | assumption | omega) (by simp only [rs, ho, nipN, if_neg c_1, if_neg (Bool.eq_false_iff.mp c_2)]) (fun j hj => upd_lt (P := fun j => RC (nu 2) M j) hR0 (by show _ = nI (rs (nu 2) M (i + 1)).2; simp only [rs, ho, nipN, if_neg c_1, if_neg (Bool.eq_false_iff.mp c_2)]) j hj) (fun j hj => upd_lt (P := fun j => nu 1 j) hS0 rfl j hj) (fun j hj => upd_lt (P := fun j => nu 3 j) hT0 rfl j hj) H locs ls (ST.eq S (rfl)) (lv_sub hl [0, 1, 2, 3, 4, 5, 6] (rfl))
        · -- 39 F
          cases o with
          | none =>
            have hl : lv_has ls 7 [(6, .int (nI i)), (5, .int (nI x)), (4, .int (-1)), (0, .ref P), (1, .ref h), (2, .int (nI M)), (3, .int (nI Wh))] := hl
            refine lv_iload hx hb dX3_stack_42 (lv_at hl 1 rfl) ?_
            refine lv_aload_n hx hb dX3_stack_44 rfl (lv_at hl 4 rfl) ?_
            refine lv_iload hx hb dX3_stack_45 (lv_at hl 2 rfl) ?_
            refine lv_iload hx hb dX3_stack_47 (lv_at hl 0 rfl) ?_
            refine after_I (wc := [(h, ob 2 [.ref q, .int (nI n), .int (nI ww)]), (q, aI g 32 f)]) (y := yX2_nip) C S (va_runV (As := [.int (-1), .int (nI i)]) (rest := [.int (nI x)]) C.1 (kX2_nipn l g h q f n ww i H.size) (cwV 2 hts gX3_stack_X2_nip rfl rfl rfl (by decide +kernel) ⟨Nat.le_of_ble_eq_true rfl, Nat.le_of_ble_eq_true rfl⟩) (preV_at C S 4 rfl rfl [4, 5] rfl (by decide)) rfl rfl hl.1 rfl (lv_room (Nat.le_of_ble_eq_true rfl)) dX3_stack_49 ⟨Nat.le_of_ble_eq_true rfl, Nat.le_of_ble_eq_true rfl⟩) [4, 5] [0, 1, 2, 3] rfl (wr := [(P, ob 3 [.ref ra, .ref sa, .ref ta, .int (nI n), .int (nI (M &&& Wh)), .int p3, .int p4, .int p5]), (ra, aI g 8 r1), (sa, aI g 8 s1), (ta, aI g 8 t1)]) rfl (by decide) (by decide) (fun r0 w0 H locs hq S => ?_)
            obtain ⟨rfl, rfl⟩ := hq
            have S : ST g A ss H locs [(P, ob 3 [.ref ra, .ref sa, .ref ta, .int (nI n), .int (nI (M &&& Wh)), .int p3, .int p4, .int p5]), (ra, aI g 8 r1), (sa, aI g 8 s1), (ta, aI g 8 t1), (h, ob 2 [.ref q, .int (nI n), .int (nI ww)]), (q, aI g 32 f)] := S
            refine lv_iadd hx hb dX3_stack_52 ?_
            refine top_eq (y := nI (x + 0)) (nI_add _ _) ?_
            refine lv_istore (lv' := [(5, .int (nI (x + 0))), (6, .int (nI i)), (4, .int (-1)), (0, .ref P), (1, .ref h), (2, .int (nI M)), (3, .int (nI Wh))]) hx hb dX3_stack_53 hl (by decide) rfl (fun ls hl => ?_)
            refine lv_iload hx hb dX3_stack_55 (lv_at hl 1 rfl) ?_
            refine lv_istore (lv' := [(4, .int (nI i)), (5, .int (nI (x + 0))), (6, .int (nI i)), (0, .ref P), (1, .ref h), (2, .int (nI M)), (3, .int (nI Wh))]) hx hb dX3_stack_57 hl (by decide) rfl (fun ls hl => ?_)
            refine lv_aload_n hx hb dX3_stack_59 rfl (lv_at hl 3 rfl) ?_
            refine top_get C S inX3_stack_X3 rfl 0 rfl 0 (by decide) (by decide +kernel) rfl rfl dX3_stack_60 ?_
            refine lv_iload hx hb dX3_stack_63 (lv_at hl 2 rfl) ?_
            refine lv_iload hx hb dX3_stack_65 (lv_at hl 1 rfl) ?_
            refine top_ist C S 1 rfl (j := i) rfl (by omega) (by decide) dX3_stack_67 (fun H locs S => ?_)
            have S : ST g A ss H locs [(P, ob 3 [.ref ra, .ref sa, .ref ta, .int (nI n), .int (nI (M &&& Wh)), .int p3, .int p4, .int p5]), (ra, aI g 8 (upd r1 i (nI (x + 0)))), (sa, aI g 8 s1), (ta, aI g 8 t1), (h, ob 2 [.ref q, .int (nI n), .int (nI ww)]), (q, aI g 32 f)] := S
            refine lv_aload_n hx hb dX3_stack_68 rfl (lv_at hl 3 rfl) ?_
            refine top_get C S inX3_stack_X3 rfl 0 rfl 1 (by decide) (by decide +kernel) rfl rfl dX3_stack_69 ?_
            refine lv_iload hx hb dX3_stack_72 (lv_at hl 2 rfl) ?_
            refine lv_aload_n hx hb dX3_stack_74 rfl (lv_at hl 4 rfl) ?_
            refine lv_iconst (v := 1) hx hb dX3_stack_75 (by decide) ?_
            refine lv_iload hx hb dX3_stack_76 (lv_at hl 2 rfl) ?_
            refine after_I (wc := [(h, ob 2 [.ref q, .int (nI n), .int (nI ww)]), (q, aI g 32 f)]) (y := yX2_number) C S (va_runV (As := [.int 1, .int (nI i)]) (rest := [.int (nI i), .ref sa]) C.1 (kX2_number l g h q f n ww 1 i (by first | assumption | omega) (by first | assumption | omega) H.size) (cwV 2 hts gX3_stack_X2_number rfl rfl rfl (by decide +kernel) ⟨Nat.le_of_ble_eq_true rfl, Nat.le_of_ble_eq_true rfl⟩) (preV_at C S 4 rfl rfl [4, 5] rfl (by decide)) rfl rfl hl.1 rfl (lv_room (Nat.le_of_ble_eq_true rfl)) dX3_stack_78 ⟨Nat.le_of_ble_eq_true rfl, Nat.le_of_ble_eq_true rfl⟩) [4, 5] [0, 1, 2, 3] rfl (wr := [(P, ob 3 [.ref ra, .ref sa, .ref ta, .int (nI n), .int (nI (M &&& Wh)), .int p3, .int p4, .int p5]), (ra, aI g 8 (upd r1 i (nI (x + 0)))), (sa, aI g 8 s1), (ta, aI g 8 t1)]) rfl (by decide) (by decide) (fun r0 w0 H locs hq S => ?_)
            obtain ⟨rfl, rfl⟩ := hq
            have S : ST g A ss H locs [(P, ob 3 [.ref ra, .ref sa, .ref ta, .int (nI n), .int (nI (M &&& Wh)), .int p3, .int p4, .int p5]), (ra, aI g 8 (upd r1 i (nI (x + 0)))), (sa, aI g 8 s1), (ta, aI g 8 t1), (h, ob 2 [.ref q, .int (nI n), .int (nI ww)]), (q, aI g 32 f)] := S
            refine top_eq (y := nI (nu 1 i)) (hf _ _ (by omega) (by omega)) ?_
            refine top_ist C S 2 rfl (j := i) rfl (by omega) (by decide) dX3_stack_81 (fun H locs S => ?_)
            have S : ST g A ss H locs [(P, ob 3 [.ref ra, .ref sa, .ref ta, .int (nI n), .int (nI (M &&& Wh)), .int p3, .int p4, .int p5]), (ra, aI g 8 (upd r1 i (nI (x + 0)))), (sa, aI g 8 (upd s1 i (nI (nu 1 i)))), (ta, aI g 8 t1), (h, ob 2 [.ref q, .int (nI n), .int (nI ww)]), (q, aI g 32 f)] := S
            refine lv_aload_n hx hb dX3_stack_82 rfl (lv_at hl 3 rfl) ?_
            refine top_get C S inX3_stack_X3 rfl 0 rfl 2 (by decide) (by decide +kernel) rfl rfl dX3_stack_83 ?_
            refine lv_iload hx hb dX3_stack_86 (lv_at hl 2 rfl) ?_
            refine lv_aload_n hx hb dX3_stack_88 rfl (lv_at hl 4 rfl) ?_
            refine lv_iconst (v := 3) hx hb dX3_stack_89 (by decide) ?_
            refine lv_iload hx hb dX3_stack_90 (lv_at hl 2 rfl) ?_
            refine after_I (wc := [(h, ob 2 [.ref q, .int (nI n), .int (nI ww)]), (q, aI g 32 f)]) (y := yX2_number) C S (va_runV (As := [.int 3, .int (nI i)]) (rest := [.int (nI i), .ref ta]) C.1 (kX2_number l g h q f n ww 3 i (by first | assumption | omega) (by first | assumption | omega) H.size) (cwV 2 hts gX3_stack_X2_number rfl rfl rfl (by decide +kernel) ⟨Nat.le_of_ble_eq_true rfl, Nat.le_of_ble_eq_true rfl⟩) (preV_at C S 4 rfl rfl [4, 5] rfl (by decide)) rfl rfl hl.1 rfl (lv_room (Nat.le_of_ble_eq_true rfl)) dX3_stack_92 ⟨Nat.le_of_ble_eq_true rfl, Nat.le_of_ble_eq_true rfl⟩) [4, 5] [0, 1, 2, 3] rfl (wr := [(P, ob 3 [.ref ra, .ref sa, .ref ta, .int (nI n), .int (nI (M &&& Wh)), .int p3, .int p4, .int p5]), (ra, aI g 8 (upd r1 i (nI (x + 0)))), (sa, aI g 8 (upd s1 i (nI (nu 1 i)))), (ta, aI g 8 t1)]) rfl (by decide) (by decide) (fun r0 w0 H locs hq S => ?_)
            obtain ⟨rfl, rfl⟩ := hq
            have S : ST g A ss H locs [(P, ob 3 [.ref ra, .ref sa, .ref ta, .int (nI n), .int (nI (M &&& Wh)), .int p3, .int p4, .int p5]), (ra, aI g 8 (upd r1 i (nI (x + 0)))), (sa, aI g 8 (upd s1 i (nI (nu 1 i)))), (ta, aI g 8 t1), (h, ob 2 [.ref q, .int (nI n), .int (nI ww)]), (q, aI g 32 f)] := S
            refine top_eq (y := nI (nu 3 i)) (hf _ _ (by omega) (by omega)) ?_
            refine top_ist C S 3 rfl (j := i) rfl (by omega) (by decide) dX3_stack_95 (fun H locs S => ?_)
            have S : ST g A ss H locs [(P, ob 3 [.ref ra, .ref sa, .ref ta, .int (nI n), .int (nI (M &&& Wh)), .int p3, .int p4, .int p5]), (ra, aI g 8 (upd r1 i (nI (x + 0)))), (sa, aI g 8 (upd s1 i (nI (nu 1 i)))), (ta, aI g 8 (upd t1 i (nI (nu 3 i)))), (h, ob 2 [.ref q, .int (nI n), .int (nI ww)]), (q, aI g 32 f)] := S
            refine lv_iinc (v := nI (i + 1)) (lv' := [(6, .int (nI (i + 1))), (4, .int (nI i)), (5, .int (nI (x + 0))), (0, .ref P), (1, .ref h), (2, .int (nI M)), (3, .int (nI Wh))]) hx hb dX3_stack_96 hl (k := 2) rfl (nI_add _ _) (by decide) rfl (fun ls hl => ?_)
            refine lv_goto (tgt := 24) hx hb dX3_stack_99 (by decide) ?_
            exact ih24 (i + 1) (x + 0) (some i) (upd r1 i (nI (x + 0))) (upd s1 i (nI (nu 1 i))) (upd t1 i (nI (nu 3 i))) (by omega) (by first | assumption | omega) (by simp only [rs, ho, nipN, if_neg c_1, if_pos c_2]) (fun j hj => upd_lt (P := fun j => RC (nu 2) M j) hR0 (by show _ = nI (rs (nu 2) M (i + 1)).2; simp only [rs, ho, nipN, if_neg c_1, if_pos c_2]) j hj) (fun j hj => upd_lt (P := fun j => nu 1 j) hS0 rfl j hj) (fun j hj => upd_lt (P := fun j => nu 3 j) hT0 rfl j hj) H locs ls (ST.eq S (rfl)) (lv_sub hl [0, 2, 1, 3, 4, 5, 6] (rfl))
          | some j =>
            have hl : lv_has ls 7 [(6, .int (nI i)), (5, .int (nI x)), (4, .int (nI j)), (0, .ref P), (1, .ref h), (2, .int (nI M)), (3, .int (nI Wh))] := hl
            have hj : j < n := by have := rs_lt i j (by rw [ho]); omega
            refine lv_iload hx hb dX3_stack_42 (lv_at hl 1 rfl) ?_
            refine lv_aload_n hx hb dX3_stack_44 rfl (lv_at hl 4 rfl) ?_
            refine lv_iload hx hb dX3_stack_45 (lv_at hl 2 rfl) ?_
            refine lv_iload hx hb dX3_stack_47 (lv_at hl 0 rfl) ?_
            refine after_I (wc := [(h, ob 2 [.ref q, .int (nI n), .int (nI ww)]), (q, aI g 32 f)]) (y := yX2_nip) C S (va_runV (As := [.int (nI j), .int (nI i)]) (rest := [.int (nI x)]) C.1 (kX2_nips l g h q f n ww nu j i (by first | assumption | omega) (by first | assumption | omega) (by first | assumption | omega) (by first | assumption | omega) (by first | assumption | omega) H.size) (cwV 2 hts gX3_stack_X2_nip rfl rfl rfl (by decide +kernel) ⟨Nat.le_of_ble_eq_true rfl, Nat.le_of_ble_eq_true rfl⟩) (preV_at C S 4 rfl rfl [4, 5] rfl (by decide)) rfl rfl hl.1 rfl (lv_room (Nat.le_of_ble_eq_true rfl)) dX3_stack_49 ⟨Nat.le_of_ble_eq_true rfl, Nat.le_of_ble_eq_true rfl⟩) [4, 5] [0, 1, 2, 3] rfl (wr := [(P, ob 3 [.ref ra, .ref sa, .ref ta, .int (nI n), .int (nI (M &&& Wh)), .int p3, .int p4, .int p5]), (ra, aI g 8 r1), (sa, aI g 8 s1), (ta, aI g 8 t1)]) rfl (by decide) (by decide) (fun r0 w0 H locs hq S => ?_)
            obtain ⟨rfl, rfl⟩ := hq
            have S : ST g A ss H locs [(P, ob 3 [.ref ra, .ref sa, .ref ta, .int (nI n), .int (nI (M &&& Wh)), .int p3, .int p4, .int p5]), (ra, aI g 8 r1), (sa, aI g 8 s1), (ta, aI g 8 t1), (h, ob 2 [.ref q, .int (nI n), .int (nI ww)]), (q, aI g 32 f)] := S
            refine lv_iadd hx hb dX3_stack_52 ?_
            refine top_eq (y := nI (x + (nu 2 j - nu 2 i))) (nI_add _ _) ?_
            refine lv_istore (lv' := [(5, .int (nI (x + (nu 2 j - nu 2 i)))), (6, .int (nI i)), (4, .int (nI j)), (0, .ref P), (1, .ref h), (2, .int (nI M)), (3, .int (nI Wh))]) hx hb dX3_stack_53 hl (by decide) rfl (fun ls hl => ?_)
            refine lv_iload hx hb dX3_stack_55 (lv_at hl 1 rfl) ?_
            refine lv_istore (lv' := [(4, .int (nI i)), (5, .int (nI (x + (nu 2 j - nu 2 i)))), (6, .int (nI i)), (0, .ref P), (1, .ref h), (2, .int (nI M)), (3, .int (nI Wh))]) hx hb dX3_stack_57 hl (by decide) rfl (fun ls hl => ?_)
            refine lv_aload_n hx hb dX3_stack_59 rfl (lv_at hl 3 rfl) ?_
            refine top_get C S inX3_stack_X3 rfl 0 rfl 0 (by decide) (by decide +kernel) rfl rfl dX3_stack_60 ?_
            refine lv_iload hx hb dX3_stack_63 (lv_at hl 2 rfl) ?_
            refine lv_iload hx hb dX3_stack_65 (lv_at hl 1 rfl) ?_
            refine top_ist C S 1 rfl (j := i) rfl (by omega) (by decide) dX3_stack_67 (fun H locs S => ?_)
            have S : ST g A ss H locs [(P, ob 3 [.ref ra, .ref sa, .ref ta, .int (nI n), .int (nI (M &&& Wh)), .int p3, .int p4, .int p5]), (ra, aI g 8 (upd r1 i (nI (x + (nu 2 j - nu 2 i))))), (sa, aI g 8 s1), (ta, aI g 8 t1), (h, ob 2 [.ref q, .int (nI n), .int (nI ww)]), (q, aI g 32 f)] := S
            refine lv_aload_n hx hb dX3_stack_68 rfl (lv_at hl 3 rfl) ?_
            refine top_get C S inX3_stack_X3 rfl 0 rfl 1 (by decide) (by decide +kernel) rfl rfl dX3_stack_69 ?_
            refine lv_iload hx hb dX3_stack_72 (lv_at hl 2 rfl) ?_
            refine lv_aload_n hx hb dX3_stack_74 rfl (lv_at hl 4 rfl) ?_
            refine lv_iconst (v := 1) hx hb dX3_stack_75 (by decide) ?_
            refine lv_iload hx hb dX3_stack_76 (lv_at hl 2 rfl) ?_
            refine after_I (wc := [(h, ob 2 [.ref q, .int (nI n), .int (nI ww)]), (q, aI g 32 f)]) (y := yX2_number) C S (va_runV (As := [.int 1, .int (nI i)]) (rest := [.int (nI i), .ref sa]) C.1 (kX2_number l g h q f n ww 1 i (by first | assumption | omega) (by first | assumption | omega) H.size) (cwV 2 hts gX3_stack_X2_number rfl rfl rfl (by decide +kernel) ⟨Nat.le_of_ble_eq_true rfl, Nat.le_of_ble_eq_true rfl⟩) (preV_at C S 4 rfl rfl [4, 5] rfl (by decide)) rfl rfl hl.1 rfl (lv_room (Nat.le_of_ble_eq_true rfl)) dX3_stack_78 ⟨Nat.le_of_ble_eq_true rfl, Nat.le_of_ble_eq_true rfl⟩) [4, 5] [0, 1, 2, 3] rfl (wr := [(P, ob 3 [.ref ra, .ref sa, .ref ta, .int (nI n), .int (nI (M &&& Wh)), .int p3, .int p4, .int p5]), (ra, aI g 8 (upd r1 i (nI (x + (nu 2 j - nu 2 i))))), (sa, aI g 8 s1), (ta, aI g 8 t1)]) rfl (by decide) (by decide) (fun r0 w0 H locs hq S => ?_)
            obtain ⟨rfl, rfl⟩ := hq
            have S : ST g A ss H locs [(P, ob 3 [.ref ra, .ref sa, .ref ta, .int (nI n), .int (nI (M &&& Wh)), .int p3, .int p4, .int p5]), (ra, aI g 8 (upd r1 i (nI (x + (nu 2 j - nu 2 i))))), (sa, aI g 8 s1), (ta, aI g 8 t1), (h, ob 2 [.ref q, .int (nI n), .int (nI ww)]), (q, aI g 32 f)] := S
            refine top_eq (y := nI (nu 1 i)) (hf _ _ (by omega) (by omega)) ?_
            refine top_ist C S 2 rfl (j := i) rfl (by omega) (by decide) dX3_stack_81 (fun H locs S => ?_)
            have S : ST g A ss H locs [(P, ob 3 [.ref ra, .ref sa, .ref ta, .int (nI n), .int (nI (M &&& Wh)), .int p3, .int p4, .int p5]), (ra, aI g 8 (upd r1 i (nI (x + (nu 2 j - nu 2 i))))), (sa, aI g 8 (upd s1 i (nI (nu 1 i)))), (ta, aI g 8 t1), (h, ob 2 [.ref q, .int (nI n), .int (nI ww)]), (q, aI g 32 f)] := S
            refine lv_aload_n hx hb dX3_stack_82 rfl (lv_at hl 3 rfl) ?_
            refine top_get C S inX3_stack_X3 rfl 0 rfl 2 (by decide) (by decide +kernel) rfl rfl dX3_stack_83 ?_
            refine lv_iload hx hb dX3_stack_86 (lv_at hl 2 rfl) ?_
            refine lv_aload_n hx hb dX3_stack_88 rfl (lv_at hl 4 rfl) ?_
            refine lv_iconst (v := 3) hx hb dX3_stack_89 (by decide) ?_
            refine lv_iload hx hb dX3_stack_90 (lv_at hl 2 rfl) ?_
            refine after_I (wc := [(h, ob 2 [.ref q, .int (nI n), .int (nI ww)]), (q, aI g 32 f)]) (y := yX2_number) C S (va_runV (As := [.int 3, .int (nI i)]) (rest := [.int (nI i), .ref ta]) C.1 (kX2_number l g h q f n ww 3 i (by first | assumption | omega) (by first | assumption | omega) H.size) (cwV 2 hts gX3_stack_X2_number rfl rfl rfl (by decide +kernel) ⟨Nat.le_of_ble_eq_true rfl, Nat.le_of_ble_eq_true rfl⟩) (preV_at C S 4 rfl rfl [4, 5] rfl (by decide)) rfl rfl hl.1 rfl (lv_room (Nat.le_of_ble_eq_true rfl)) dX3_stack_92 ⟨Nat.le_of_ble_eq_true rfl, Nat.le_of_ble_eq_true rfl⟩) [4, 5] [0, 1, 2, 3] rfl (wr := [(P, ob 3 [.ref ra, .ref sa, .ref ta, .int (nI n), .int (nI (M &&& Wh)), .int p3, .int p4, .int p5]), (ra, aI g 8 (upd r1 i (nI (x + (nu 2 j - nu 2 i))))), (sa, aI g 8 (upd s1 i (nI (nu 1 i)))), (ta, aI g 8 t1)]) rfl (by decide) (by decide) (fun r0 w0 H locs hq S => ?_)
            obtain ⟨rfl, rfl⟩ := hq
            have S : ST g A ss H locs [(P, ob 3 [.ref ra, .ref sa, .ref ta, .int (nI n), .int (nI (M &&& Wh)), .int p3, .int p4, .int p5]), (ra, aI g 8 (upd r1 i (nI (x + (nu 2 j - nu 2 i))))), (sa, aI g 8 (upd s1 i (nI (nu 1 i)))), (ta, aI g 8 t1), (h, ob 2 [.ref q, .int (nI n), .int (nI ww)]), (q, aI g 32 f)] := S
            refine top_eq (y := nI (nu 3 i)) (hf _ _ (by omega) (by omega)) ?_
            refine top_ist C S 3 rfl (j := i) rfl (by omega) (by decide) dX3_stack_95 (fun H locs S => ?_)
            have S : ST g A ss H locs [(P, ob 3 [.ref ra, .ref sa, .ref ta, .int (nI n), .int (nI (M &&& Wh)), .int p3, .int p4, .int p5]), (ra, aI g 8 (upd r1 i (nI (x + (nu 2 j - nu 2 i))))), (sa, aI g 8 (upd s1 i (nI (nu 1 i)))), (ta, aI g 8 (upd t1 i (nI (nu 3 i)))), (h, ob 2 [.ref q, .int (nI n), .int (nI ww)]), (q, aI g 32 f)] := S
            refine lv_iinc (v := nI (i + 1)) (lv' := [(6, .int (nI (i + 1))), (4, .int (nI i)), (5, .int (nI (x + (nu 2 j - nu 2 i)))), (0, .ref P), (1, .ref h), (2, .int (nI M)), (3, .int (nI Wh))]) hx hb dX3_stack_96 hl (k := 2) rfl (nI_add _ _) (by decide) rfl (fun ls hl => ?_)
            refine lv_goto (tgt := 24) hx hb dX3_stack_99 (by decide) ?_
            exact ih24 (i + 1) (x + (nu 2 j - nu 2 i)) (some i) (upd r1 i (nI (x + (nu 2 j - nu 2 i)))) (upd s1 i (nI (nu 1 i))) (upd t1 i (nI (nu 3 i))) (by omega) (by first | assumption | omega) (by simp only [rs, ho, nipN, if_neg c_1, if_pos c_2]) (fun j hj => upd_lt (P := fun j => RC (nu 2) M j) hR0 (by show _ = nI (rs (nu 2) M (i + 1)).2; simp only [rs, ho, nipN, if_neg c_1, if_pos c_2]) j hj) (fun j hj => upd_lt (P := fun j => nu 1 j) hS0 rfl j hj) (fun j hj => upd_lt (P := fun j => nu 3 j) hT0 rfl j hj) H locs ls (ST.eq S (rfl)) (lv_sub hl [0, 2, 1, 3, 4, 5, 6] (rfl))
  exact loop24 _ 0 0 none rf sf tf (Nat.lt_succ_self _) (by first | assumption | omega) (rfl) (fun j hj => absurd hj (Nat.not_lt_zero _)) (fun j hj => absurd hj (Nat.not_lt_zero _)) (fun j hj => absurd hj (Nat.not_lt_zero _)) H locs ls (ST.eq S (rfl)) (lv_sub hl [0, 1, 2, 3, 4, 5, 6] (rfl))
end
section
theorem inX3_press_X3 : ∀ w ∈ wsX30, w ∈ wsX3_press := by decide +kernel
set_option maxRecDepth 100000 in
set_option maxHeartbeats 4000000 in
theorem kX3_press (l : Launch) (g : GG) (P : Nat) (ra : Nat) (sa : Nat) (ta : Nat) (rf : Nat → Int32) (sf : Nat → Int32) (tf : Nat → Int32) (n : Nat) (b : Nat) (p3 : Int32) (p4 : Int32) (p5 : Int32) (Rr : Nat → Nat) (st : Nat → Nat) (sg : Nat → Nat) (p : Nat) (hn : n ≤ 8) (hbb : b < 512) (hR : ∀ j, j < n → rf j = nI (Rr j)) (hS : ∀ j, j < n → sf j = nI (st j)) (hT : ∀ j, j < n → tf j = nI (sg j)) (hRb : ∀ i, i < n → Rr i ≤ 240) (hSb : ∀ i, i < n → st i ≤ 9) (hTb : ∀ i, i < n → sg i ≤ 99) (hp : p ≤ 999) : KI l g yX3_press wsX3_press 1 21 [.ref P, .int (nI p)] [(P, ob 3 [.ref ra, .ref sa, .ref ta, .int (nI n), .int (nI b), .int p3, .int p4, .int p5]), (ra, aI g 8 rf), (sa, aI g 8 sf), (ta, aI g 8 tf)] (fun (r : Int32) (w' : va_W) => r = (bI (decide (0 < lowN st Rr b p n))) ∧ w' = [(P, ob 3 [.ref ra, .ref sa, .ref ta, .int (nI n), .int (nI b), .int (nI (uppN st Rr b p n)), .int (nI (lowN st Rr b p n)), .int (nI ((pr st Rr b p n).1))]), (ra, aI g 8 rf), (sa, aI g 8 sf), (ta, aI g 8 tf)]) := by
  refine kI_of (cc := cX3_press) (maxL := 5) (by decide) rfl (Nat.le_of_ble_eq_true rfl) ?_
  intro pp ee ss mm bel mth cd A ls C S hr hl
  obtain ⟨hx, hb, hml, hown, hts⟩ := id C.1
  have hl : lv_has ls 5 [(0, .ref P), (1, .int (nI p))] := hl
  obtain ⟨H, hH⟩ : ∃ H, H = ss.heap := ⟨_, rfl⟩
  obtain ⟨locs, hL0⟩ : ∃ L : List Loc, L = [] := ⟨_, rfl⟩
  rw [← hH, ← hL0] at S ⊢
  refine lv_iconst (v := 0) hx hb dX3_press_0 (by decide) ?_
  refine lv_istore_n (lv' := [(2, .int 0), (0, .ref P), (1, .int (nI p))]) hx hb dX3_press_1 rfl hl (by decide) rfl (fun ls hl => ?_)
  refine lv_iconst (v := 0) hx hb dX3_press_2 (by decide) ?_
  refine lv_istore_n (lv' := [(3, .int 0), (2, .int 0), (0, .ref P), (1, .int (nI p))]) hx hb dX3_press_3 rfl hl (by decide) rfl (fun ls hl => ?_)
  refine lv_iconst (v := 0) hx hb dX3_press_4 (by decide) ?_
  refine lv_istore (lv' := [(4, .int 0), (3, .int 0), (2, .int 0), (0, .ref P), (1, .int (nI p))]) hx hb dX3_press_5 hl (by decide) rfl (fun ls hl => ?_)
  have loop7 : ∀ (N0 : Nat) (i : Nat) (a : Nat) (m : Nat), n - i < N0 → (i ≤ n) → (pr st Rr b p i = (a, m)) → ∀ (H : Heap) (locs : List Loc) (ls : Array Slot), ST g A ss H locs [(P, ob 3 [.ref ra, .ref sa, .ref ta, .int (nI n), .int (nI b), .int p3, .int p4, .int p5]), (ra, aI g 8 rf), (sa, aI g 8 sf), (ta, aI g 8 tf)] → lv_has ls 5 [(4, .int (nI i)), (3, .int (nI m)), (2, .int (nI a)), (0, .ref P), (1, .int (nI p))] → W pp l ee { frames := 1, cells := 0, slots := 0, locals := 21 } ss mm ([.ref P, .int (nI p)] : List Value).toArray bel mth cd H locs 0 0 (QI bel ([.ref P, .int (nI p)] : List Value).toArray ss g A (fun (r : Int32) (w' : va_W) => r = (bI (decide (0 < lowN st Rr b p n))) ∧ w' = [(P, ob 3 [.ref ra, .ref sa, .ref ta, .int (nI n), .int (nI b), .int (nI (uppN st Rr b p n)), .int (nI (lowN st Rr b p n)), .int (nI ((pr st Rr b p n).1))]), (ra, aI g 8 rf), (sa, aI g 8 sf), (ta, aI g 8 tf)])) (F0 mm 7 ls []) := by
    intro N0
    induction N0 with
    | zero => intro i a m hN; exact absurd hN (Nat.not_lt_zero _)
    | succ N0 ih7 =>
      intro i a m hN hi ha H locs ls S hl
      have hB := pr_le (b := b) (p := p) hSb hRb i hi
      rw [ha] at hB
      have hB1 : a ≤ 9 * i := hB.1
      have hB2 : m ≤ 2160 * i := hB.2
      refine lv_iload hx hb dX3_press_7 (lv_at hl 0 rfl) ?_
      refine lv_aload_n hx hb dX3_press_9 rfl (lv_at hl 3 rfl) ?_
      refine top_get C S inX3_press_X3 rfl 0 rfl 3 (by decide) (by decide +kernel) rfl rfl dX3_press_10 ?_
      refine bn_ige (tgt := 77) (a := i) (b := n) hx hb rfl rfl (by omega) (by omega) dX3_press_13 (by decide) (fun c_1 => ?_) (fun c_1 => ?_)
      · -- 13 T
        have hin : i = n := by omega
        rw [hin] at ha
        have hupp : uppN st Rr b p n = p + m := by unfold uppN; rw [ha]
        have hpr : (pr st Rr b p n).1 = a := by rw [ha]
        refine lv_aload_n hx hb dX3_press_77 rfl (lv_at hl 3 rfl) ?_
        refine lv_iload_n hx hb dX3_press_78 rfl (lv_at hl 4 rfl) ?_
        refine lv_iload_n hx hb dX3_press_79 rfl (lv_at hl 1 rfl) ?_
        refine lv_iadd hx hb dX3_press_80 ?_
        refine top_eq (y := nI (p + m)) (nI_add _ _) ?_
        refine top_put (ty := .int) C S inX3_press_X3 tyX3 tyX3_ok nmX3 rfl 0 rfl 5 (by decide) (by decide +kernel) rfl rfl (tyX3_ok 5 (by decide)) rfl rfl (Nat.le_of_ble_eq_true rfl) dX3_press_81 (fun H locs S => ?_)
        have S : ST g A ss H locs [(P, ob 3 [.ref ra, .ref sa, .ref ta, .int (nI n), .int (nI b), .int (nI (p + m)), .int p4, .int p5]), (ra, aI g 8 rf), (sa, aI g 8 sf), (ta, aI g 8 tf)] := S
        refine lv_aload_n hx hb dX3_press_84 rfl (lv_at hl 3 rfl) ?_
        refine lv_iload_n hx hb dX3_press_85 rfl (lv_at hl 4 rfl) ?_
        refine bn_zne (tgt := 93) (a := p) hx hb rfl (by omega) dX3_press_86 (by decide) (fun c_2 => ?_) (fun c_2 => ?_)
        · -- 86 T
          have hlow : lowN st Rr b p n = a := by unfold lowN; rw [if_neg c_2, hpr]
          refine lv_iload_n hx hb dX3_press_93 rfl (lv_at hl 2 rfl) ?_
          refine top_put (ty := .int) C S inX3_press_X3 tyX3 tyX3_ok nmX3 rfl 0 rfl 6 (by decide) (by decide +kernel) rfl rfl (tyX3_ok 6 (by decide)) rfl rfl (Nat.le_of_ble_eq_true rfl) dX3_press_94 (fun H locs S => ?_)
          have S : ST g A ss H locs [(P, ob 3 [.ref ra, .ref sa, .ref ta, .int (nI n), .int (nI b), .int (nI (p + m)), .int (nI a), .int p5]), (ra, aI g 8 rf), (sa, aI g 8 sf), (ta, aI g 8 tf)] := S
          refine lv_aload_n hx hb dX3_press_97 rfl (lv_at hl 3 rfl) ?_
          refine lv_iload_n hx hb dX3_press_98 rfl (lv_at hl 2 rfl) ?_
          refine top_put (ty := .int) C S inX3_press_X3 tyX3 tyX3_ok nmX3 rfl 0 rfl 7 (by decide) (by decide +kernel) rfl rfl (tyX3_ok 7 (by decide)) rfl rfl (Nat.le_of_ble_eq_true rfl) dX3_press_99 (fun H locs S => ?_)
          have S : ST g A ss H locs [(P, ob 3 [.ref ra, .ref sa, .ref ta, .int (nI n), .int (nI b), .int (nI (p + m)), .int (nI a), .int (nI a)]), (ra, aI g 8 rf), (sa, aI g 8 sf), (ta, aI g 8 tf)] := S
          refine lv_aload_n hx hb dX3_press_102 rfl (lv_at hl 3 rfl) ?_
          refine top_get C S inX3_press_X3 rfl 0 rfl 6 (by decide) (by decide +kernel) rfl rfl dX3_press_103 ?_
          refine bn_zle (tgt := 113) (a := a) hx hb rfl (by omega) dX3_press_106 (by decide) (fun c_3 => ?_) (fun c_3 => ?_)
          · -- 106 T
            refine lv_iconst (v := 0) hx hb dX3_press_113 (by decide) ?_
            exact ret_Z (decide (0 < lowN st Rr b p n)) C S hr dX3_press_114 (by rw [hlow, decide_eq_false (by omega)]; rfl) ⟨(by rw [hlow, decide_eq_false (by omega)]; rfl), (by rw [hlow, hupp, hpr] <;> rfl)⟩
          · -- 106 F
            refine lv_iconst (v := 1) hx hb dX3_press_109 (by decide) ?_
            refine lv_goto (tgt := 114) hx hb dX3_press_110 (by decide) ?_
            exact ret_Z (decide (0 < lowN st Rr b p n)) C S hr dX3_press_114 (by rw [hlow, decide_eq_true (by omega)]; rfl) ⟨(by rw [hlow, decide_eq_true (by omega)]; rfl), (by rw [hlow, hupp, hpr] <;> rfl)⟩
        · -- 86 F
          have hlow : lowN st Rr b p n = 1 := by unfold lowN; rw [if_pos c_2]
          refine lv_iconst (v := 1) hx hb dX3_press_89 (by decide) ?_
          refine lv_goto (tgt := 94) hx hb dX3_press_90 (by decide) ?_
          refine top_put (ty := .int) C S inX3_press_X3 tyX3 tyX3_ok nmX3 rfl 0 rfl 6 (by decide) (by decide +kernel) rfl rfl (tyX3_ok 6 (by decide)) rfl rfl (Nat.le_of_ble_eq_true rfl) dX3_press_94 (fun H locs S => ?_)
          have S : ST g A ss H locs [(P, ob 3 [.ref ra, .ref sa, .ref ta, .int (nI n), .int (nI b), .int (nI (p + m)), .int 1, .int p5]), (ra, aI g 8 rf), (sa, aI g 8 sf), (ta, aI g 8 tf)] := S
          refine lv_aload_n hx hb dX3_press_97 rfl (lv_at hl 3 rfl) ?_
          refine lv_iload_n hx hb dX3_press_98 rfl (lv_at hl 2 rfl) ?_
          refine top_put (ty := .int) C S inX3_press_X3 tyX3 tyX3_ok nmX3 rfl 0 rfl 7 (by decide) (by decide +kernel) rfl rfl (tyX3_ok 7 (by decide)) rfl rfl (Nat.le_of_ble_eq_true rfl) dX3_press_99 (fun H locs S => ?_)
          have S : ST g A ss H locs [(P, ob 3 [.ref ra, .ref sa, .ref ta, .int (nI n), .int (nI b), .int (nI (p + m)), .int 1, .int (nI a)]), (ra, aI g 8 rf), (sa, aI g 8 sf), (ta, aI g 8 tf)] := S
          refine lv_aload_n hx hb dX3_press_102 rfl (lv_at hl 3 rfl) ?_
          refine top_get C S inX3_press_X3 rfl 0 rfl 6 (by decide) (by decide +kernel) rfl rfl dX3_press_103 ?_
          refine bn_zle (tgt := 113) (a := 1) hx hb rfl (by omega) dX3_press_106 (by decide) (fun c_4 => ?_) (fun c_4 => ?_)
          · -- 106 T
            exact absurd c_4 (by decide)
          · -- 106 F
            refine lv_iconst (v := 1) hx hb dX3_press_109 (by decide) ?_
            refine lv_goto (tgt := 114) hx hb dX3_press_110 (by decide) ?_
            exact ret_Z (decide (0 < lowN st Rr b p n)) C S hr dX3_press_114 (by rw [hlow, decide_eq_true (by omega)]; rfl) ⟨(by rw [hlow, decide_eq_true (by omega)]; rfl), (by rw [hlow, hupp, hpr] <;> rfl)⟩
      · -- 13 F
        have e1 := hRb i (by omega)
        have e3 : a * Rr i ≤ 72 * 240 := Nat.mul_le_mul (by omega) e1
        refine lv_aload_n hx hb dX3_press_16 rfl (lv_at hl 3 rfl) ?_
        refine top_get C S inX3_press_X3 rfl 0 rfl 4 (by decide) (by decide +kernel) rfl rfl dX3_press_17 ?_
        refine lv_iload hx hb dX3_press_20 (lv_at hl 0 rfl) ?_
        refine after_I (wc := []) (y := yX6_holds) C S (va_runSN (As := [.int (nI b), .int (nI i)]) (rest := []) C.1 (kX6_holds l g b i (by first | assumption | omega) (by first | assumption | omega) H.size) ⟨va_cnB 2 hts gX3_press_X6_holds_n31 rfl rfl rfl (C.2.2.1.1.2 ("StackedLeaves$Pack", 31, yX6_holds) (by decide +kernel)) (hts (.initialized RX6) (by decide +kernel)) (by decide +kernel) ⟨Nat.le_of_ble_eq_true rfl, Nat.le_of_ble_eq_true rfl⟩, hts (.static yX6_holds) (by decide +kernel), trivial⟩ (preS_at C S [] rfl (by decide)) rfl rfl hl.1 rfl (lv_room (Nat.le_of_ble_eq_true rfl)) dX3_press_22 ⟨Nat.le_of_ble_eq_true rfl, Nat.le_of_ble_eq_true rfl⟩) [] [0, 1, 2, 3] rfl (wr := [(P, ob 3 [.ref ra, .ref sa, .ref ta, .int (nI n), .int (nI b), .int p3, .int p4, .int p5]), (ra, aI g 8 rf), (sa, aI g 8 sf), (ta, aI g 8 tf)]) rfl (by decide) (by decide) (fun r0 w0 H locs hq S => ?_)
        obtain ⟨rfl, rfl⟩ := hq
        have S : ST g A ss H locs [(P, ob 3 [.ref ra, .ref sa, .ref ta, .int (nI n), .int (nI b), .int p3, .int p4, .int p5]), (ra, aI g 8 rf), (sa, aI g 8 sf), (ta, aI g 8 tf)] := S
        refine br_eqB (tgt := 71) hx hb dX3_press_25 (by decide) (fun c_5 => ?_) (fun c_5 => ?_)
        · -- 25 T
          refine lv_iinc (v := nI (i + 1)) (lv' := [(4, .int (nI (i + 1))), (3, .int (nI m)), (2, .int (nI a)), (0, .ref P), (1, .int (nI p))]) hx hb dX3_press_71 hl (k := 0) rfl (nI_add _ _) (by decide) rfl (fun ls hl => ?_)
          refine lv_goto (tgt := 7) hx hb dX3_press_74 (by decide) ?_
          exact ih7 (i + 1) a m (by omega) (by first | assumption | omega) (by simp only [pr, ha, if_neg (Bool.eq_false_iff.mp c_5)]) H locs ls (ST.eq S (rfl)) (lv_sub hl [0, 1, 2, 3, 4] (rfl))
        · -- 25 F
          refine lv_iload_n hx hb dX3_press_28 rfl (lv_at hl 2 rfl) ?_
          refine lv_aload_n hx hb dX3_press_29 rfl (lv_at hl 3 rfl) ?_
          refine top_get C S inX3_press_X3 rfl 0 rfl 0 (by decide) (by decide +kernel) rfl rfl dX3_press_30 ?_
          refine lv_iload hx hb dX3_press_33 (lv_at hl 0 rfl) ?_
          refine top_ild C S 1 rfl (j := i) rfl (by omega) (by decide) dX3_press_35 ?_
          refine top_eq (y := nI (Rr i)) (hR _ (by omega)) ?_
          refine lv_imul hx hb dX3_press_36 ?_
          refine top_eq (y := nI (a * (Rr i))) (pk_mul _ _) ?_
          refine lv_iload_n hx hb dX3_press_37 rfl (lv_at hl 1 rfl) ?_
          refine lv_isub hx hb dX3_press_38 ?_
          refine lv_iload_n hx hb dX3_press_39 rfl (lv_at hl 4 rfl) ?_
          refine lv_icmp_ge (tgt := 71) hx hb dX3_press_40 (by decide) (fun c_6 => ?_) (fun c_6 => ?_)
          · -- 40 T
            have c_6 := (sub_lt_N (by omega) (by omega) (by omega)).mp c_6
            refine lv_iinc (v := nI (i + 1)) (lv' := [(4, .int (nI (i + 1))), (3, .int (nI m)), (2, .int (nI a)), (0, .ref P), (1, .int (nI p))]) hx hb dX3_press_71 hl (k := 0) rfl (nI_add _ _) (by decide) rfl (fun ls hl => ?_)
            refine lv_goto (tgt := 7) hx hb dX3_press_74 (by decide) ?_
            exact ih7 (i + 1) a m (by omega) (by first | assumption | omega) (by simp only [pr, ha, if_pos c_5, if_pos c_6]) H locs ls (ST.eq S (rfl)) (lv_sub hl [0, 1, 2, 3, 4] (rfl))
          · -- 40 F
            have c_6 : ¬ p + m ≤ a * Rr i := fun q9 => c_6 ((sub_lt_N (by omega) (by omega) (by omega)).mpr q9)
            refine lv_iload_n hx hb dX3_press_43 rfl (lv_at hl 2 rfl) ?_
            refine lv_aload_n hx hb dX3_press_44 rfl (lv_at hl 3 rfl) ?_
            refine top_get C S inX3_press_X3 rfl 0 rfl 1 (by decide) (by decide +kernel) rfl rfl dX3_press_45 ?_
            refine lv_iload hx hb dX3_press_48 (lv_at hl 0 rfl) ?_
            refine top_ild C S 2 rfl (j := i) rfl (by omega) (by decide) dX3_press_50 ?_
            refine top_eq (y := nI (st i)) (hS _ (by omega)) ?_
            refine lv_iadd hx hb dX3_press_51 ?_
            refine top_eq (y := nI (a + (st i))) (nI_add _ _) ?_
            refine lv_istore_n (lv' := [(2, .int (nI (a + (st i)))), (4, .int (nI i)), (3, .int (nI m)), (0, .ref P), (1, .int (nI p))]) hx hb dX3_press_52 rfl hl (by decide) rfl (fun ls hl => ?_)
            refine lv_iload_n hx hb dX3_press_53 rfl (lv_at hl 2 rfl) ?_
            refine lv_aload_n hx hb dX3_press_54 rfl (lv_at hl 3 rfl) ?_
            refine top_get C S inX3_press_X3 rfl 0 rfl 1 (by decide) (by decide +kernel) rfl rfl dX3_press_55 ?_
            refine lv_iload hx hb dX3_press_58 (lv_at hl 1 rfl) ?_
            refine top_ild C S 2 rfl (j := i) rfl (by omega) (by decide) dX3_press_60 ?_
            refine top_eq (y := nI (st i)) (hS _ (by omega)) ?_
            refine lv_aload_n hx hb dX3_press_61 rfl (lv_at hl 3 rfl) ?_
            refine top_get C S inX3_press_X3 rfl 0 rfl 0 (by decide) (by decide +kernel) rfl rfl dX3_press_62 ?_
            refine lv_iload hx hb dX3_press_65 (lv_at hl 1 rfl) ?_
            refine top_ild C S 1 rfl (j := i) rfl (by omega) (by decide) dX3_press_67 ?_
            refine top_eq (y := nI (Rr i)) (hR _ (by omega)) ?_
            refine lv_imul hx hb dX3_press_68 ?_
            refine top_eq (y := nI ((st i) * (Rr i))) (pk_mul _ _) ?_
            refine lv_iadd hx hb dX3_press_69 ?_
            refine top_eq (y := nI (m + ((st i) * (Rr i)))) (nI_add _ _) ?_
            refine lv_istore_n (lv' := [(3, .int (nI (m + ((st i) * (Rr i))))), (2, .int (nI (a + (st i)))), (4, .int (nI i)), (0, .ref P), (1, .int (nI p))]) hx hb dX3_press_70 rfl hl (by decide) rfl (fun ls hl => ?_)
            refine lv_iinc (v := nI (i + 1)) (lv' := [(4, .int (nI (i + 1))), (3, .int (nI (m + ((st i) * (Rr i))))), (2, .int (nI (a + (st i)))), (0, .ref P), (1, .int (nI p))]) hx hb dX3_press_71 hl (k := 2) rfl (nI_add _ _) (by decide) rfl (fun ls hl => ?_)
            refine lv_goto (tgt := 7) hx hb dX3_press_74 (by decide) ?_
            exact ih7 (i + 1) (a + (st i)) (m + ((st i) * (Rr i))) (by omega) (by first | assumption | omega) (by simp only [pr, ha, if_pos c_5, if_neg c_6]) H locs ls (ST.eq S (rfl)) (lv_sub hl [0, 1, 2, 3, 4] (rfl))
  exact loop7 _ 0 0 0 (Nat.lt_succ_self _) (by first | assumption | omega) (rfl) H locs ls (ST.eq S (rfl)) (lv_sub hl [0, 1, 2, 3, 4] (rfl))

theorem inX3_cut_X3 : ∀ w ∈ wsX30, w ∈ wsX3_cut := by decide +kernel
set_option maxRecDepth 100000 in
set_option maxHeartbeats 4000000 in
theorem kX3_cut (l : Launch) (g : GG) (P : Nat) (ra : Nat) (sa : Nat) (ta : Nat) (rf : Nat → Int32) (sf : Nat → Int32) (tf : Nat → Int32) (n : Nat) (b : Nat) (U : Nat) (Lw : Nat) (p5 : Int32) (hU : U ≤ 20000) (hL : Lw ≤ 72) : KI l g yX3_cut wsX3_cut 0 0 [.ref P] [(P, ob 3 [.ref ra, .ref sa, .ref ta, .int (nI n), .int (nI b), .int (nI U), .int (nI Lw), .int p5]), (ra, aI g 8 rf), (sa, aI g 8 sf), (ta, aI g 8 tf)] (fun (r : Int32) (w' : va_W) => r = (cutI U Lw) ∧ w' = [(P, ob 3 [.ref ra, .ref sa, .ref ta, .int (nI n), .int (nI b), .int (nI U), .int (nI Lw), .int p5]), (ra, aI g 8 rf), (sa, aI g 8 sf), (ta, aI g 8 tf)]) := by
  refine kI_of (cc := cX3_cut) (maxL := 1) (by decide) rfl (Nat.le_of_ble_eq_true rfl) ?_
  intro pp ee ss mm bel mth cd A ls C S hr hl
  obtain ⟨hx, hb, hml, hown, hts⟩ := id C.1
  have hl : lv_has ls 1 [(0, .ref P)] := hl
  obtain ⟨H, hH⟩ : ∃ H, H = ss.heap := ⟨_, rfl⟩
  obtain ⟨locs, hL0⟩ : ∃ L : List Loc, L = [] := ⟨_, rfl⟩
  rw [← hH, ← hL0] at S ⊢
  refine lv_aload_n hx hb dX3_cut_0 rfl (lv_at hl 0 rfl) ?_
  refine top_get C S inX3_cut_X3 rfl 0 rfl 6 (by decide) (by decide +kernel) rfl rfl dX3_cut_1 ?_
  refine bn_zle (tgt := 19) (a := Lw) hx hb rfl (by omega) dX3_cut_4 (by decide) (fun c_1 => ?_) (fun c_1 => ?_)
  · -- 4 T
    refine lv_bipush (v := (-9)) hx hb dX3_cut_19 (by decide) ?_
    exact ret_I C S hr dX3_cut_21 ⟨(by unfold cutI; rw [if_pos c_1]), (rfl)⟩
  · -- 4 F
    refine lv_aload_n hx hb dX3_cut_7 rfl (lv_at hl 0 rfl) ?_
    refine top_get C S inX3_cut_X3 rfl 0 rfl 5 (by decide) (by decide +kernel) rfl rfl dX3_cut_8 ?_
    refine lv_aload_n hx hb dX3_cut_11 rfl (lv_at hl 0 rfl) ?_
    refine top_get C S inX3_cut_X3 rfl 0 rfl 6 (by decide) (by decide +kernel) rfl rfl dX3_cut_12 ?_
    refine lv_idiv hx hb dX3_cut_15 (nI_ne0 (n := Lw) (by omega) (by omega)) ?_
    refine top_eq (y := nI (U / Lw)) (pk_div (a := U) (d := Lw) (by omega) (by omega) (by omega)) ?_
    refine lv_goto (tgt := 21) hx hb dX3_cut_16 (by decide) ?_
    exact ret_I C S hr dX3_cut_21 ⟨(by unfold cutI; rw [if_neg c_1]), (rfl)⟩

set_option maxRecDepth 100000 in
set_option maxHeartbeats 4000000 in
theorem kX3_cutBy (l : Launch) (g : GG) (P : Nat) (ra : Nat) (sa : Nat) (ta : Nat) (rf : Nat → Int32) (sf : Nat → Int32) (tf : Nat → Int32) (n : Nat) (b : Nat) (p3 : Int32) (p4 : Int32) (p5 : Int32) (Rr : Nat → Nat) (st : Nat → Nat) (sg : Nat → Nat) (p : Nat) (hn : n ≤ 8) (hbb : b < 512) (hR : ∀ j, j < n → rf j = nI (Rr j)) (hS : ∀ j, j < n → sf j = nI (st j)) (hT : ∀ j, j < n → tf j = nI (sg j)) (hRb : ∀ i, i < n → Rr i ≤ 240) (hSb : ∀ i, i < n → st i ≤ 9) (hTb : ∀ i, i < n → sg i ≤ 99) (hp : p ≤ 999) : KI l g yX3_cutBy wsX3_cutBy 2 45 [.ref P, .int (nI p)] [(P, ob 3 [.ref ra, .ref sa, .ref ta, .int (nI n), .int (nI b), .int p3, .int p4, .int p5]), (ra, aI g 8 rf), (sa, aI g 8 sf), (ta, aI g 8 tf)] (fun (r : Int32) (w' : va_W) => r = (cutI (uppN st Rr b p n) (lowN st Rr b p n)) ∧ w' = [(P, ob 3 [.ref ra, .ref sa, .ref ta, .int (nI n), .int (nI b), .int (nI (uppN st Rr b p n)), .int (nI (lowN st Rr b p n)), .int (nI ((pr st Rr b p n).1))]), (ra, aI g 8 rf), (sa, aI g 8 sf), (ta, aI g 8 tf)]) := by
  refine kI_of (cc := cX3_cutBy) (maxL := 2) (by decide) rfl (Nat.le_of_ble_eq_true rfl) ?_
  intro pp ee ss mm bel mth cd A ls C S hr hl
  obtain ⟨hx, hb, hml, hown, hts⟩ := id C.1
  have hl : lv_has ls 2 [(0, .ref P), (1, .int (nI p))] := hl
  obtain ⟨H, hH⟩ : ∃ H, H = ss.heap := ⟨_, rfl⟩
  obtain ⟨locs, hL0⟩ : ∃ L : List Loc, L = [] := ⟨_, rfl⟩
  rw [← hH, ← hL0] at S ⊢
  refine lv_aload_n hx hb dX3_cutBy_0 rfl (lv_at hl 0 rfl) ?_
  refine lv_iload_n hx hb dX3_cutBy_1 rfl (lv_at hl 1 rfl) ?_
  refine after_I (wc := [(P, ob 3 [.ref ra, .ref sa, .ref ta, .int (nI n), .int (nI b), .int p3, .int p4, .int p5]), (ra, aI g 8 rf), (sa, aI g 8 sf), (ta, aI g 8 tf)]) (y := yX3_press) C S (va_runV (As := [.int (nI p)]) (rest := []) C.1 (kX3_press l g P ra sa ta rf sf tf n b p3 p4 p5 Rr st sg p (by first | assumption | omega) (by first | assumption | omega) (by first | assumption | omega) (by first | assumption | omega) (by first | assumption | omega) (by first | assumption | omega) (by first | assumption | omega) (by first | assumption | omega) (by first | assumption | omega) H.size) (cwV 1 hts gX3_cutBy_X3_press rfl rfl rfl (by decide +kernel) ⟨Nat.le_of_ble_eq_true rfl, Nat.le_of_ble_eq_true rfl⟩) (preV_at C S 0 rfl rfl [0, 1, 2, 3] rfl (by decide)) rfl rfl hl.1 rfl (lv_room (Nat.le_of_ble_eq_true rfl)) dX3_cutBy_2 ⟨Nat.le_of_ble_eq_true rfl, Nat.le_of_ble_eq_true rfl⟩) [0, 1, 2, 3] [] rfl (wr := []) rfl (by decide) (by decide) (fun r0 w0 H locs hq S => ?_)
  obtain ⟨rfl, rfl⟩ := hq
  have S : ST g A ss H locs [(P, ob 3 [.ref ra, .ref sa, .ref ta, .int (nI n), .int (nI b), .int (nI (uppN st Rr b p n)), .int (nI (lowN st Rr b p n)), .int (nI ((pr st Rr b p n).1))]), (ra, aI g 8 rf), (sa, aI g 8 sf), (ta, aI g 8 tf)] := S
  refine br_eqB (tgt := 15) hx hb dX3_cutBy_5 (by decide) (fun c_1 => ?_) (fun c_1 => ?_)
  · -- 5 T
    refine lv_bipush (v := (-9)) hx hb dX3_cutBy_15 (by decide) ?_
    exact ret_I C S hr dX3_cutBy_17 ⟨(by unfold cutI; rw [if_pos (by have := of_decide_eq_false c_1; omega)]), (rfl)⟩
  · -- 5 F
    refine lv_aload_n hx hb dX3_cutBy_8 rfl (lv_at hl 0 rfl) ?_
    refine after_I (wc := [(P, ob 3 [.ref ra, .ref sa, .ref ta, .int (nI n), .int (nI b), .int (nI (uppN st Rr b p n)), .int (nI (lowN st Rr b p n)), .int (nI ((pr st Rr b p n).1))]), (ra, aI g 8 rf), (sa, aI g 8 sf), (ta, aI g 8 tf)]) (y := yX3_cut) C S (va_runV (As := []) (rest := []) C.1 (kX3_cut l g P ra sa ta rf sf tf n b (uppN st Rr b p n) (lowN st Rr b p n) (nI ((pr st Rr b p n).1)) (upp_le hn hp hSb hRb) (low_le hn hSb hRb) H.size) (cwV 0 hts gX3_cutBy_X3_cut rfl rfl rfl (by decide +kernel) ⟨Nat.le_of_ble_eq_true rfl, Nat.le_of_ble_eq_true rfl⟩) (preV_at C S 0 rfl rfl [0, 1, 2, 3] rfl (by decide)) rfl rfl hl.1 rfl (lv_room (Nat.le_of_ble_eq_true rfl)) dX3_cutBy_9 ⟨Nat.le_of_ble_eq_true rfl, Nat.le_of_ble_eq_true rfl⟩) [0, 1, 2, 3] [] rfl (wr := []) rfl (by decide) (by decide) (fun r0 w0 H locs hq S => ?_)
    obtain ⟨rfl, rfl⟩ := hq
    have S : ST g A ss H locs [(P, ob 3 [.ref ra, .ref sa, .ref ta, .int (nI n), .int (nI b), .int (nI (uppN st Rr b p n)), .int (nI (lowN st Rr b p n)), .int (nI ((pr st Rr b p n).1))]), (ra, aI g 8 rf), (sa, aI g 8 sf), (ta, aI g 8 tf)] := S
    refine lv_goto (tgt := 17) hx hb dX3_cutBy_12 (by decide) ?_
    exact ret_I C S hr dX3_cutBy_17 ⟨(rfl), (rfl)⟩

theorem inX3_borne_X3 : ∀ w ∈ wsX30, w ∈ wsX3_borne := by decide +kernel
set_option maxRecDepth 100000 in
set_option maxHeartbeats 4000000 in
theorem kX3_borne (l : Launch) (g : GG) (P : Nat) (ra : Nat) (sa : Nat) (ta : Nat) (rf : Nat → Int32) (sf : Nat → Int32) (tf : Nat → Int32) (n : Nat) (b : Nat) (U : Nat) (Lw : Nat) (p5 : Int32) (Rr : Nat → Nat) (st : Nat → Nat) (sg : Nat → Nat) (j : Nat) (hn : n ≤ 8) (hbb : b < 512) (hR : ∀ j, j < n → rf j = nI (Rr j)) (hS : ∀ j, j < n → sf j = nI (st j)) (hT : ∀ j, j < n → tf j = nI (sg j)) (hRb : ∀ i, i < n → Rr i ≤ 240) (hSb : ∀ i, i < n → st i ≤ 9) (hTb : ∀ i, i < n → sg i ≤ 99) (hU : U ≤ 20000) (hL : Lw ≤ 72) (hj : j < n) : KI l g yX3_borne wsX3_borne 1 21 [.ref P, .int (nI j)] [(P, ob 3 [.ref ra, .ref sa, .ref ta, .int (nI n), .int (nI b), .int (nI U), .int (nI Lw), .int p5]), (ra, aI g 8 rf), (sa, aI g 8 sf), (ta, aI g 8 tf)] (fun (r : Int32) (w' : va_W) => r = (nI (boN st Rr b U Lw j)) ∧ w' = [(P, ob 3 [.ref ra, .ref sa, .ref ta, .int (nI n), .int (nI b), .int (nI U), .int (nI Lw), .int p5]), (ra, aI g 8 rf), (sa, aI g 8 sf), (ta, aI g 8 tf)]) := by
  refine kI_of (cc := cX3_borne) (maxL := 2) (by decide) rfl (Nat.le_of_ble_eq_true rfl) ?_
  intro pp ee ss mm bel mth cd A ls C S hr hl
  obtain ⟨hx, hb, hml, hown, hts⟩ := id C.1
  have hl : lv_has ls 2 [(0, .ref P), (1, .int (nI j))] := hl
  obtain ⟨H, hH⟩ : ∃ H, H = ss.heap := ⟨_, rfl⟩
  obtain ⟨locs, hL0⟩ : ∃ L : List Loc, L = [] := ⟨_, rfl⟩
  rw [← hH, ← hL0] at S ⊢
  have e3 : Rr j * Lw ≤ 240 * 72 := Nat.mul_le_mul (hRb j hj) hL
  refine lv_aload_n hx hb dX3_borne_0 rfl (lv_at hl 0 rfl) ?_
  refine top_get C S inX3_borne_X3 rfl 0 rfl 4 (by decide) (by decide +kernel) rfl rfl dX3_borne_1 ?_
  refine lv_iload_n hx hb dX3_borne_4 rfl (lv_at hl 1 rfl) ?_
  refine after_I (wc := []) (y := yX6_holds) C S (va_runSN (As := [.int (nI b), .int (nI j)]) (rest := []) C.1 (kX6_holds l g b j (by first | assumption | omega) (by first | assumption | omega) H.size) ⟨va_cnB 2 hts gX3_borne_X6_holds_n31 rfl rfl rfl (C.2.2.1.1.2 ("StackedLeaves$Pack", 31, yX6_holds) (by decide +kernel)) (hts (.initialized RX6) (by decide +kernel)) (by decide +kernel) ⟨Nat.le_of_ble_eq_true rfl, Nat.le_of_ble_eq_true rfl⟩, hts (.static yX6_holds) (by decide +kernel), trivial⟩ (preS_at C S [] rfl (by decide)) rfl rfl hl.1 rfl (lv_room (Nat.le_of_ble_eq_true rfl)) dX3_borne_5 ⟨Nat.le_of_ble_eq_true rfl, Nat.le_of_ble_eq_true rfl⟩) [] [0, 1, 2, 3] rfl (wr := [(P, ob 3 [.ref ra, .ref sa, .ref ta, .int (nI n), .int (nI b), .int (nI U), .int (nI Lw), .int p5]), (ra, aI g 8 rf), (sa, aI g 8 sf), (ta, aI g 8 tf)]) rfl (by decide) (by decide) (fun r0 w0 H locs hq S => ?_)
  obtain ⟨rfl, rfl⟩ := hq
  have S : ST g A ss H locs [(P, ob 3 [.ref ra, .ref sa, .ref ta, .int (nI n), .int (nI b), .int (nI U), .int (nI Lw), .int p5]), (ra, aI g 8 rf), (sa, aI g 8 sf), (ta, aI g 8 tf)] := S
  refine br_eqB (tgt := 41) hx hb dX3_borne_8 (by decide) (fun c_1 => ?_) (fun c_1 => ?_)
  · -- 8 T
    refine lv_iconst (v := 0) hx hb dX3_borne_41 (by decide) ?_
    exact ret_I C S hr dX3_borne_42 ⟨(by unfold boN; rw [if_neg (Bool.eq_false_iff.mp c_1)] <;> rfl), (rfl)⟩
  · -- 8 F
    refine lv_aload_n hx hb dX3_borne_11 rfl (lv_at hl 0 rfl) ?_
    refine top_get C S inX3_borne_X3 rfl 0 rfl 1 (by decide) (by decide +kernel) rfl rfl dX3_borne_12 ?_
    refine lv_iload_n hx hb dX3_borne_15 rfl (lv_at hl 1 rfl) ?_
    refine top_ild C S 2 rfl (j := j) rfl (by omega) (by decide) dX3_borne_16 ?_
    refine top_eq (y := nI (st j)) (hS _ (by omega)) ?_
    refine lv_iconst (v := 0) hx hb dX3_borne_17 (by decide) ?_
    refine lv_aload_n hx hb dX3_borne_18 rfl (lv_at hl 0 rfl) ?_
    refine top_get C S inX3_borne_X3 rfl 0 rfl 5 (by decide) (by decide +kernel) rfl rfl dX3_borne_19 ?_
    refine lv_aload_n hx hb dX3_borne_22 rfl (lv_at hl 0 rfl) ?_
    refine top_get C S inX3_borne_X3 rfl 0 rfl 0 (by decide) (by decide +kernel) rfl rfl dX3_borne_23 ?_
    refine lv_iload_n hx hb dX3_borne_26 rfl (lv_at hl 1 rfl) ?_
    refine top_ild C S 1 rfl (j := j) rfl (by omega) (by decide) dX3_borne_27 ?_
    refine top_eq (y := nI (Rr j)) (hR _ (by omega)) ?_
    refine lv_aload_n hx hb dX3_borne_28 rfl (lv_at hl 0 rfl) ?_
    refine top_get C S inX3_borne_X3 rfl 0 rfl 6 (by decide) (by decide +kernel) rfl rfl dX3_borne_29 ?_
    refine lv_imul hx hb dX3_borne_32 ?_
    refine top_eq (y := nI ((Rr j) * Lw)) (pk_mul _ _) ?_
    refine lv_isub hx hb dX3_borne_33 ?_
    refine va_mmax hx hb (hml.trans hl.1.symm) hown (hts (.methodLink RX3 59 Lib.Math.max.name) (by decide +kernel)) (hts (.static Lib.Math.max.name) (by decide +kernel)) (hts (.initialized "java/lang/Math") (by decide +kernel)) (hts (.code Lib.Math.max.name Lib.Math.max.code 2 (some .int)) (by decide +kernel)) (Nat.le_of_ble_eq_true rfl) (Nat.le_of_ble_eq_true rfl) (Nat.le_of_ble_eq_true rfl) (Nat.le_of_ble_eq_true rfl) dX3_borne_34 ?_
    refine top_eq (y := imax 0 ((nI U) - (nI ((Rr j) * Lw)))) rfl ?_
    refine top_eq (y := nI (U - Rr j * Lw)) (max_0 (by omega) (by omega)) ?_
    refine lv_imul hx hb dX3_borne_37 ?_
    refine top_eq (y := nI ((st j) * (U - Rr j * Lw))) (pk_mul _ _) ?_
    refine lv_goto (tgt := 42) hx hb dX3_borne_38 (by decide) ?_
    exact ret_I C S hr dX3_borne_42 ⟨(by unfold boN; rw [if_pos c_1] <;> rfl), (rfl)⟩

theorem inX3_excess_X3 : ∀ w ∈ wsX30, w ∈ wsX3_excess := by decide +kernel
set_option maxRecDepth 100000 in
set_option maxHeartbeats 4000000 in
theorem kX3_excess (l : Launch) (g : GG) (P : Nat) (ra : Nat) (sa : Nat) (ta : Nat) (rf : Nat → Int32) (sf : Nat → Int32) (tf : Nat → Int32) (n : Nat) (b : Nat) (U : Nat) (Lw : Nat) (p5 : Int32) (Rr : Nat → Nat) (st : Nat → Nat) (sg : Nat → Nat) (j : Nat) (hn : n ≤ 8) (hbb : b < 512) (hR : ∀ j, j < n → rf j = nI (Rr j)) (hS : ∀ j, j < n → sf j = nI (st j)) (hT : ∀ j, j < n → tf j = nI (sg j)) (hRb : ∀ i, i < n → Rr i ≤ 240) (hSb : ∀ i, i < n → st i ≤ 9) (hTb : ∀ i, i < n → sg i ≤ 99) (hU : U ≤ 20000) (hL : Lw ≤ 72) (hj : j < n) : KI l g yX3_excess wsX3_excess 2 42 [.ref P, .int (nI j)] [(P, ob 3 [.ref ra, .ref sa, .ref ta, .int (nI n), .int (nI b), .int (nI U), .int (nI Lw), .int p5]), (ra, aI g 8 rf), (sa, aI g 8 sf), (ta, aI g 8 tf)] (fun (r : Int32) (w' : va_W) => r = (nI (boN st Rr b U Lw j) - nI (sg j * Lw)) ∧ w' = [(P, ob 3 [.ref ra, .ref sa, .ref ta, .int (nI n), .int (nI b), .int (nI U), .int (nI Lw), .int p5]), (ra, aI g 8 rf), (sa, aI g 8 sf), (ta, aI g 8 tf)]) := by
  refine kI_of (cc := cX3_excess) (maxL := 2) (by decide) rfl (Nat.le_of_ble_eq_true rfl) ?_
  intro pp ee ss mm bel mth cd A ls C S hr hl
  obtain ⟨hx, hb, hml, hown, hts⟩ := id C.1
  have hl : lv_has ls 2 [(0, .ref P), (1, .int (nI j))] := hl
  obtain ⟨H, hH⟩ : ∃ H, H = ss.heap := ⟨_, rfl⟩
  obtain ⟨locs, hL0⟩ : ∃ L : List Loc, L = [] := ⟨_, rfl⟩
  rw [← hH, ← hL0] at S ⊢
  refine lv_aload_n hx hb dX3_excess_0 rfl (lv_at hl 0 rfl) ?_
  refine lv_iload_n hx hb dX3_excess_1 rfl (lv_at hl 1 rfl) ?_
  refine after_I (wc := [(P, ob 3 [.ref ra, .ref sa, .ref ta, .int (nI n), .int (nI b), .int (nI U), .int (nI Lw), .int p5]), (ra, aI g 8 rf), (sa, aI g 8 sf), (ta, aI g 8 tf)]) (y := yX3_borne) C S (va_runV (As := [.int (nI j)]) (rest := []) C.1 (kX3_borne l g P ra sa ta rf sf tf n b U Lw p5 Rr st sg j (by first | assumption | omega) (by first | assumption | omega) (by first | assumption | omega) (by first | assumption | omega) (by first | assumption | omega) (by first | assumption | omega) (by first | assumption | omega) (by first | assumption | omega) (by first | assumption | omega) (by first | assumption | omega) (by first | assumption | omega) H.size) (cwV 1 hts gX3_excess_X3_borne rfl rfl rfl (by decide +kernel) ⟨Nat.le_of_ble_eq_true rfl, Nat.le_of_ble_eq_true rfl⟩) (preV_at C S 0 rfl rfl [0, 1, 2, 3] rfl (by decide)) rfl rfl hl.1 rfl (lv_room (Nat.le_of_ble_eq_true rfl)) dX3_excess_2 ⟨Nat.le_of_ble_eq_true rfl, Nat.le_of_ble_eq_true rfl⟩) [0, 1, 2, 3] [] rfl (wr := []) rfl (by decide) (by decide) (fun r0 w0 H locs hq S => ?_)
  obtain ⟨rfl, rfl⟩ := hq
  have S : ST g A ss H locs [(P, ob 3 [.ref ra, .ref sa, .ref ta, .int (nI n), .int (nI b), .int (nI U), .int (nI Lw), .int p5]), (ra, aI g 8 rf), (sa, aI g 8 sf), (ta, aI g 8 tf)] := S
  refine lv_aload_n hx hb dX3_excess_5 rfl (lv_at hl 0 rfl) ?_
  refine top_get C S inX3_excess_X3 rfl 0 rfl 2 (by decide) (by decide +kernel) rfl rfl dX3_excess_6 ?_
  refine lv_iload_n hx hb dX3_excess_9 rfl (lv_at hl 1 rfl) ?_
  refine top_ild C S 3 rfl (j := j) rfl (by omega) (by decide) dX3_excess_10 ?_
  refine top_eq (y := nI (sg j)) (hT _ (by omega)) ?_
  refine lv_aload_n hx hb dX3_excess_11 rfl (lv_at hl 0 rfl) ?_
  refine top_get C S inX3_excess_X3 rfl 0 rfl 6 (by decide) (by decide +kernel) rfl rfl dX3_excess_12 ?_
  refine lv_imul hx hb dX3_excess_15 ?_
  refine top_eq (y := nI ((sg j) * Lw)) (pk_mul _ _) ?_
  refine lv_isub hx hb dX3_excess_16 ?_
  exact ret_I C S hr dX3_excess_17 ⟨(rfl), (rfl)⟩

theorem inX3_firstToBreak_X3 : ∀ w ∈ wsX30, w ∈ wsX3_firstToBreak := by decide +kernel
set_option maxRecDepth 100000 in
set_option maxHeartbeats 4000000 in
theorem kX3_firstToBreak (l : Launch) (g : GG) (P : Nat) (ra : Nat) (sa : Nat) (ta : Nat) (rf : Nat → Int32) (sf : Nat → Int32) (tf : Nat → Int32) (n : Nat) (b : Nat) (p3 : Int32) (p4 : Int32) (p5 : Int32) (Rr : Nat → Nat) (st : Nat → Nat) (sg : Nat → Nat) (p : Nat) (hn : n ≤ 8) (hbb : b < 512) (hR : ∀ j, j < n → rf j = nI (Rr j)) (hS : ∀ j, j < n → sf j = nI (st j)) (hT : ∀ j, j < n → tf j = nI (sg j)) (hRb : ∀ i, i < n → Rr i ≤ 240) (hSb : ∀ i, i < n → st i ≤ 9) (hTb : ∀ i, i < n → sg i ≤ 99) (hp : p ≤ 999) : KI l g yX3_firstToBreak wsX3_firstToBreak 3 63 [.ref P, .int (nI p)] [(P, ob 3 [.ref ra, .ref sa, .ref ta, .int (nI n), .int (nI b), .int p3, .int p4, .int p5]), (ra, aI g 8 rf), (sa, aI g 8 sf), (ta, aI g 8 tf)] (fun (r : Int32) (w' : va_W) => r = (oI (fb st Rr sg n p b)) ∧ w' = [(P, ob 3 [.ref ra, .ref sa, .ref ta, .int (nI n), .int (nI b), .int (nI (uppN st Rr b p n)), .int (nI (lowN st Rr b p n)), .int (nI ((pr st Rr b p n).1))]), (ra, aI g 8 rf), (sa, aI g 8 sf), (ta, aI g 8 tf)]) := by
  refine kI_of (cc := cX3_firstToBreak) (maxL := 5) (by decide) rfl (Nat.le_of_ble_eq_true rfl) ?_
  intro pp ee ss mm bel mth cd A ls C S hr hl
  obtain ⟨hx, hb, hml, hown, hts⟩ := id C.1
  have hl : lv_has ls 5 [(0, .ref P), (1, .int (nI p))] := hl
  obtain ⟨H, hH⟩ : ∃ H, H = ss.heap := ⟨_, rfl⟩
  obtain ⟨locs, hL0⟩ : ∃ L : List Loc, L = [] := ⟨_, rfl⟩
  rw [← hH, ← hL0] at S ⊢
  refine lv_aload_n hx hb dX3_firstToBreak_0 rfl (lv_at hl 0 rfl) ?_
  refine lv_iload_n hx hb dX3_firstToBreak_1 rfl (lv_at hl 1 rfl) ?_
  refine after_I (wc := [(P, ob 3 [.ref ra, .ref sa, .ref ta, .int (nI n), .int (nI b), .int p3, .int p4, .int p5]), (ra, aI g 8 rf), (sa, aI g 8 sf), (ta, aI g 8 tf)]) (y := yX3_press) C S (va_runV (As := [.int (nI p)]) (rest := []) C.1 (kX3_press l g P ra sa ta rf sf tf n b p3 p4 p5 Rr st sg p (by first | assumption | omega) (by first | assumption | omega) (by first | assumption | omega) (by first | assumption | omega) (by first | assumption | omega) (by first | assumption | omega) (by first | assumption | omega) (by first | assumption | omega) (by first | assumption | omega) H.size) (cwV 1 hts gX3_firstToBreak_X3_press rfl rfl rfl (by decide +kernel) ⟨Nat.le_of_ble_eq_true rfl, Nat.le_of_ble_eq_true rfl⟩) (preV_at C S 0 rfl rfl [0, 1, 2, 3] rfl (by decide)) rfl rfl hl.1 rfl (lv_room (Nat.le_of_ble_eq_true rfl)) dX3_firstToBreak_2 ⟨Nat.le_of_ble_eq_true rfl, Nat.le_of_ble_eq_true rfl⟩) [0, 1, 2, 3] [] rfl (wr := []) rfl (by decide) (by decide) (fun r0 w0 H locs hq S => ?_)
  obtain ⟨rfl, rfl⟩ := hq
  have S : ST g A ss H locs [(P, ob 3 [.ref ra, .ref sa, .ref ta, .int (nI n), .int (nI b), .int (nI (uppN st Rr b p n)), .int (nI (lowN st Rr b p n)), .int (nI ((pr st Rr b p n).1))]), (ra, aI g 8 rf), (sa, aI g 8 sf), (ta, aI g 8 tf)] := S
  refine br_neB (tgt := 10) hx hb dX3_firstToBreak_5 (by decide) (fun c_1 => ?_) (fun c_1 => ?_)
  · -- 5 T
    have hpos := of_decide_eq_true c_1
    refine lv_iconst (v := (-1)) hx hb dX3_firstToBreak_10 (by decide) ?_
    refine lv_istore_n (lv' := [(2, .int (-1)), (0, .ref P), (1, .int (nI p))]) hx hb dX3_firstToBreak_11 rfl hl (by decide) rfl (fun ls hl => ?_)
    refine lv_iconst (v := 0) hx hb dX3_firstToBreak_12 (by decide) ?_
    refine lv_istore_n (lv' := [(3, .int 0), (2, .int (-1)), (0, .ref P), (1, .int (nI p))]) hx hb dX3_firstToBreak_13 rfl hl (by decide) rfl (fun ls hl => ?_)
    refine lv_iconst (v := 0) hx hb dX3_firstToBreak_14 (by decide) ?_
    refine lv_istore (lv' := [(4, .int 0), (3, .int 0), (2, .int (-1)), (0, .ref P), (1, .int (nI p))]) hx hb dX3_firstToBreak_15 hl (by decide) rfl (fun ls hl => ?_)
    have loop17 : ∀ (N0 : Nat) (i : Nat) (x : Nat) (o : Option Nat), n - i < N0 → (i ≤ n) → (fbk (fun j => boN st Rr b (uppN st Rr b p n) (lowN st Rr b p n) j) (fun j => sg j * lowN st Rr b p n) i = (o, x)) → (x ≤ 200000) → ∀ (H : Heap) (locs : List Loc) (ls : Array Slot), ST g A ss H locs [(P, ob 3 [.ref ra, .ref sa, .ref ta, .int (nI n), .int (nI b), .int (nI (uppN st Rr b p n)), .int (nI (lowN st Rr b p n)), .int (nI ((pr st Rr b p n).1))]), (ra, aI g 8 rf), (sa, aI g 8 sf), (ta, aI g 8 tf)] → lv_has ls 5 [(4, .int (nI i)), (3, .int (nI x)), (2, .int (oI o)), (0, .ref P), (1, .int (nI p))] → W pp l ee { frames := 3, cells := 0, slots := 0, locals := 63 } ss mm ([.ref P, .int (nI p)] : List Value).toArray bel mth cd H locs 0 0 (QI bel ([.ref P, .int (nI p)] : List Value).toArray ss g A (fun (r : Int32) (w' : va_W) => r = (oI (fb st Rr sg n p b)) ∧ w' = [(P, ob 3 [.ref ra, .ref sa, .ref ta, .int (nI n), .int (nI b), .int (nI (uppN st Rr b p n)), .int (nI (lowN st Rr b p n)), .int (nI ((pr st Rr b p n).1))]), (ra, aI g 8 rf), (sa, aI g 8 sf), (ta, aI g 8 tf)])) (F0 mm 17 ls []) := by
      intro N0
      induction N0 with
      | zero => intro i x o hN; exact absurd hN (Nat.not_lt_zero _)
      | succ N0 ih17 =>
        intro i x o hN hi ho hx1 H locs ls S hl
        refine lv_iload hx hb dX3_firstToBreak_17 (lv_at hl 0 rfl) ?_
        refine lv_aload_n hx hb dX3_firstToBreak_19 rfl (lv_at hl 3 rfl) ?_
        refine top_get C S inX3_firstToBreak_X3 rfl 0 rfl 3 (by decide) (by decide +kernel) rfl rfl dX3_firstToBreak_20 ?_
        refine bn_ige (tgt := 52) (a := i) (b := n) hx hb rfl rfl (by omega) (by omega) dX3_firstToBreak_23 (by decide) (fun c_2 => ?_) (fun c_2 => ?_)
        · -- 23 T
          have hin : i = n := by omega
          rw [hin] at ho
          refine lv_iload_n hx hb dX3_firstToBreak_52 rfl (lv_at hl 2 rfl) ?_
          exact ret_I C S hr dX3_firstToBreak_53 ⟨(by unfold fb; rw [if_pos hpos, ho]), (rfl)⟩
        · -- 23 F
          have e1 : boN st Rr b (uppN st Rr b p n) (lowN st Rr b p n) i ≤ 180000 := bo_le (upp_le hn hp hSb hRb) (hSb i (by omega))
          have e2 : sg i * lowN st Rr b p n ≤ 99 * 72 := Nat.mul_le_mul (hTb i (by omega)) (low_le hn hSb hRb)
          refine lv_aload_n hx hb dX3_firstToBreak_26 rfl (lv_at hl 3 rfl) ?_
          refine lv_iload hx hb dX3_firstToBreak_27 (lv_at hl 0 rfl) ?_
          refine after_I (wc := [(P, ob 3 [.ref ra, .ref sa, .ref ta, .int (nI n), .int (nI b), .int (nI (uppN st Rr b p n)), .int (nI (lowN st Rr b p n)), .int (nI ((pr st Rr b p n).1))]), (ra, aI g 8 rf), (sa, aI g 8 sf), (ta, aI g 8 tf)]) (y := yX3_excess) C S (va_runV (As := [.int (nI i)]) (rest := []) C.1 (kX3_excess l g P ra sa ta rf sf tf n b (uppN st Rr b p n) (lowN st Rr b p n) (nI ((pr st Rr b p n).1)) Rr st sg i (by first | assumption | omega) (by first | assumption | omega) (by first | assumption | omega) (by first | assumption | omega) (by first | assumption | omega) (by first | assumption | omega) (by first | assumption | omega) (by first | assumption | omega) (upp_le hn hp hSb hRb) (low_le hn hSb hRb) (by first | assumption | omega) H.size) (cwV 1 hts gX3_firstToBreak_X3_excess rfl rfl rfl (by decide +kernel) ⟨Nat.le_of_ble_eq_true rfl, Nat.le_of_ble_eq_true rfl⟩) (preV_at C S 0 rfl rfl [0, 1, 2, 3] rfl (by decide)) rfl rfl hl.1 rfl (lv_room (Nat.le_of_ble_eq_true rfl)) dX3_firstToBreak_29 ⟨Nat.le_of_ble_eq_true rfl, Nat.le_of_ble_eq_true rfl⟩) [0, 1, 2, 3] [] rfl (wr := []) rfl (by decide) (by decide) (fun r0 w0 H locs hq S => ?_)
          obtain ⟨rfl, rfl⟩ := hq
          have S : ST g A ss H locs [(P, ob 3 [.ref ra, .ref sa, .ref ta, .int (nI n), .int (nI b), .int (nI (uppN st Rr b p n)), .int (nI (lowN st Rr b p n)), .int (nI ((pr st Rr b p n).1))]), (ra, aI g 8 rf), (sa, aI g 8 sf), (ta, aI g 8 tf)] := S
          refine lv_iload_n hx hb dX3_firstToBreak_32 rfl (lv_at hl 1 rfl) ?_
          refine lv_icmp_le (tgt := 46) hx hb dX3_firstToBreak_33 (by decide) (fun c_3 => ?_) (fun c_3 => ?_)
          · -- 33 T
            have c_3 : ¬ x + sg i * lowN st Rr b p n < boN st Rr b (uppN st Rr b p n) (lowN st Rr b p n) i := by have := (sub_le_N (by omega) (by omega) (by omega)).mp c_3; omega
            refine lv_iinc (v := nI (i + 1)) (lv' := [(4, .int (nI (i + 1))), (3, .int (nI x)), (2, .int (oI o)), (0, .ref P), (1, .int (nI p))]) hx hb dX3_firstToBreak_46 hl (k := 0) rfl (nI_add _ _) (by decide) rfl (fun ls hl => ?_)
            refine lv_goto (tgt := 17) hx hb dX3_firstToBreak_49 (by decide) ?_
            exact ih17 (i + 1) x o (by omega) (by first | assumption | omega) (by simp only [fbk, ho, if_neg c_3]) (by first | assumption | omega) H locs ls (ST.eq S (rfl)) (lv_sub hl [0, 1, 2, 3, 4] (rfl))
          · -- 33 F
            have c_3 : x + sg i * lowN st Rr b p n < boN st Rr b (uppN st Rr b p n) (lowN st Rr b p n) i := by have := mt (sub_le_N (by omega) (by omega) (by omega)).mpr c_3; omega
            refine lv_iload hx hb dX3_firstToBreak_36 (lv_at hl 0 rfl) ?_
            refine lv_istore_n (lv' := [(2, .int (nI i)), (4, .int (nI i)), (3, .int (nI x)), (0, .ref P), (1, .int (nI p))]) hx hb dX3_firstToBreak_38 rfl hl (by decide) rfl (fun ls hl => ?_)
            refine lv_aload_n hx hb dX3_firstToBreak_39 rfl (lv_at hl 3 rfl) ?_
            refine lv_iload hx hb dX3_firstToBreak_40 (lv_at hl 1 rfl) ?_
            refine after_I (wc := [(P, ob 3 [.ref ra, .ref sa, .ref ta, .int (nI n), .int (nI b), .int (nI (uppN st Rr b p n)), .int (nI (lowN st Rr b p n)), .int (nI ((pr st Rr b p n).1))]), (ra, aI g 8 rf), (sa, aI g 8 sf), (ta, aI g 8 tf)]) (y := yX3_excess) C S (va_runV (As := [.int (nI i)]) (rest := []) C.1 (kX3_excess l g P ra sa ta rf sf tf n b (uppN st Rr b p n) (lowN st Rr b p n) (nI ((pr st Rr b p n).1)) Rr st sg i (by first | assumption | omega) (by first | assumption | omega) (by first | assumption | omega) (by first | assumption | omega) (by first | assumption | omega) (by first | assumption | omega) (by first | assumption | omega) (by first | assumption | omega) (upp_le hn hp hSb hRb) (low_le hn hSb hRb) (by first | assumption | omega) H.size) (cwV 1 hts gX3_firstToBreak_X3_excess rfl rfl rfl (by decide +kernel) ⟨Nat.le_of_ble_eq_true rfl, Nat.le_of_ble_eq_true rfl⟩) (preV_at C S 0 rfl rfl [0, 1, 2, 3] rfl (by decide)) rfl rfl hl.1 rfl (lv_room (Nat.le_of_ble_eq_true rfl)) dX3_firstToBreak_42 ⟨Nat.le_of_ble_eq_true rfl, Nat.le_of_ble_eq_true rfl⟩) [0, 1, 2, 3] [] rfl (wr := []) rfl (by decide) (by decide) (fun r0 w0 H locs hq S => ?_)
            obtain ⟨rfl, rfl⟩ := hq
            have S : ST g A ss H locs [(P, ob 3 [.ref ra, .ref sa, .ref ta, .int (nI n), .int (nI b), .int (nI (uppN st Rr b p n)), .int (nI (lowN st Rr b p n)), .int (nI ((pr st Rr b p n).1))]), (ra, aI g 8 rf), (sa, aI g 8 sf), (ta, aI g 8 tf)] := S
            refine top_eq (y := nI (boN st Rr b (uppN st Rr b p n) (lowN st Rr b p n) i - sg i * lowN st Rr b p n)) (pk_sub (by omega)) ?_
            refine lv_istore_n (lv' := [(3, .int (nI (boN st Rr b (uppN st Rr b p n) (lowN st Rr b p n) i - sg i * lowN st Rr b p n))), (2, .int (nI i)), (4, .int (nI i)), (0, .ref P), (1, .int (nI p))]) hx hb dX3_firstToBreak_45 rfl hl (by decide) rfl (fun ls hl => ?_)
            refine lv_iinc (v := nI (i + 1)) (lv' := [(4, .int (nI (i + 1))), (3, .int (nI (boN st Rr b (uppN st Rr b p n) (lowN st Rr b p n) i - sg i * lowN st Rr b p n))), (2, .int (nI i)), (0, .ref P), (1, .int (nI p))]) hx hb dX3_firstToBreak_46 hl (k := 2) rfl (nI_add _ _) (by decide) rfl (fun ls hl => ?_)
            refine lv_goto (tgt := 17) hx hb dX3_firstToBreak_49 (by decide) ?_
            exact ih17 (i + 1) (boN st Rr b (uppN st Rr b p n) (lowN st Rr b p n) i - sg i * lowN st Rr b p n) (some i) (by omega) (by first | assumption | omega) (by simp only [fbk, ho, if_pos c_3]) (by first | assumption | omega) H locs ls (ST.eq S (rfl)) (lv_sub hl [0, 1, 2, 3, 4] (rfl))
    exact loop17 _ 0 0 none (Nat.lt_succ_self _) (by first | assumption | omega) (rfl) (by first | assumption | omega) H locs ls (ST.eq S (rfl)) (lv_sub hl [0, 1, 2, 3, 4] (rfl))
  · -- 5 F
    refine lv_iconst (v := (-1)) hx hb dX3_firstToBreak_8 (by decide) ?_
    exact ret_I C S hr dX3_firstToBreak_9 ⟨(by unfold fb; rw [if_neg (of_decide_eq_false c_1)] <;> rfl), (rfl)⟩

theorem inX3_wholeAfter_X3 : ∀ w ∈ wsX30, w ∈ wsX3_wholeAfter := by decide +kernel
set_option maxRecDepth 100000 in
set_option maxHeartbeats 4000000 in
theorem kX3_wholeAfter (l : Launch) (g : GG) (P : Nat) (ra : Nat) (sa : Nat) (ta : Nat) (rf : Nat → Int32) (sf : Nat → Int32) (tf : Nat → Int32) (n : Nat) (b : Nat) (p3 : Int32) (p4 : Int32) (p5 : Int32) (Rr : Nat → Nat) (st : Nat → Nat) (sg : Nat → Nat) (p : Nat) (hn : n ≤ 8) (hbb : b < 256) (hR : ∀ j, j < n → rf j = nI (Rr j)) (hS : ∀ j, j < n → sf j = nI (st j)) (hT : ∀ j, j < n → tf j = nI (sg j)) (hRb : ∀ i, i < n → Rr i ≤ 240) (hSb : ∀ i, i < n → st i ≤ 9) (hTb : ∀ i, i < n → sg i ≤ 99) (hp : p ≤ 999) : KI l g yX3_wholeAfter wsX3_wholeAfter 4 87 [.ref P, .int (nI p)] [(P, ob 3 [.ref ra, .ref sa, .ref ta, .int (nI n), .int (nI b), .int p3, .int p4, .int p5]), (ra, aI g 8 rf), (sa, aI g 8 sf), (ta, aI g 8 tf)] (fun (r : Int32) (w' : va_W) => r = (nI (wa (fb st Rr sg n p) 8 b)) ∧ ∃ (u' : Int32), ∃ (l' : Int32), ∃ (v' : Int32), w' = [(P, ob 3 [.ref ra, .ref sa, .ref ta, .int (nI n), .int (nI (wa (fb st Rr sg n p) 8 b)), .int u', .int l', .int v']), (ra, aI g 8 rf), (sa, aI g 8 sf), (ta, aI g 8 tf)]) := by
  refine kI_of (cc := cX3_wholeAfter) (maxL := 4) (by decide) rfl (Nat.le_of_ble_eq_true rfl) ?_
  intro pp ee ss mm bel mth cd A ls C S hr hl
  obtain ⟨hx, hb, hml, hown, hts⟩ := id C.1
  have hl : lv_has ls 4 [(0, .ref P), (1, .int (nI p))] := hl
  obtain ⟨H, hH⟩ : ∃ H, H = ss.heap := ⟨_, rfl⟩
  obtain ⟨locs, hL0⟩ : ∃ L : List Loc, L = [] := ⟨_, rfl⟩
  rw [← hH, ← hL0] at S ⊢
  refine lv_aload_n hx hb dX3_wholeAfter_0 rfl (lv_at hl 0 rfl) ?_
  refine lv_iload_n hx hb dX3_wholeAfter_1 rfl (lv_at hl 1 rfl) ?_
  refine after_I (wc := [(P, ob 3 [.ref ra, .ref sa, .ref ta, .int (nI n), .int (nI b), .int p3, .int p4, .int p5]), (ra, aI g 8 rf), (sa, aI g 8 sf), (ta, aI g 8 tf)]) (y := yX3_firstToBreak) C S (va_runV (As := [.int (nI p)]) (rest := []) C.1 (kX3_firstToBreak l g P ra sa ta rf sf tf n b p3 p4 p5 Rr st sg p (by first | assumption | omega) (by first | omega | exact Nat.lt_of_le_of_lt (clr_le _ _) (by omega)) (by first | assumption | omega) (by first | assumption | omega) (by first | assumption | omega) (by first | assumption | omega) (by first | assumption | omega) (by first | assumption | omega) (by first | assumption | omega) H.size) (cwV 1 hts gX3_wholeAfter_X3_firstToBreak rfl rfl rfl (by decide +kernel) ⟨Nat.le_of_ble_eq_true rfl, Nat.le_of_ble_eq_true rfl⟩) (preV_at C S 0 rfl rfl [0, 1, 2, 3] rfl (by decide)) rfl rfl hl.1 rfl (lv_room (Nat.le_of_ble_eq_true rfl)) dX3_wholeAfter_2 ⟨Nat.le_of_ble_eq_true rfl, Nat.le_of_ble_eq_true rfl⟩) [0, 1, 2, 3] [] rfl (wr := []) rfl (by decide) (by decide) (fun r0 w0 H locs hq S => ?_)
  obtain ⟨rfl, rfl⟩ := hq
  have S : ST g A ss H locs [(P, ob 3 [.ref ra, .ref sa, .ref ta, .int (nI n), .int (nI b), .int (nI (uppN st Rr b p n)), .int (nI (lowN st Rr b p n)), .int (nI ((pr st Rr b p n).1))]), (ra, aI g 8 rf), (sa, aI g 8 sf), (ta, aI g 8 tf)] := S
  refine lv_istore_n (lv' := [(2, .int (oI (fb st Rr sg n p b))), (0, .ref P), (1, .int (nI p))]) hx hb dX3_wholeAfter_5 rfl hl (by decide) rfl (fun ls hl => ?_)
  refine lv_iconst (v := 0) hx hb dX3_wholeAfter_6 (by decide) ?_
  refine lv_istore_n (lv' := [(3, .int 0), (2, .int (oI (fb st Rr sg n p b))), (0, .ref P), (1, .int (nI p))]) hx hb dX3_wholeAfter_7 rfl hl (by decide) rfl (fun ls hl => ?_)
  have loop8 : ∀ (N0 : Nat) (k : Nat) (b1 : Nat) (u1 : Int32) (l1 : Int32) (v1 : Int32), 8 - k < N0 → (k ≤ 8) → (b1 < 256) → (wa (fb st Rr sg n p) (8 - k) b1 = wa (fb st Rr sg n p) 8 b) → ∀ (H : Heap) (locs : List Loc) (ls : Array Slot), ST g A ss H locs [(P, ob 3 [.ref ra, .ref sa, .ref ta, .int (nI n), .int (nI b1), .int u1, .int l1, .int v1]), (ra, aI g 8 rf), (sa, aI g 8 sf), (ta, aI g 8 tf)] → lv_has ls 4 [(3, .int (nI k)), (2, .int (oI (fb st Rr sg n p b1))), (0, .ref P), (1, .int (nI p))] → W pp l ee { frames := 4, cells := 0, slots := 0, locals := 87 } ss mm ([.ref P, .int (nI p)] : List Value).toArray bel mth cd H locs 0 0 (QI bel ([.ref P, .int (nI p)] : List Value).toArray ss g A (fun (r : Int32) (w' : va_W) => r = (nI (wa (fb st Rr sg n p) 8 b)) ∧ ∃ (u' : Int32), ∃ (l' : Int32), ∃ (v' : Int32), w' = [(P, ob 3 [.ref ra, .ref sa, .ref ta, .int (nI n), .int (nI (wa (fb st Rr sg n p) 8 b)), .int u', .int l', .int v']), (ra, aI g 8 rf), (sa, aI g 8 sf), (ta, aI g 8 tf)])) (F0 mm 8 ls []) := by
    intro N0
    induction N0 with
    | zero => intro k b1 u1 l1 v1 hN; exact absurd hN (Nat.not_lt_zero _)
    | succ N0 ih8 =>
      intro k b1 u1 l1 v1 hN hk hb1 hwa H locs ls S hl
      refine lv_iload_n hx hb dX3_wholeAfter_8 rfl (lv_at hl 1 rfl) ?_
      refine lv_if_lt (tgt := 44) hx hb dX3_wholeAfter_9 (by decide) (fun c_1 => ?_) (fun c_1 => ?_)
      · -- 9 T
        have hnone := oI_neg (fun j9 h9 => by have := fb_lt h9; omega) c_1
        refine lv_aload_n hx hb dX3_wholeAfter_44 rfl (lv_at hl 2 rfl) ?_
        refine top_get C S inX3_wholeAfter_X3 rfl 0 rfl 4 (by decide) (by decide +kernel) rfl rfl dX3_wholeAfter_45 ?_
        exact ret_I C S hr dX3_wholeAfter_48 ⟨(by rw [← hwa]; first | rw [wa_none hnone] | (rw [show 8 - k = 0 by omega] <;> rfl)), u1, l1, v1, (by rw [← hwa]; first | rw [wa_none hnone] | (rw [show 8 - k = 0 by omega] <;> rfl))⟩
      · -- 9 F
        obtain ⟨j, hj⟩ := oI_pos c_1
        have hjn := fb_lt hj
        rw [hj] at hl
        have hl : lv_has ls 4 [(3, .int (nI k)), (2, .int (nI j)), (0, .ref P), (1, .int (nI p))] := hl
        refine lv_iload_n hx hb dX3_wholeAfter_12 rfl (lv_at hl 0 rfl) ?_
        refine lv_bipush (v := 8) hx hb dX3_wholeAfter_13 (by decide) ?_
        refine bn_ige (tgt := 44) (a := k) (b := 8) hx hb rfl rfl (by omega) (by omega) dX3_wholeAfter_15 (by decide) (fun c_2 => ?_) (fun c_2 => ?_)
        · -- 15 T
          refine lv_aload_n hx hb dX3_wholeAfter_44 rfl (lv_at hl 2 rfl) ?_
          refine top_get C S inX3_wholeAfter_X3 rfl 0 rfl 4 (by decide) (by decide +kernel) rfl rfl dX3_wholeAfter_45 ?_
          exact ret_I C S hr dX3_wholeAfter_48 ⟨(by rw [← hwa]; first | rw [wa_none hnone] | (rw [show 8 - k = 0 by omega] <;> rfl)), u1, l1, v1, (by rw [← hwa]; first | rw [wa_none hnone] | (rw [show 8 - k = 0 by omega] <;> rfl))⟩
        · -- 15 F
          refine lv_aload_n hx hb dX3_wholeAfter_18 rfl (lv_at hl 2 rfl) ?_
          refine lv_dup hx hb dX3_wholeAfter_19 rfl ?_
          refine top_get C S inX3_wholeAfter_X3 rfl 0 rfl 4 (by decide) (by decide +kernel) rfl rfl dX3_wholeAfter_20 ?_
          refine lv_iconst (v := 1) hx hb dX3_wholeAfter_23 (by decide) ?_
          refine lv_iload_n hx hb dX3_wholeAfter_24 rfl (lv_at hl 1 rfl) ?_
          refine lv_ishl hx hb dX3_wholeAfter_25 ?_
          refine top_eq (y := nI (2 ^ j)) (shl_1 (by omega)) ?_
          refine lv_iconst (v := (-1)) hx hb dX3_wholeAfter_26 (by decide) ?_
          refine lv_ixor hx hb dX3_wholeAfter_27 ?_
          refine lv_iand hx hb dX3_wholeAfter_28 ?_
          refine top_eq (y := nI (clr b1 j)) (clr_N hb1 (by omega)) ?_
          refine top_put (ty := .int) C S inX3_wholeAfter_X3 tyX3 tyX3_ok nmX3 rfl 0 rfl 4 (by decide) (by decide +kernel) rfl rfl (tyX3_ok 4 (by decide)) rfl rfl (Nat.le_of_ble_eq_true rfl) dX3_wholeAfter_29 (fun H locs S => ?_)
          have S : ST g A ss H locs [(P, ob 3 [.ref ra, .ref sa, .ref ta, .int (nI n), .int (nI (clr b1 j)), .int u1, .int l1, .int v1]), (ra, aI g 8 rf), (sa, aI g 8 sf), (ta, aI g 8 tf)] := S
          refine lv_aload_n hx hb dX3_wholeAfter_32 rfl (lv_at hl 2 rfl) ?_
          refine lv_iload_n hx hb dX3_wholeAfter_33 rfl (lv_at hl 3 rfl) ?_
          refine after_I (wc := [(P, ob 3 [.ref ra, .ref sa, .ref ta, .int (nI n), .int (nI (clr b1 j)), .int u1, .int l1, .int v1]), (ra, aI g 8 rf), (sa, aI g 8 sf), (ta, aI g 8 tf)]) (y := yX3_firstToBreak) C S (va_runV (As := [.int (nI p)]) (rest := []) C.1 (kX3_firstToBreak l g P ra sa ta rf sf tf n (clr b1 j) u1 l1 v1 Rr st sg p (by first | assumption | omega) (by first | omega | exact Nat.lt_of_le_of_lt (clr_le _ _) (by omega)) (by first | assumption | omega) (by first | assumption | omega) (by first | assumption | omega) (by first | assumption | omega) (by first | assumption | omega) (by first | assumption | omega) (by first | assumption | omega) H.size) (cwV 1 hts gX3_wholeAfter_X3_firstToBreak rfl rfl rfl (by decide +kernel) ⟨Nat.le_of_ble_eq_true rfl, Nat.le_of_ble_eq_true rfl⟩) (preV_at C S 0 rfl rfl [0, 1, 2, 3] rfl (by decide)) rfl rfl hl.1 rfl (lv_room (Nat.le_of_ble_eq_true rfl)) dX3_wholeAfter_34 ⟨Nat.le_of_ble_eq_true rfl, Nat.le_of_ble_eq_true rfl⟩) [0, 1, 2, 3] [] rfl (wr := []) rfl (by decide) (by decide) (fun r0 w0 H locs hq S => ?_)
          obtain ⟨rfl, rfl⟩ := hq
          have S : ST g A ss H locs [(P, ob 3 [.ref ra, .ref sa, .ref ta, .int (nI n), .int (nI (clr b1 j)), .int (nI (uppN st Rr (clr b1 j) p n)), .int (nI (lowN st Rr (clr b1 j) p n)), .int (nI ((pr st Rr (clr b1 j) p n).1))]), (ra, aI g 8 rf), (sa, aI g 8 sf), (ta, aI g 8 tf)] := S
          refine lv_istore_n (lv' := [(2, .int (oI (fb st Rr sg n p (clr b1 j)))), (3, .int (nI k)), (0, .ref P), (1, .int (nI p))]) hx hb dX3_wholeAfter_37 rfl hl (by decide) rfl (fun ls hl => ?_)
          refine lv_iinc (v := nI (k + 1)) (lv' := [(3, .int (nI (k + 1))), (2, .int (oI (fb st Rr sg n p (clr b1 j)))), (0, .ref P), (1, .int (nI p))]) hx hb dX3_wholeAfter_38 hl (k := 1) rfl (nI_add _ _) (by decide) rfl (fun ls hl => ?_)
          refine lv_goto (tgt := 8) hx hb dX3_wholeAfter_41 (by decide) ?_
          exact ih8 (k + 1) (clr b1 j) (nI (uppN st Rr (clr b1 j) p n)) (nI (lowN st Rr (clr b1 j) p n)) (nI ((pr st Rr (clr b1 j) p n).1)) (by omega) (by first | assumption | omega) (Nat.lt_of_le_of_lt (clr_le _ _) hb1) (by rw [← hwa, show 8 - k = (8 - (k + 1)) + 1 by omega, wa_some hj]) H locs ls (ST.eq S (rfl)) (lv_sub hl [0, 1, 2, 3] (rfl))
  exact loop8 _ 0 b (nI (uppN st Rr b p n)) (nI (lowN st Rr b p n)) (nI ((pr st Rr b p n).1)) (Nat.lt_succ_self _) (by first | assumption | omega) (by first | assumption | omega) (rfl) H locs ls (ST.eq S (rfl)) (lv_sub hl [0, 1, 2, 3] (rfl))

set_option maxRecDepth 100000 in
set_option maxHeartbeats 4000000 in
theorem kX3_leastTooMuch (l : Launch) (g : GG) (P : Nat) (ra : Nat) (sa : Nat) (ta : Nat) (rf : Nat → Int32) (sf : Nat → Int32) (tf : Nat → Int32) (n : Nat) (b : Nat) (p3 : Int32) (p4 : Int32) (p5 : Int32) (Rr : Nat → Nat) (st : Nat → Nat) (sg : Nat → Nat) (hn : n ≤ 8) (hbb : b < 512) (hR : ∀ j, j < n → rf j = nI (Rr j)) (hS : ∀ j, j < n → sf j = nI (st j)) (hT : ∀ j, j < n → tf j = nI (sg j)) (hRb : ∀ i, i < n → Rr i ≤ 240) (hSb : ∀ i, i < n → st i ≤ 9) (hTb : ∀ i, i < n → sg i ≤ 99) (hm : ∀ p9 q9, 1 ≤ p9 → p9 ≤ q9 → q9 ≤ 999 → fb st Rr sg n p9 b ≠ none → fb st Rr sg n q9 b ≠ none) : KI l g yX3_leastTooMuch wsX3_leastTooMuch 4 87 [.ref P] [(P, ob 3 [.ref ra, .ref sa, .ref ta, .int (nI n), .int (nI b), .int p3, .int p4, .int p5]), (ra, aI g 8 rf), (sa, aI g 8 sf), (ta, aI g 8 tf)] (fun (r : Int32) (w' : va_W) => r = (nI (lstN (fun p9 => fb st Rr sg n p9 b) 999 1)) ∧ ∃ (u' : Int32), ∃ (l' : Int32), ∃ (v' : Int32), w' = [(P, ob 3 [.ref ra, .ref sa, .ref ta, .int (nI n), .int (nI b), .int u', .int l', .int v']), (ra, aI g 8 rf), (sa, aI g 8 sf), (ta, aI g 8 tf)]) := by
  refine kI_of (cc := cX3_leastTooMuch) (maxL := 5) (by decide) rfl (Nat.le_of_ble_eq_true rfl) ?_
  intro pp ee ss mm bel mth cd A ls C S hr hl
  obtain ⟨hx, hb, hml, hown, hts⟩ := id C.1
  have hl : lv_has ls 5 [(0, .ref P)] := hl
  obtain ⟨H, hH⟩ : ∃ H, H = ss.heap := ⟨_, rfl⟩
  obtain ⟨locs, hL0⟩ : ∃ L : List Loc, L = [] := ⟨_, rfl⟩
  rw [← hH, ← hL0] at S ⊢
  refine lv_iconst (v := 1) hx hb dX3_leastTooMuch_0 (by decide) ?_
  refine lv_istore_n (lv' := [(1, .int 1), (0, .ref P)]) hx hb dX3_leastTooMuch_1 rfl hl (by decide) rfl (fun ls hl => ?_)
  refine lv_sipush (v := 1000) hx hb dX3_leastTooMuch_2 (by decide) ?_
  refine lv_istore_n (lv' := [(2, .int 1000), (1, .int 1), (0, .ref P)]) hx hb dX3_leastTooMuch_5 rfl hl (by decide) rfl (fun ls hl => ?_)
  refine lv_iconst (v := 0) hx hb dX3_leastTooMuch_6 (by decide) ?_
  refine lv_istore_n (lv' := [(3, .int 0), (2, .int 1000), (1, .int 1), (0, .ref P)]) hx hb dX3_leastTooMuch_7 rfl hl (by decide) rfl (fun ls hl => ?_)
  have loop8 : ∀ (N0 : Nat) (lo : Nat) (hi : Nat) (k : Nat) (u1 : Int32) (l1 : Int32) (v1 : Int32), hi - lo < N0 → (1 ≤ lo) → (lo ≤ hi) → (hi ≤ 1000) → (hi - lo + k ≤ 999) → (∀ q9, 1 ≤ q9 → q9 < lo → fb st Rr sg n q9 b = none) → (∀ q9, hi ≤ q9 → q9 ≤ 999 → fb st Rr sg n q9 b ≠ none) → ∀ (H : Heap) (locs : List Loc) (ls : Array Slot), ST g A ss H locs [(P, ob 3 [.ref ra, .ref sa, .ref ta, .int (nI n), .int (nI b), .int u1, .int l1, .int v1]), (ra, aI g 8 rf), (sa, aI g 8 sf), (ta, aI g 8 tf)] → lv_has ls 5 [(3, .int (nI k)), (2, .int (nI hi)), (1, .int (nI lo)), (0, .ref P)] → W pp l ee { frames := 4, cells := 0, slots := 0, locals := 87 } ss mm ([.ref P] : List Value).toArray bel mth cd H locs 0 0 (QI bel ([.ref P] : List Value).toArray ss g A (fun (r : Int32) (w' : va_W) => r = (nI (lstN (fun p9 => fb st Rr sg n p9 b) 999 1)) ∧ ∃ (u' : Int32), ∃ (l' : Int32), ∃ (v' : Int32), w' = [(P, ob 3 [.ref ra, .ref sa, .ref ta, .int (nI n), .int (nI b), .int u', .int l', .int v']), (ra, aI g 8 rf), (sa, aI g 8 sf), (ta, aI g 8 tf)])) (F0 mm 8 ls []) := by
    intro N0
    induction N0 with
    | zero => intro lo hi k u1 l1 v1 hN; exact absurd hN (Nat.not_lt_zero _)
    | succ N0 ih8 =>
      intro lo hi k u1 l1 v1 hN h0 h1 h2 hk h3 h4 H locs ls S hl
      refine lv_iload_n hx hb dX3_leastTooMuch_8 rfl (lv_at hl 2 rfl) ?_
      refine lv_iload_n hx hb dX3_leastTooMuch_9 rfl (lv_at hl 1 rfl) ?_
      refine bn_ige (tgt := 53) (a := lo) (b := hi) hx hb rfl rfl (by omega) (by omega) dX3_leastTooMuch_10 (by decide) (fun c_1 => ?_) (fun c_1 => ?_)
      · -- 10 T
        refine lv_iload_n hx hb dX3_leastTooMuch_53 rfl (lv_at hl 2 rfl) ?_
        exact ret_I C S hr dX3_leastTooMuch_54 ⟨(congrArg nI (lst_eq 999 1 lo h0 (by omega) (fun q9 a9 b9 => h3 q9 a9 b9) (fun z => h4 lo (by omega) (by omega)))), u1, l1, v1, (rfl)⟩
      · -- 10 F
        refine lv_iload_n hx hb dX3_leastTooMuch_13 rfl (lv_at hl 0 rfl) ?_
        refine lv_sipush (v := 1000) hx hb dX3_leastTooMuch_14 (by decide) ?_
        refine bn_ige (tgt := 53) (a := k) (b := 1000) hx hb rfl rfl (by omega) (by omega) dX3_leastTooMuch_17 (by decide) (fun c_2 => ?_) (fun c_2 => ?_)
        · -- 17 T
          exact absurd c_2 (by omega)
        · -- 17 F
          refine lv_iload_n hx hb dX3_leastTooMuch_20 rfl (lv_at hl 2 rfl) ?_
          refine lv_iload_n hx hb dX3_leastTooMuch_21 rfl (lv_at hl 1 rfl) ?_
          refine lv_iadd hx hb dX3_leastTooMuch_22 ?_
          refine top_eq (y := nI (lo + hi)) (nI_add _ _) ?_
          refine lv_iconst (v := 2) hx hb dX3_leastTooMuch_23 (by decide) ?_
          refine lv_idiv hx hb dX3_leastTooMuch_24 (nI_ne0 (n := 2) (by omega) (by omega)) ?_
          refine top_eq (y := nI ((lo + hi) / 2)) (pk_div (a := lo + hi) (d := 2) (by omega) (by omega) (by omega)) ?_
          refine lv_istore (lv' := [(4, .int (nI ((lo + hi) / 2))), (3, .int (nI k)), (2, .int (nI hi)), (1, .int (nI lo)), (0, .ref P)]) hx hb dX3_leastTooMuch_25 hl (by decide) rfl (fun ls hl => ?_)
          refine lv_aload_n hx hb dX3_leastTooMuch_27 rfl (lv_at hl 4 rfl) ?_
          refine lv_iload hx hb dX3_leastTooMuch_28 (lv_at hl 0 rfl) ?_
          refine after_I (wc := [(P, ob 3 [.ref ra, .ref sa, .ref ta, .int (nI n), .int (nI b), .int u1, .int l1, .int v1]), (ra, aI g 8 rf), (sa, aI g 8 sf), (ta, aI g 8 tf)]) (y := yX3_firstToBreak) C S (va_runV (As := [.int (nI ((lo + hi) / 2))]) (rest := []) C.1 (kX3_firstToBreak l g P ra sa ta rf sf tf n b u1 l1 v1 Rr st sg ((lo + hi) / 2) (by first | assumption | omega) (by first | assumption | omega) (by first | assumption | omega) (by first | assumption | omega) (by first | assumption | omega) (by first | assumption | omega) (by first | assumption | omega) (by first | assumption | omega) (by omega) H.size) (cwV 1 hts gX3_leastTooMuch_X3_firstToBreak rfl rfl rfl (by decide +kernel) ⟨Nat.le_of_ble_eq_true rfl, Nat.le_of_ble_eq_true rfl⟩) (preV_at C S 0 rfl rfl [0, 1, 2, 3] rfl (by decide)) rfl rfl hl.1 rfl (lv_room (Nat.le_of_ble_eq_true rfl)) dX3_leastTooMuch_30 ⟨Nat.le_of_ble_eq_true rfl, Nat.le_of_ble_eq_true rfl⟩) [0, 1, 2, 3] [] rfl (wr := []) rfl (by decide) (by decide) (fun r0 w0 H locs hq S => ?_)
          obtain ⟨rfl, rfl⟩ := hq
          have S : ST g A ss H locs [(P, ob 3 [.ref ra, .ref sa, .ref ta, .int (nI n), .int (nI b), .int (nI (uppN st Rr b ((lo + hi) / 2) n)), .int (nI (lowN st Rr b ((lo + hi) / 2) n)), .int (nI ((pr st Rr b ((lo + hi) / 2) n).1))]), (ra, aI g 8 rf), (sa, aI g 8 sf), (ta, aI g 8 tf)] := S
          refine lv_if_lt (tgt := 42) hx hb dX3_leastTooMuch_33 (by decide) (fun c_3 => ?_) (fun c_3 => ?_)
          · -- 33 T
            have hnone := oI_neg (fun j9 h9 => by have := fb_lt h9; omega) c_3
            refine lv_iload hx hb dX3_leastTooMuch_42 (lv_at hl 0 rfl) ?_
            refine lv_iconst (v := 1) hx hb dX3_leastTooMuch_44 (by decide) ?_
            refine lv_iadd hx hb dX3_leastTooMuch_45 ?_
            refine top_eq (y := nI (((lo + hi) / 2) + 1)) (nI_add _ _) ?_
            refine lv_istore_n (lv' := [(1, .int (nI (((lo + hi) / 2) + 1))), (4, .int (nI ((lo + hi) / 2))), (3, .int (nI k)), (2, .int (nI hi)), (0, .ref P)]) hx hb dX3_leastTooMuch_46 rfl hl (by decide) rfl (fun ls hl => ?_)
            refine lv_iinc (v := nI (k + 1)) (lv' := [(3, .int (nI (k + 1))), (1, .int (nI (((lo + hi) / 2) + 1))), (4, .int (nI ((lo + hi) / 2))), (2, .int (nI hi)), (0, .ref P)]) hx hb dX3_leastTooMuch_47 hl (k := 2) rfl (nI_add _ _) (by decide) rfl (fun ls hl => ?_)
            refine lv_goto (tgt := 8) hx hb dX3_leastTooMuch_50 (by decide) ?_
            exact ih8 (((lo + hi) / 2) + 1) hi (k + 1) (nI (uppN st Rr b ((lo + hi) / 2) n)) (nI (lowN st Rr b ((lo + hi) / 2) n)) (nI ((pr st Rr b ((lo + hi) / 2) n).1)) (by omega) (by first | assumption | omega) (by first | assumption | omega) (by first | assumption | omega) (by first | assumption | omega) (fun q9 a9 b9 => Classical.byContradiction (fun z9 => hm q9 ((lo + hi) / 2) a9 (by omega) (by omega) z9 hnone)) (h4) H locs ls (ST.eq S (rfl)) (lv_sub hl [0, 3, 1, 4] (rfl))
          · -- 33 F
            obtain ⟨j, hj⟩ := oI_pos c_3
            refine lv_iload hx hb dX3_leastTooMuch_36 (lv_at hl 0 rfl) ?_
            refine lv_istore_n (lv' := [(2, .int (nI ((lo + hi) / 2))), (4, .int (nI ((lo + hi) / 2))), (3, .int (nI k)), (1, .int (nI lo)), (0, .ref P)]) hx hb dX3_leastTooMuch_38 rfl hl (by decide) rfl (fun ls hl => ?_)
            refine lv_goto (tgt := 47) hx hb dX3_leastTooMuch_39 (by decide) ?_
            refine lv_iinc (v := nI (k + 1)) (lv' := [(3, .int (nI (k + 1))), (2, .int (nI ((lo + hi) / 2))), (4, .int (nI ((lo + hi) / 2))), (1, .int (nI lo)), (0, .ref P)]) hx hb dX3_leastTooMuch_47 hl (k := 2) rfl (nI_add _ _) (by decide) rfl (fun ls hl => ?_)
            refine lv_goto (tgt := 8) hx hb dX3_leastTooMuch_50 (by decide) ?_
            exact ih8 lo ((lo + hi) / 2) (k + 1) (nI (uppN st Rr b ((lo + hi) / 2) n)) (nI (lowN st Rr b ((lo + hi) / 2) n)) (nI ((pr st Rr b ((lo + hi) / 2) n).1)) (by omega) (by first | assumption | omega) (by first | assumption | omega) (by first | assumption | omega) (by first | assumption | omega) (h3) (fun q9 a9 b9 => hm ((lo + hi) / 2) q9 (by omega) a9 b9 (by rw [hj]; exact fun z => by cases z)) H locs ls (ST.eq S (rfl)) (lv_sub hl [0, 1, 3, 4] (rfl))
  exact loop8 _ 1 1000 0 p3 p4 p5 (Nat.lt_succ_self _) (by first | assumption | omega) (by first | assumption | omega) (by first | assumption | omega) (by first | assumption | omega) (fun q9 a9 b9 => absurd b9 (by omega)) (fun q9 a9 b9 => absurd b9 (by omega)) H locs ls (ST.eq S (rfl)) (lv_sub hl [0, 1, 2, 3] (rfl))

theorem inX3_loadAt_X3 : ∀ w ∈ wsX30, w ∈ wsX3_loadAt := by decide +kernel
set_option maxRecDepth 100000 in
set_option maxHeartbeats 4000000 in
theorem kX3_loadAt (l : Launch) (g : GG) (P : Nat) (ra : Nat) (sa : Nat) (ta : Nat) (rf : Nat → Int32) (sf : Nat → Int32) (tf : Nat → Int32) (n : Nat) (b : Nat) (p3 : Int32) (p4 : Int32) (p5 : Int32) (Rr : Nat → Nat) (st : Nat → Nat) (sg : Nat → Nat) (d : Nat) (hn : n ≤ 8) (hbb : b < 512) (hR : ∀ j, j < n → rf j = nI (Rr j)) (hS : ∀ j, j < n → sf j = nI (st j)) (hT : ∀ j, j < n → tf j = nI (sg j)) (hRb : ∀ i, i < n → Rr i ≤ 240) (hSb : ∀ i, i < n → st i ≤ 9) (hTb : ∀ i, i < n → sg i ≤ 99) (hd : d ≤ 240) : KI l g yX3_loadAt wsX3_loadAt 1 21 [.ref P, .int (nI d)] [(P, ob 3 [.ref ra, .ref sa, .ref ta, .int (nI n), .int (nI b), .int p3, .int p4, .int p5]), (ra, aI g 8 rf), (sa, aI g 8 sf), (ta, aI g 8 tf)] (fun (r : Int32) (w' : va_W) => r = (nI (laN st Rr b d n)) ∧ w' = [(P, ob 3 [.ref ra, .ref sa, .ref ta, .int (nI n), .int (nI b), .int p3, .int p4, .int p5]), (ra, aI g 8 rf), (sa, aI g 8 sf), (ta, aI g 8 tf)]) := by
  refine kI_of (cc := cX3_loadAt) (maxL := 4) (by decide) rfl (Nat.le_of_ble_eq_true rfl) ?_
  intro pp ee ss mm bel mth cd A ls C S hr hl
  obtain ⟨hx, hb, hml, hown, hts⟩ := id C.1
  have hl : lv_has ls 4 [(0, .ref P), (1, .int (nI d))] := hl
  obtain ⟨H, hH⟩ : ∃ H, H = ss.heap := ⟨_, rfl⟩
  obtain ⟨locs, hL0⟩ : ∃ L : List Loc, L = [] := ⟨_, rfl⟩
  rw [← hH, ← hL0] at S ⊢
  refine lv_iconst (v := 0) hx hb dX3_loadAt_0 (by decide) ?_
  refine lv_istore_n (lv' := [(2, .int 0), (0, .ref P), (1, .int (nI d))]) hx hb dX3_loadAt_1 rfl hl (by decide) rfl (fun ls hl => ?_)
  refine lv_iconst (v := 0) hx hb dX3_loadAt_2 (by decide) ?_
  refine lv_istore_n (lv' := [(3, .int 0), (2, .int 0), (0, .ref P), (1, .int (nI d))]) hx hb dX3_loadAt_3 rfl hl (by decide) rfl (fun ls hl => ?_)
  have loop4 : ∀ (N0 : Nat) (i : Nat) (x : Nat), n - i < N0 → (i ≤ n) → (x = laN st Rr b d i) → ∀ (H : Heap) (locs : List Loc) (ls : Array Slot), ST g A ss H locs [(P, ob 3 [.ref ra, .ref sa, .ref ta, .int (nI n), .int (nI b), .int p3, .int p4, .int p5]), (ra, aI g 8 rf), (sa, aI g 8 sf), (ta, aI g 8 tf)] → lv_has ls 4 [(3, .int (nI i)), (2, .int (nI x)), (0, .ref P), (1, .int (nI d))] → W pp l ee { frames := 1, cells := 0, slots := 0, locals := 21 } ss mm ([.ref P, .int (nI d)] : List Value).toArray bel mth cd H locs 0 0 (QI bel ([.ref P, .int (nI d)] : List Value).toArray ss g A (fun (r : Int32) (w' : va_W) => r = (nI (laN st Rr b d n)) ∧ w' = [(P, ob 3 [.ref ra, .ref sa, .ref ta, .int (nI n), .int (nI b), .int p3, .int p4, .int p5]), (ra, aI g 8 rf), (sa, aI g 8 sf), (ta, aI g 8 tf)])) (F0 mm 4 ls []) := by
    intro N0
    induction N0 with
    | zero => intro i x hN; exact absurd hN (Nat.not_lt_zero _)
    | succ N0 ih4 =>
      intro i x hN hi hx1 H locs ls S hl
      refine lv_iload_n hx hb dX3_loadAt_4 rfl (lv_at hl 0 rfl) ?_
      refine lv_aload_n hx hb dX3_loadAt_5 rfl (lv_at hl 2 rfl) ?_
      refine top_get C S inX3_loadAt_X3 rfl 0 rfl 3 (by decide) (by decide +kernel) rfl rfl dX3_loadAt_6 ?_
      refine bn_ige (tgt := 51) (a := i) (b := n) hx hb rfl rfl (by omega) (by omega) dX3_loadAt_9 (by decide) (fun c_1 => ?_) (fun c_1 => ?_)
      · -- 9 T
        refine lv_iload_n hx hb dX3_loadAt_51 rfl (lv_at hl 1 rfl) ?_
        exact ret_I C S hr dX3_loadAt_52 ⟨(by rw [hx1, show i = n by omega]), (rfl)⟩
      · -- 9 F
        have e1 := hRb i (by omega)
        refine lv_aload_n hx hb dX3_loadAt_12 rfl (lv_at hl 2 rfl) ?_
        refine top_get C S inX3_loadAt_X3 rfl 0 rfl 4 (by decide) (by decide +kernel) rfl rfl dX3_loadAt_13 ?_
        refine lv_iload_n hx hb dX3_loadAt_16 rfl (lv_at hl 0 rfl) ?_
        refine after_I (wc := []) (y := yX6_holds) C S (va_runSN (As := [.int (nI b), .int (nI i)]) (rest := []) C.1 (kX6_holds l g b i (by first | assumption | omega) (by first | assumption | omega) H.size) ⟨va_cnB 2 hts gX3_loadAt_X6_holds_n31 rfl rfl rfl (C.2.2.1.1.2 ("StackedLeaves$Pack", 31, yX6_holds) (by decide +kernel)) (hts (.initialized RX6) (by decide +kernel)) (by decide +kernel) ⟨Nat.le_of_ble_eq_true rfl, Nat.le_of_ble_eq_true rfl⟩, hts (.static yX6_holds) (by decide +kernel), trivial⟩ (preS_at C S [] rfl (by decide)) rfl rfl hl.1 rfl (lv_room (Nat.le_of_ble_eq_true rfl)) dX3_loadAt_17 ⟨Nat.le_of_ble_eq_true rfl, Nat.le_of_ble_eq_true rfl⟩) [] [0, 1, 2, 3] rfl (wr := [(P, ob 3 [.ref ra, .ref sa, .ref ta, .int (nI n), .int (nI b), .int p3, .int p4, .int p5]), (ra, aI g 8 rf), (sa, aI g 8 sf), (ta, aI g 8 tf)]) rfl (by decide) (by decide) (fun r0 w0 H locs hq S => ?_)
        obtain ⟨rfl, rfl⟩ := hq
        have S : ST g A ss H locs [(P, ob 3 [.ref ra, .ref sa, .ref ta, .int (nI n), .int (nI b), .int p3, .int p4, .int p5]), (ra, aI g 8 rf), (sa, aI g 8 sf), (ta, aI g 8 tf)] := S
        refine br_eqB (tgt := 45) hx hb dX3_loadAt_20 (by decide) (fun c_2 => ?_) (fun c_2 => ?_)
        · -- 20 T
          refine lv_iinc (v := nI (i + 1)) (lv' := [(3, .int (nI (i + 1))), (2, .int (nI x)), (0, .ref P), (1, .int (nI d))]) hx hb dX3_loadAt_45 hl (k := 0) rfl (nI_add _ _) (by decide) rfl (fun ls hl => ?_)
          refine lv_goto (tgt := 4) hx hb dX3_loadAt_48 (by decide) ?_
          exact ih4 (i + 1) x (by omega) (by first | assumption | omega) (by simp only [laN, hx1, if_neg (Bool.eq_false_iff.mp c_2)]) H locs ls (ST.eq S (rfl)) (lv_sub hl [0, 1, 2, 3] (rfl))
        · -- 20 F
          refine lv_iload_n hx hb dX3_loadAt_23 rfl (lv_at hl 1 rfl) ?_
          refine lv_aload_n hx hb dX3_loadAt_24 rfl (lv_at hl 2 rfl) ?_
          refine top_get C S inX3_loadAt_X3 rfl 0 rfl 1 (by decide) (by decide +kernel) rfl rfl dX3_loadAt_25 ?_
          refine lv_iload_n hx hb dX3_loadAt_28 rfl (lv_at hl 0 rfl) ?_
          refine top_ild C S 2 rfl (j := i) rfl (by omega) (by decide) dX3_loadAt_29 ?_
          refine top_eq (y := nI (st i)) (hS _ (by omega)) ?_
          refine lv_iconst (v := 0) hx hb dX3_loadAt_30 (by decide) ?_
          refine lv_iload_n hx hb dX3_loadAt_31 rfl (lv_at hl 3 rfl) ?_
          refine lv_aload_n hx hb dX3_loadAt_32 rfl (lv_at hl 2 rfl) ?_
          refine top_get C S inX3_loadAt_X3 rfl 0 rfl 0 (by decide) (by decide +kernel) rfl rfl dX3_loadAt_33 ?_
          refine lv_iload_n hx hb dX3_loadAt_36 rfl (lv_at hl 0 rfl) ?_
          refine top_ild C S 1 rfl (j := i) rfl (by omega) (by decide) dX3_loadAt_37 ?_
          refine top_eq (y := nI (Rr i)) (hR _ (by omega)) ?_
          refine lv_isub hx hb dX3_loadAt_38 ?_
          refine va_mmax hx hb (hml.trans hl.1.symm) hown (hts (.methodLink RX3 59 Lib.Math.max.name) (by decide +kernel)) (hts (.static Lib.Math.max.name) (by decide +kernel)) (hts (.initialized "java/lang/Math") (by decide +kernel)) (hts (.code Lib.Math.max.name Lib.Math.max.code 2 (some .int)) (by decide +kernel)) (Nat.le_of_ble_eq_true rfl) (Nat.le_of_ble_eq_true rfl) (Nat.le_of_ble_eq_true rfl) (Nat.le_of_ble_eq_true rfl) dX3_loadAt_39 ?_
          refine top_eq (y := imax 0 ((nI d) - (nI (Rr i)))) rfl ?_
          refine top_eq (y := nI (d - Rr i)) (max_0 (by omega) (by omega)) ?_
          refine lv_imul hx hb dX3_loadAt_42 ?_
          refine top_eq (y := nI ((st i) * (d - Rr i))) (pk_mul _ _) ?_
          refine lv_iadd hx hb dX3_loadAt_43 ?_
          refine top_eq (y := nI (x + ((st i) * (d - Rr i)))) (nI_add _ _) ?_
          refine lv_istore_n (lv' := [(2, .int (nI (x + ((st i) * (d - Rr i))))), (3, .int (nI i)), (0, .ref P), (1, .int (nI d))]) hx hb dX3_loadAt_44 rfl hl (by decide) rfl (fun ls hl => ?_)
          refine lv_iinc (v := nI (i + 1)) (lv' := [(3, .int (nI (i + 1))), (2, .int (nI (x + ((st i) * (d - Rr i))))), (0, .ref P), (1, .int (nI d))]) hx hb dX3_loadAt_45 hl (k := 1) rfl (nI_add _ _) (by decide) rfl (fun ls hl => ?_)
          refine lv_goto (tgt := 4) hx hb dX3_loadAt_48 (by decide) ?_
          exact ih4 (i + 1) (x + ((st i) * (d - Rr i))) (by omega) (by first | assumption | omega) (by simp only [laN, hx1, if_pos c_2]) H locs ls (ST.eq S (rfl)) (lv_sub hl [0, 1, 2, 3] (rfl))
  exact loop4 _ 0 0 (Nat.lt_succ_self _) (by first | assumption | omega) (rfl) H locs ls (ST.eq S (rfl)) (lv_sub hl [0, 1, 2, 3] (rfl))

theorem inX3_bearsWithin_X3 : ∀ w ∈ wsX30, w ∈ wsX3_bearsWithin := by decide +kernel
set_option maxRecDepth 100000 in
set_option maxHeartbeats 4000000 in
theorem kX3_bearsWithin (l : Launch) (g : GG) (P : Nat) (ra : Nat) (sa : Nat) (ta : Nat) (rf : Nat → Int32) (sf : Nat → Int32) (tf : Nat → Int32) (n : Nat) (b : Nat) (p3 : Int32) (p4 : Int32) (p5 : Int32) (Rr : Nat → Nat) (st : Nat → Nat) (sg : Nat → Nat) (p : Nat) (d : Nat) (hn : n ≤ 8) (hbb : b < 512) (hR : ∀ j, j < n → rf j = nI (Rr j)) (hS : ∀ j, j < n → sf j = nI (st j)) (hT : ∀ j, j < n → tf j = nI (sg j)) (hRb : ∀ i, i < n → Rr i ≤ 240) (hSb : ∀ i, i < n → st i ≤ 9) (hTb : ∀ i, i < n → sg i ≤ 99) (hp : p ≤ 999) (hd : d ≤ 99) : KI l g yX3_bearsWithin wsX3_bearsWithin 4 87 [.ref P, .int (nI p), .int (nI d)] [(P, ob 3 [.ref ra, .ref sa, .ref ta, .int (nI n), .int (nI b), .int p3, .int p4, .int p5]), (ra, aI g 8 rf), (sa, aI g 8 sf), (ta, aI g 8 tf)] (fun (r : Int32) (w' : va_W) => r = (bI (bwN st Rr sg n p d b)) ∧ ∃ (u' : Int32), ∃ (l' : Int32), ∃ (v' : Int32), w' = [(P, ob 3 [.ref ra, .ref sa, .ref ta, .int (nI n), .int (nI b), .int u', .int l', .int v']), (ra, aI g 8 rf), (sa, aI g 8 sf), (ta, aI g 8 tf)]) := by
  refine kI_of (cc := cX3_bearsWithin) (maxL := 3) (by decide) rfl (Nat.le_of_ble_eq_true rfl) ?_
  intro pp ee ss mm bel mth cd A ls C S hr hl
  obtain ⟨hx, hb, hml, hown, hts⟩ := id C.1
  have hl : lv_has ls 3 [(0, .ref P), (1, .int (nI p)), (2, .int (nI d))] := hl
  obtain ⟨H, hH⟩ : ∃ H, H = ss.heap := ⟨_, rfl⟩
  obtain ⟨locs, hL0⟩ : ∃ L : List Loc, L = [] := ⟨_, rfl⟩
  rw [← hH, ← hL0] at S ⊢
  have eU := upp_le (b := b) hn hp hSb hRb
  have eL := low_le (b := b) (p := p) hn hSb hRb
  have e3 : d * lowN st Rr b p n ≤ 99 * 72 := Nat.mul_le_mul hd eL
  refine lv_aload_n hx hb dX3_bearsWithin_0 rfl (lv_at hl 0 rfl) ?_
  refine lv_iload_n hx hb dX3_bearsWithin_1 rfl (lv_at hl 1 rfl) ?_
  refine after_I (wc := [(P, ob 3 [.ref ra, .ref sa, .ref ta, .int (nI n), .int (nI b), .int p3, .int p4, .int p5]), (ra, aI g 8 rf), (sa, aI g 8 sf), (ta, aI g 8 tf)]) (y := yX3_press) C S (va_runV (As := [.int (nI p)]) (rest := []) C.1 (kX3_press l g P ra sa ta rf sf tf n b p3 p4 p5 Rr st sg p (by first | assumption | omega) (by first | assumption | omega) (by first | assumption | omega) (by first | assumption | omega) (by first | assumption | omega) (by first | assumption | omega) (by first | assumption | omega) (by first | assumption | omega) (by first | assumption | omega) H.size) (cwV 1 hts gX3_bearsWithin_X3_press rfl rfl rfl (by decide +kernel) ⟨Nat.le_of_ble_eq_true rfl, Nat.le_of_ble_eq_true rfl⟩) (preV_at C S 0 rfl rfl [0, 1, 2, 3] rfl (by decide)) rfl rfl hl.1 rfl (lv_room (Nat.le_of_ble_eq_true rfl)) dX3_bearsWithin_2 ⟨Nat.le_of_ble_eq_true rfl, Nat.le_of_ble_eq_true rfl⟩) [0, 1, 2, 3] [] rfl (wr := []) rfl (by decide) (by decide) (fun r0 w0 H locs hq S => ?_)
  obtain ⟨rfl, rfl⟩ := hq
  have S : ST g A ss H locs [(P, ob 3 [.ref ra, .ref sa, .ref ta, .int (nI n), .int (nI b), .int (nI (uppN st Rr b p n)), .int (nI (lowN st Rr b p n)), .int (nI ((pr st Rr b p n).1))]), (ra, aI g 8 rf), (sa, aI g 8 sf), (ta, aI g 8 tf)] := S
  refine br_eqB (tgt := 33) hx hb dX3_bearsWithin_5 (by decide) (fun c_1 => ?_) (fun c_1 => ?_)
  · -- 5 T
    refine lv_iconst (v := 0) hx hb dX3_bearsWithin_33 (by decide) ?_
    exact ret_Z (bwN st Rr sg n p d b) C S hr dX3_bearsWithin_34 (by unfold bwN; rw [if_neg (of_decide_eq_false c_1)] <;> rfl) ⟨(by unfold bwN; rw [if_neg (of_decide_eq_false c_1)] <;> rfl), (nI (uppN st Rr b p n)), (nI (lowN st Rr b p n)), (nI ((pr st Rr b p n).1)), (rfl)⟩
  · -- 5 F
    have hpos := of_decide_eq_true c_1
    refine lv_aload_n hx hb dX3_bearsWithin_8 rfl (lv_at hl 0 rfl) ?_
    refine top_get C S inX3_bearsWithin_X3 rfl 0 rfl 5 (by decide) (by decide +kernel) rfl rfl dX3_bearsWithin_9 ?_
    refine lv_iload_n hx hb dX3_bearsWithin_12 rfl (lv_at hl 2 rfl) ?_
    refine lv_aload_n hx hb dX3_bearsWithin_13 rfl (lv_at hl 0 rfl) ?_
    refine top_get C S inX3_bearsWithin_X3 rfl 0 rfl 6 (by decide) (by decide +kernel) rfl rfl dX3_bearsWithin_14 ?_
    refine lv_imul hx hb dX3_bearsWithin_17 ?_
    refine top_eq (y := nI (d * (lowN st Rr b p n))) (pk_mul _ _) ?_
    refine bn_igt (tgt := 33) (a := uppN st Rr b p n) (b := d * (lowN st Rr b p n)) hx hb rfl rfl (by omega) (by omega) dX3_bearsWithin_18 (by decide) (fun c_2 => ?_) (fun c_2 => ?_)
    · -- 18 T
      refine lv_iconst (v := 0) hx hb dX3_bearsWithin_33 (by decide) ?_
      exact ret_Z (bwN st Rr sg n p d b) C S hr dX3_bearsWithin_34 (by unfold bwN; rw [if_pos hpos, if_pos c_2] <;> rfl) ⟨(by unfold bwN; rw [if_pos hpos, if_pos c_2] <;> rfl), (nI (uppN st Rr b p n)), (nI (lowN st Rr b p n)), (nI ((pr st Rr b p n).1)), (rfl)⟩
    · -- 18 F
      refine lv_aload_n hx hb dX3_bearsWithin_21 rfl (lv_at hl 0 rfl) ?_
      refine lv_iload_n hx hb dX3_bearsWithin_22 rfl (lv_at hl 1 rfl) ?_
      refine after_I (wc := [(P, ob 3 [.ref ra, .ref sa, .ref ta, .int (nI n), .int (nI b), .int (nI (uppN st Rr b p n)), .int (nI (lowN st Rr b p n)), .int (nI ((pr st Rr b p n).1))]), (ra, aI g 8 rf), (sa, aI g 8 sf), (ta, aI g 8 tf)]) (y := yX3_firstToBreak) C S (va_runV (As := [.int (nI p)]) (rest := []) C.1 (kX3_firstToBreak l g P ra sa ta rf sf tf n b (nI (uppN st Rr b p n)) (nI (lowN st Rr b p n)) (nI ((pr st Rr b p n).1)) Rr st sg p (by first | assumption | omega) (by first | assumption | omega) (by first | assumption | omega) (by first | assumption | omega) (by first | assumption | omega) (by first | assumption | omega) (by first | assumption | omega) (by first | assumption | omega) (by first | assumption | omega) H.size) (cwV 1 hts gX3_bearsWithin_X3_firstToBreak rfl rfl rfl (by decide +kernel) ⟨Nat.le_of_ble_eq_true rfl, Nat.le_of_ble_eq_true rfl⟩) (preV_at C S 0 rfl rfl [0, 1, 2, 3] rfl (by decide)) rfl rfl hl.1 rfl (lv_room (Nat.le_of_ble_eq_true rfl)) dX3_bearsWithin_23 ⟨Nat.le_of_ble_eq_true rfl, Nat.le_of_ble_eq_true rfl⟩) [0, 1, 2, 3] [] rfl (wr := []) rfl (by decide) (by decide) (fun r0 w0 H locs hq S => ?_)
      obtain ⟨rfl, rfl⟩ := hq
      have S : ST g A ss H locs [(P, ob 3 [.ref ra, .ref sa, .ref ta, .int (nI n), .int (nI b), .int (nI (uppN st Rr b p n)), .int (nI (lowN st Rr b p n)), .int (nI ((pr st Rr b p n).1))]), (ra, aI g 8 rf), (sa, aI g 8 sf), (ta, aI g 8 tf)] := S
      refine lv_if_ge (tgt := 33) hx hb dX3_bearsWithin_26 (by decide) (fun c_3 => ?_) (fun c_3 => ?_)
      · -- 26 T
        obtain ⟨j, hj⟩ := oI_pos' c_3
        refine lv_iconst (v := 0) hx hb dX3_bearsWithin_33 (by decide) ?_
        exact ret_Z (bwN st Rr sg n p d b) C S hr dX3_bearsWithin_34 (by unfold bwN; rw [if_pos hpos, if_neg c_2, hj] <;> rfl) ⟨(by unfold bwN; rw [if_pos hpos, if_neg c_2, hj] <;> rfl), (nI (uppN st Rr b p n)), (nI (lowN st Rr b p n)), (nI ((pr st Rr b p n).1)), (rfl)⟩
      · -- 26 F
        have hj := oI_neg' (fun j9 h9 => by have := fb_lt h9; omega) c_3
        refine lv_iconst (v := 1) hx hb dX3_bearsWithin_29 (by decide) ?_
        refine lv_goto (tgt := 34) hx hb dX3_bearsWithin_30 (by decide) ?_
        exact ret_Z (bwN st Rr sg n p d b) C S hr dX3_bearsWithin_34 (by unfold bwN; rw [if_pos hpos, if_neg c_2, hj] <;> rfl) ⟨(by unfold bwN; rw [if_pos hpos, if_neg c_2, hj] <;> rfl), (nI (uppN st Rr b p n)), (nI (lowN st Rr b p n)), (nI ((pr st Rr b p n).1)), (rfl)⟩
end
section
/-! rings, images, sightings -/
def updA {α : Type} (f : Nat → α) (k : Nat) (v : α) : Nat → α := fun i => if i = k then v else f i
def nxt (k : Nat) : Nat := if k = 5 then 0 else k + 1
def prv (k : Nat) : Nat := if k = 0 then 5 else k - 1
theorem imin_N {a b : Nat} (ha : a < 2 ^ 31) (hb : b < 2 ^ 31) : imin (nI a) (nI b) = nI (min a b) := by
  unfold imin
  by_cases h : b < a
  · rw [if_pos (nI_lt h ha)]; congr 1; omega
  · rw [if_neg (nI_nlt (by omega) hb)]; congr 1; omega
end
section
theorem inX0_push_X0 : ∀ w ∈ wsX00, w ∈ wsX0_push := by decide +kernel
set_option maxRecDepth 100000 in
set_option maxHeartbeats 4000000 in
theorem kX0_push (l : Launch) (g : GG) (HH : Nat) (rg : Nat) (ro : Nat → Option Nat) (a0 : Nat) (b0 : Nat) (a1 : Nat) (b1 : Nat) (a2 : Nat) (b2 : Nat) (a3 : Nat) (b3 : Nat) (a4 : Nat) (b4 : Nat) (a5 : Nat) (b5 : Nat) (fs : Nat → Nat → Int32) (ns : Nat → Nat) (wbs : Nat → Nat) (k : Nat) (z : Nat) (h : Nat) (q : Nat) (f : Nat → Int32) (n : Nat) (ww : Nat) (hro : ro 0 = some a0 ∧ ro 1 = some a1 ∧ ro 2 = some a2 ∧ ro 3 = some a3 ∧ ro 4 = some a4 ∧ ro 5 = some a5) (hk : k < 6) (hz : z ≤ 6) : KV l g yX0_push wsX0_push 2 85 [.ref HH, .ref h] [(HH, ob 0 [.ref rg, .int (nI k), .int (nI z)]), (rg, aO g 6 ro), (a0, ob 2 [.ref b0, .int (nI (ns 0)), .int (nI (wbs 0))]), (b0, aI g 32 (fs 0)), (a1, ob 2 [.ref b1, .int (nI (ns 1)), .int (nI (wbs 1))]), (b1, aI g 32 (fs 1)), (a2, ob 2 [.ref b2, .int (nI (ns 2)), .int (nI (wbs 2))]), (b2, aI g 32 (fs 2)), (a3, ob 2 [.ref b3, .int (nI (ns 3)), .int (nI (wbs 3))]), (b3, aI g 32 (fs 3)), (a4, ob 2 [.ref b4, .int (nI (ns 4)), .int (nI (wbs 4))]), (b4, aI g 32 (fs 4)), (a5, ob 2 [.ref b5, .int (nI (ns 5)), .int (nI (wbs 5))]), (b5, aI g 32 (fs 5)), (h, ob 2 [.ref q, .int (nI n), .int (nI ww)]), (q, aI g 32 f)] (fun (w' : va_W) => ∃ (f' : Nat → Int32), (∀ j, j < 32 → f' j = f j) ∧ w' = [(HH, ob 0 [.ref rg, .int (nI (nxt k)), .int (nI (min (z + 1) 6))]), (rg, aO g 6 ro), (a0, ob 2 [.ref b0, .int (nI (updA ns k n 0)), .int (nI (updA wbs k ww 0))]), (b0, aI g 32 (updA fs k f' 0)), (a1, ob 2 [.ref b1, .int (nI (updA ns k n 1)), .int (nI (updA wbs k ww 1))]), (b1, aI g 32 (updA fs k f' 1)), (a2, ob 2 [.ref b2, .int (nI (updA ns k n 2)), .int (nI (updA wbs k ww 2))]), (b2, aI g 32 (updA fs k f' 2)), (a3, ob 2 [.ref b3, .int (nI (updA ns k n 3)), .int (nI (updA wbs k ww 3))]), (b3, aI g 32 (updA fs k f' 3)), (a4, ob 2 [.ref b4, .int (nI (updA ns k n 4)), .int (nI (updA wbs k ww 4))]), (b4, aI g 32 (updA fs k f' 4)), (a5, ob 2 [.ref b5, .int (nI (updA ns k n 5)), .int (nI (updA wbs k ww 5))]), (b5, aI g 32 (updA fs k f' 5)), (h, ob 2 [.ref q, .int (nI n), .int (nI ww)]), (q, aI g 32 f)]) := by
  refine kV_of (cc := cX0_push) (maxL := 2) (by decide) rfl (Nat.le_of_ble_eq_true rfl) ?_
  intro pp ee ss mm bel mth cd A ls C S hr hl
  obtain ⟨hx, hb, hml, hown, hts⟩ := id C.1
  have hl : lv_has ls 2 [(0, .ref HH), (1, .ref h)] := hl
  obtain ⟨H, hH⟩ : ∃ H, H = ss.heap := ⟨_, rfl⟩
  obtain ⟨locs, hL0⟩ : ∃ L : List Loc, L = [] := ⟨_, rfl⟩
  rw [← hH, ← hL0] at S ⊢
  rcases (show k = 0 ∨ k = 1 ∨ k = 2 ∨ k = 3 ∨ k = 4 ∨ k = 5 by omega) with rfl | rfl | rfl | rfl | rfl | rfl
  · -- k = 0
    refine lv_aload_n hx hb dX0_push_0 rfl (lv_at hl 0 rfl) ?_
    refine top_get C S inX0_push_X0 rfl 0 rfl 0 (by decide) (by decide +kernel) rfl rfl dX0_push_1 ?_
    refine lv_aload_n hx hb dX0_push_4 rfl (lv_at hl 0 rfl) ?_
    refine top_get C S inX0_push_X0 rfl 0 rfl 1 (by decide) (by decide +kernel) rfl rfl dX0_push_5 ?_
    refine top_old C S 1 rfl (j := 0) rfl (by omega) (by decide) (by exact hro.1) dX0_push_8 ?_
    refine lv_aload_n hx hb dX0_push_9 rfl (lv_at hl 1 rfl) ?_
    refine after_V (wc := [(a0, ob 2 [.ref b0, .int (nI (ns 0)), .int (nI (wbs 0))]), (b0, aI g 32 (fs 0)), (h, ob 2 [.ref q, .int (nI n), .int (nI ww)]), (q, aI g 32 f)]) (y := yX2_become) C S (va_runV (As := [.ref h]) (rest := []) C.1 (kX2_become l g a0 b0 (fs 0) (ns 0) (wbs 0) h q f n ww H.size) (cwV 1 hts gX0_push_X2_become rfl rfl rfl (by decide +kernel) ⟨Nat.le_of_ble_eq_true rfl, Nat.le_of_ble_eq_true rfl⟩) (preV_at C S 2 rfl rfl [2, 3, 14, 15] rfl (by decide)) rfl rfl hl.1 rfl (lv_room (Nat.le_of_ble_eq_true rfl)) dX0_push_10 ⟨Nat.le_of_ble_eq_true rfl, Nat.le_of_ble_eq_true rfl⟩) [2, 3, 14, 15] [0, 1, 4, 5, 6, 7, 8, 9, 10, 11, 12, 13] rfl (wr := [(HH, ob 0 [.ref rg, .int (nI 0), .int (nI z)]), (rg, aO g 6 ro), (a1, ob 2 [.ref b1, .int (nI (ns 1)), .int (nI (wbs 1))]), (b1, aI g 32 (fs 1)), (a2, ob 2 [.ref b2, .int (nI (ns 2)), .int (nI (wbs 2))]), (b2, aI g 32 (fs 2)), (a3, ob 2 [.ref b3, .int (nI (ns 3)), .int (nI (wbs 3))]), (b3, aI g 32 (fs 3)), (a4, ob 2 [.ref b4, .int (nI (ns 4)), .int (nI (wbs 4))]), (b4, aI g 32 (fs 4)), (a5, ob 2 [.ref b5, .int (nI (ns 5)), .int (nI (wbs 5))]), (b5, aI g 32 (fs 5))]) rfl (by decide) (by decide) (fun w0 H locs hq S => ?_)
    obtain ⟨f9, hf9, rfl⟩ := hq
    have S : ST g A ss H locs [(HH, ob 0 [.ref rg, .int (nI 0), .int (nI z)]), (rg, aO g 6 ro), (a0, ob 2 [.ref b0, .int (nI n), .int (nI ww)]), (b0, aI g 32 f9), (a1, ob 2 [.ref b1, .int (nI (ns 1)), .int (nI (wbs 1))]), (b1, aI g 32 (fs 1)), (a2, ob 2 [.ref b2, .int (nI (ns 2)), .int (nI (wbs 2))]), (b2, aI g 32 (fs 2)), (a3, ob 2 [.ref b3, .int (nI (ns 3)), .int (nI (wbs 3))]), (b3, aI g 32 (fs 3)), (a4, ob 2 [.ref b4, .int (nI (ns 4)), .int (nI (wbs 4))]), (b4, aI g 32 (fs 4)), (a5, ob 2 [.ref b5, .int (nI (ns 5)), .int (nI (wbs 5))]), (b5, aI g 32 (fs 5)), (h, ob 2 [.ref q, .int (nI n), .int (nI ww)]), (q, aI g 32 f)] := ST.sub S [0, 1, 12, 13, 2, 3, 4, 5, 6, 7, 8, 9, 10, 11, 14, 15] (by decide) rfl
    refine lv_aload_n hx hb dX0_push_13 rfl (lv_at hl 0 rfl) ?_
    refine lv_aload_n hx hb dX0_push_14 rfl (lv_at hl 0 rfl) ?_
    refine top_get C S inX0_push_X0 rfl 0 rfl 1 (by decide) (by decide +kernel) rfl rfl dX0_push_15 ?_
    refine lv_iconst (v := 5) hx hb dX0_push_18 (by decide) ?_
    refine bn_ine (tgt := 26) (a := 0) (b := 5) hx hb rfl rfl (by omega) (by omega) dX0_push_19 (by decide) (fun c_1 => ?_) (fun c_1 => ?_)
    · -- 19 T
      refine lv_aload_n hx hb dX0_push_26 rfl (lv_at hl 0 rfl) ?_
      refine top_get C S inX0_push_X0 rfl 0 rfl 1 (by decide) (by decide +kernel) rfl rfl dX0_push_27 ?_
      refine lv_iconst (v := 1) hx hb dX0_push_30 (by decide) ?_
      refine lv_iadd hx hb dX0_push_31 ?_
      refine top_eq (y := nI (0 + 1)) (nI_add _ _) ?_
      refine top_put (ty := .int) C S inX0_push_X0 tyX0 tyX0_ok nmX0 rfl 0 rfl 1 (by decide) (by decide +kernel) rfl rfl (tyX0_ok 1 (by decide)) rfl rfl (Nat.le_of_ble_eq_true rfl) dX0_push_32 (fun H locs S => ?_)
      have S : ST g A ss H locs [(HH, ob 0 [.ref rg, .int (nI (0 + 1)), .int (nI z)]), (rg, aO g 6 ro), (a0, ob 2 [.ref b0, .int (nI n), .int (nI ww)]), (b0, aI g 32 f9), (a1, ob 2 [.ref b1, .int (nI (ns 1)), .int (nI (wbs 1))]), (b1, aI g 32 (fs 1)), (a2, ob 2 [.ref b2, .int (nI (ns 2)), .int (nI (wbs 2))]), (b2, aI g 32 (fs 2)), (a3, ob 2 [.ref b3, .int (nI (ns 3)), .int (nI (wbs 3))]), (b3, aI g 32 (fs 3)), (a4, ob 2 [.ref b4, .int (nI (ns 4)), .int (nI (wbs 4))]), (b4, aI g 32 (fs 4)), (a5, ob 2 [.ref b5, .int (nI (ns 5)), .int (nI (wbs 5))]), (b5, aI g 32 (fs 5)), (h, ob 2 [.ref q, .int (nI n), .int (nI ww)]), (q, aI g 32 f)] := S
      refine lv_aload_n hx hb dX0_push_35 rfl (lv_at hl 0 rfl) ?_
      refine lv_aload_n hx hb dX0_push_36 rfl (lv_at hl 0 rfl) ?_
      refine top_get C S inX0_push_X0 rfl 0 rfl 2 (by decide) (by decide +kernel) rfl rfl dX0_push_37 ?_
      refine lv_iconst (v := 1) hx hb dX0_push_40 (by decide) ?_
      refine lv_iadd hx hb dX0_push_41 ?_
      refine top_eq (y := nI (z + 1)) (nI_add _ _) ?_
      refine lv_bipush (v := 6) hx hb dX0_push_42 (by decide) ?_
      refine va_mmin hx hb (hml.trans hl.1.symm) hown (hts (.methodLink RX0 29 Lib.Math.min.name) (by decide +kernel)) (hts (.static Lib.Math.min.name) (by decide +kernel)) (hts (.initialized "java/lang/Math") (by decide +kernel)) (hts (.code Lib.Math.min.name Lib.Math.min.code 2 (some .int)) (by decide +kernel)) (Nat.le_of_ble_eq_true rfl) (Nat.le_of_ble_eq_true rfl) (Nat.le_of_ble_eq_true rfl) (Nat.le_of_ble_eq_true rfl) dX0_push_44 ?_
      refine top_eq (y := imin (nI (z + 1)) 6) rfl ?_
      refine top_eq (y := nI (min (z + 1) 6)) (imin_N (a := z + 1) (b := 6) (by omega) (by omega)) ?_
      refine top_put (ty := .int) C S inX0_push_X0 tyX0 tyX0_ok nmX0 rfl 0 rfl 2 (by decide) (by decide +kernel) rfl rfl (tyX0_ok 2 (by decide)) rfl rfl (Nat.le_of_ble_eq_true rfl) dX0_push_47 (fun H locs S => ?_)
      have S : ST g A ss H locs [(HH, ob 0 [.ref rg, .int (nI (0 + 1)), .int (nI (min (z + 1) 6))]), (rg, aO g 6 ro), (a0, ob 2 [.ref b0, .int (nI n), .int (nI ww)]), (b0, aI g 32 f9), (a1, ob 2 [.ref b1, .int (nI (ns 1)), .int (nI (wbs 1))]), (b1, aI g 32 (fs 1)), (a2, ob 2 [.ref b2, .int (nI (ns 2)), .int (nI (wbs 2))]), (b2, aI g 32 (fs 2)), (a3, ob 2 [.ref b3, .int (nI (ns 3)), .int (nI (wbs 3))]), (b3, aI g 32 (fs 3)), (a4, ob 2 [.ref b4, .int (nI (ns 4)), .int (nI (wbs 4))]), (b4, aI g 32 (fs 4)), (a5, ob 2 [.ref b5, .int (nI (ns 5)), .int (nI (wbs 5))]), (b5, aI g 32 (fs 5)), (h, ob 2 [.ref q, .int (nI n), .int (nI ww)]), (q, aI g 32 f)] := S
      exact ret_V C S hr dX0_push_50 ⟨f9, (hf9), (by first | rfl | simp only [if_neg c_1])⟩
    · -- 19 F
      exact absurd c_1 (by decide)
  · -- k = 1
    refine lv_aload_n hx hb dX0_push_0 rfl (lv_at hl 0 rfl) ?_
    refine top_get C S inX0_push_X0 rfl 0 rfl 0 (by decide) (by decide +kernel) rfl rfl dX0_push_1 ?_
    refine lv_aload_n hx hb dX0_push_4 rfl (lv_at hl 0 rfl) ?_
    refine top_get C S inX0_push_X0 rfl 0 rfl 1 (by decide) (by decide +kernel) rfl rfl dX0_push_5 ?_
    refine top_old C S 1 rfl (j := 1) rfl (by omega) (by decide) (by exact hro.2.1) dX0_push_8 ?_
    refine lv_aload_n hx hb dX0_push_9 rfl (lv_at hl 1 rfl) ?_
    refine after_V (wc := [(a1, ob 2 [.ref b1, .int (nI (ns 1)), .int (nI (wbs 1))]), (b1, aI g 32 (fs 1)), (h, ob 2 [.ref q, .int (nI n), .int (nI ww)]), (q, aI g 32 f)]) (y := yX2_become) C S (va_runV (As := [.ref h]) (rest := []) C.1 (kX2_become l g a1 b1 (fs 1) (ns 1) (wbs 1) h q f n ww H.size) (cwV 1 hts gX0_push_X2_become rfl rfl rfl (by decide +kernel) ⟨Nat.le_of_ble_eq_true rfl, Nat.le_of_ble_eq_true rfl⟩) (preV_at C S 4 rfl rfl [4, 5, 14, 15] rfl (by decide)) rfl rfl hl.1 rfl (lv_room (Nat.le_of_ble_eq_true rfl)) dX0_push_10 ⟨Nat.le_of_ble_eq_true rfl, Nat.le_of_ble_eq_true rfl⟩) [4, 5, 14, 15] [0, 1, 2, 3, 6, 7, 8, 9, 10, 11, 12, 13] rfl (wr := [(HH, ob 0 [.ref rg, .int (nI 1), .int (nI z)]), (rg, aO g 6 ro), (a0, ob 2 [.ref b0, .int (nI (ns 0)), .int (nI (wbs 0))]), (b0, aI g 32 (fs 0)), (a2, ob 2 [.ref b2, .int (nI (ns 2)), .int (nI (wbs 2))]), (b2, aI g 32 (fs 2)), (a3, ob 2 [.ref b3, .int (nI (ns 3)), .int (nI (wbs 3))]), (b3, aI g 32 (fs 3)), (a4, ob 2 [.ref b4, .int (nI (ns 4)), .int (nI (wbs 4))]), (b4, aI g 32 (fs 4)), (a5, ob 2 [.ref b5, .int (nI (ns 5)), .int (nI (wbs 5))]), (b5, aI g 32 (fs 5))]) rfl (by decide) (by decide) (fun w0 H locs hq S => ?_)
    obtain ⟨f9, hf9, rfl⟩ := hq
    have S : ST g A ss H locs [(HH, ob 0 [.ref rg, .int (nI 1), .int (nI z)]), (rg, aO g 6 ro), (a0, ob 2 [.ref b0, .int (nI (ns 0)), .int (nI (wbs 0))]), (b0, aI g 32 (fs 0)), (a1, ob 2 [.ref b1, .int (nI n), .int (nI ww)]), (b1, aI g 32 f9), (a2, ob 2 [.ref b2, .int (nI (ns 2)), .int (nI (wbs 2))]), (b2, aI g 32 (fs 2)), (a3, ob 2 [.ref b3, .int (nI (ns 3)), .int (nI (wbs 3))]), (b3, aI g 32 (fs 3)), (a4, ob 2 [.ref b4, .int (nI (ns 4)), .int (nI (wbs 4))]), (b4, aI g 32 (fs 4)), (a5, ob 2 [.ref b5, .int (nI (ns 5)), .int (nI (wbs 5))]), (b5, aI g 32 (fs 5)), (h, ob 2 [.ref q, .int (nI n), .int (nI ww)]), (q, aI g 32 f)] := ST.sub S [0, 1, 2, 3, 12, 13, 4, 5, 6, 7, 8, 9, 10, 11, 14, 15] (by decide) rfl
    refine lv_aload_n hx hb dX0_push_13 rfl (lv_at hl 0 rfl) ?_
    refine lv_aload_n hx hb dX0_push_14 rfl (lv_at hl 0 rfl) ?_
    refine top_get C S inX0_push_X0 rfl 0 rfl 1 (by decide) (by decide +kernel) rfl rfl dX0_push_15 ?_
    refine lv_iconst (v := 5) hx hb dX0_push_18 (by decide) ?_
    refine bn_ine (tgt := 26) (a := 1) (b := 5) hx hb rfl rfl (by omega) (by omega) dX0_push_19 (by decide) (fun c_2 => ?_) (fun c_2 => ?_)
    · -- 19 T
      refine lv_aload_n hx hb dX0_push_26 rfl (lv_at hl 0 rfl) ?_
      refine top_get C S inX0_push_X0 rfl 0 rfl 1 (by decide) (by decide +kernel) rfl rfl dX0_push_27 ?_
      refine lv_iconst (v := 1) hx hb dX0_push_30 (by decide) ?_
      refine lv_iadd hx hb dX0_push_31 ?_
      refine top_eq (y := nI (1 + 1)) (nI_add _ _) ?_
      refine top_put (ty := .int) C S inX0_push_X0 tyX0 tyX0_ok nmX0 rfl 0 rfl 1 (by decide) (by decide +kernel) rfl rfl (tyX0_ok 1 (by decide)) rfl rfl (Nat.le_of_ble_eq_true rfl) dX0_push_32 (fun H locs S => ?_)
      have S : ST g A ss H locs [(HH, ob 0 [.ref rg, .int (nI (1 + 1)), .int (nI z)]), (rg, aO g 6 ro), (a0, ob 2 [.ref b0, .int (nI (ns 0)), .int (nI (wbs 0))]), (b0, aI g 32 (fs 0)), (a1, ob 2 [.ref b1, .int (nI n), .int (nI ww)]), (b1, aI g 32 f9), (a2, ob 2 [.ref b2, .int (nI (ns 2)), .int (nI (wbs 2))]), (b2, aI g 32 (fs 2)), (a3, ob 2 [.ref b3, .int (nI (ns 3)), .int (nI (wbs 3))]), (b3, aI g 32 (fs 3)), (a4, ob 2 [.ref b4, .int (nI (ns 4)), .int (nI (wbs 4))]), (b4, aI g 32 (fs 4)), (a5, ob 2 [.ref b5, .int (nI (ns 5)), .int (nI (wbs 5))]), (b5, aI g 32 (fs 5)), (h, ob 2 [.ref q, .int (nI n), .int (nI ww)]), (q, aI g 32 f)] := S
      refine lv_aload_n hx hb dX0_push_35 rfl (lv_at hl 0 rfl) ?_
      refine lv_aload_n hx hb dX0_push_36 rfl (lv_at hl 0 rfl) ?_
      refine top_get C S inX0_push_X0 rfl 0 rfl 2 (by decide) (by decide +kernel) rfl rfl dX0_push_37 ?_
      refine lv_iconst (v := 1) hx hb dX0_push_40 (by decide) ?_
      refine lv_iadd hx hb dX0_push_41 ?_
      refine top_eq (y := nI (z + 1)) (nI_add _ _) ?_
      refine lv_bipush (v := 6) hx hb dX0_push_42 (by decide) ?_
      refine va_mmin hx hb (hml.trans hl.1.symm) hown (hts (.methodLink RX0 29 Lib.Math.min.name) (by decide +kernel)) (hts (.static Lib.Math.min.name) (by decide +kernel)) (hts (.initialized "java/lang/Math") (by decide +kernel)) (hts (.code Lib.Math.min.name Lib.Math.min.code 2 (some .int)) (by decide +kernel)) (Nat.le_of_ble_eq_true rfl) (Nat.le_of_ble_eq_true rfl) (Nat.le_of_ble_eq_true rfl) (Nat.le_of_ble_eq_true rfl) dX0_push_44 ?_
      refine top_eq (y := imin (nI (z + 1)) 6) rfl ?_
      refine top_eq (y := nI (min (z + 1) 6)) (imin_N (a := z + 1) (b := 6) (by omega) (by omega)) ?_
      refine top_put (ty := .int) C S inX0_push_X0 tyX0 tyX0_ok nmX0 rfl 0 rfl 2 (by decide) (by decide +kernel) rfl rfl (tyX0_ok 2 (by decide)) rfl rfl (Nat.le_of_ble_eq_true rfl) dX0_push_47 (fun H locs S => ?_)
      have S : ST g A ss H locs [(HH, ob 0 [.ref rg, .int (nI (1 + 1)), .int (nI (min (z + 1) 6))]), (rg, aO g 6 ro), (a0, ob 2 [.ref b0, .int (nI (ns 0)), .int (nI (wbs 0))]), (b0, aI g 32 (fs 0)), (a1, ob 2 [.ref b1, .int (nI n), .int (nI ww)]), (b1, aI g 32 f9), (a2, ob 2 [.ref b2, .int (nI (ns 2)), .int (nI (wbs 2))]), (b2, aI g 32 (fs 2)), (a3, ob 2 [.ref b3, .int (nI (ns 3)), .int (nI (wbs 3))]), (b3, aI g 32 (fs 3)), (a4, ob 2 [.ref b4, .int (nI (ns 4)), .int (nI (wbs 4))]), (b4, aI g 32 (fs 4)), (a5, ob 2 [.ref b5, .int (nI (ns 5)), .int (nI (wbs 5))]), (b5, aI g 32 (fs 5)), (h, ob 2 [.ref q, .int (nI n), .int (nI ww)]), (q, aI g 32 f)] := S
      exact ret_V C S hr dX0_push_50 ⟨f9, (hf9), (by first | rfl | simp only [if_neg c_2])⟩
    · -- 19 F
      exact absurd c_2 (by decide)
  · -- k = 2
    refine lv_aload_n hx hb dX0_push_0 rfl (lv_at hl 0 rfl) ?_
    refine top_get C S inX0_push_X0 rfl 0 rfl 0 (by decide) (by decide +kernel) rfl rfl dX0_push_1 ?_
    refine lv_aload_n hx hb dX0_push_4 rfl (lv_at hl 0 rfl) ?_
    refine top_get C S inX0_push_X0 rfl 0 rfl 1 (by decide) (by decide +kernel) rfl rfl dX0_push_5 ?_
    refine top_old C S 1 rfl (j := 2) rfl (by omega) (by decide) (by exact hro.2.2.1) dX0_push_8 ?_
    refine lv_aload_n hx hb dX0_push_9 rfl (lv_at hl 1 rfl) ?_
    refine after_V (wc := [(a2, ob 2 [.ref b2, .int (nI (ns 2)), .int (nI (wbs 2))]), (b2, aI g 32 (fs 2)), (h, ob 2 [.ref q, .int (nI n), .int (nI ww)]), (q, aI g 32 f)]) (y := yX2_become) C S (va_runV (As := [.ref h]) (rest := []) C.1 (kX2_become l g a2 b2 (fs 2) (ns 2) (wbs 2) h q f n ww H.size) (cwV 1 hts gX0_push_X2_become rfl rfl rfl (by decide +kernel) ⟨Nat.le_of_ble_eq_true rfl, Nat.le_of_ble_eq_true rfl⟩) (preV_at C S 6 rfl rfl [6, 7, 14, 15] rfl (by decide)) rfl rfl hl.1 rfl (lv_room (Nat.le_of_ble_eq_true rfl)) dX0_push_10 ⟨Nat.le_of_ble_eq_true rfl, Nat.le_of_ble_eq_true rfl⟩) [6, 7, 14, 15] [0, 1, 2, 3, 4, 5, 8, 9, 10, 11, 12, 13] rfl (wr := [(HH, ob 0 [.ref rg, .int (nI 2), .int (nI z)]), (rg, aO g 6 ro), (a0, ob 2 [.ref b0, .int (nI (ns 0)), .int (nI (wbs 0))]), (b0, aI g 32 (fs 0)), (a1, ob 2 [.ref b1, .int (nI (ns 1)), .int (nI (wbs 1))]), (b1, aI g 32 (fs 1)), (a3, ob 2 [.ref b3, .int (nI (ns 3)), .int (nI (wbs 3))]), (b3, aI g 32 (fs 3)), (a4, ob 2 [.ref b4, .int (nI (ns 4)), .int (nI (wbs 4))]), (b4, aI g 32 (fs 4)), (a5, ob 2 [.ref b5, .int (nI (ns 5)), .int (nI (wbs 5))]), (b5, aI g 32 (fs 5))]) rfl (by decide) (by decide) (fun w0 H locs hq S => ?_)
    obtain ⟨f9, hf9, rfl⟩ := hq
    have S : ST g A ss H locs [(HH, ob 0 [.ref rg, .int (nI 2), .int (nI z)]), (rg, aO g 6 ro), (a0, ob 2 [.ref b0, .int (nI (ns 0)), .int (nI (wbs 0))]), (b0, aI g 32 (fs 0)), (a1, ob 2 [.ref b1, .int (nI (ns 1)), .int (nI (wbs 1))]), (b1, aI g 32 (fs 1)), (a2, ob 2 [.ref b2, .int (nI n), .int (nI ww)]), (b2, aI g 32 f9), (a3, ob 2 [.ref b3, .int (nI (ns 3)), .int (nI (wbs 3))]), (b3, aI g 32 (fs 3)), (a4, ob 2 [.ref b4, .int (nI (ns 4)), .int (nI (wbs 4))]), (b4, aI g 32 (fs 4)), (a5, ob 2 [.ref b5, .int (nI (ns 5)), .int (nI (wbs 5))]), (b5, aI g 32 (fs 5)), (h, ob 2 [.ref q, .int (nI n), .int (nI ww)]), (q, aI g 32 f)] := ST.sub S [0, 1, 2, 3, 4, 5, 12, 13, 6, 7, 8, 9, 10, 11, 14, 15] (by decide) rfl
    refine lv_aload_n hx hb dX0_push_13 rfl (lv_at hl 0 rfl) ?_
    refine lv_aload_n hx hb dX0_push_14 rfl (lv_at hl 0 rfl) ?_
    refine top_get C S inX0_push_X0 rfl 0 rfl 1 (by decide) (by decide +kernel) rfl rfl dX0_push_15 ?_
    refine lv_iconst (v := 5) hx hb dX0_push_18 (by decide) ?_
    refine bn_ine (tgt := 26) (a := 2) (b := 5) hx hb rfl rfl (by omega) (by omega) dX0_push_19 (by decide) (fun c_3 => ?_) (fun c_3 => ?_)
    · -- 19 T
      refine lv_aload_n hx hb dX0_push_26 rfl (lv_at hl 0 rfl) ?_
      refine top_get C S inX0_push_X0 rfl 0 rfl 1 (by decide) (by decide +kernel) rfl rfl dX0_push_27 ?_
      refine lv_iconst (v := 1) hx hb dX0_push_30 (by decide) ?_
      refine lv_iadd hx hb dX0_push_31 ?_
      refine top_eq (y := nI (2 + 1)) (nI_add _ _) ?_
      refine top_put (ty := .int) C S inX0_push_X0 tyX0 tyX0_ok nmX0 rfl 0 rfl 1 (by decide) (by decide +kernel) rfl rfl (tyX0_ok 1 (by decide)) rfl rfl (Nat.le_of_ble_eq_true rfl) dX0_push_32 (fun H locs S => ?_)
      have S : ST g A ss H locs [(HH, ob 0 [.ref rg, .int (nI (2 + 1)), .int (nI z)]), (rg, aO g 6 ro), (a0, ob 2 [.ref b0, .int (nI (ns 0)), .int (nI (wbs 0))]), (b0, aI g 32 (fs 0)), (a1, ob 2 [.ref b1, .int (nI (ns 1)), .int (nI (wbs 1))]), (b1, aI g 32 (fs 1)), (a2, ob 2 [.ref b2, .int (nI n), .int (nI ww)]), (b2, aI g 32 f9), (a3, ob 2 [.ref b3, .int (nI (ns 3)), .int (nI (wbs 3))]), (b3, aI g 32 (fs 3)), (a4, ob 2 [.ref b4, .int (nI (ns 4)), .int (nI (wbs 4))]), (b4, aI g 32 (fs 4)), (a5, ob 2 [.ref b5, .int (nI (ns 5)), .int (nI (wbs 5))]), (b5, aI g 32 (fs 5)), (h, ob 2 [.ref q, .int (nI n), .int (nI ww)]), (q, aI g 32 f)] := S
      refine lv_aload_n hx hb dX0_push_35 rfl (lv_at hl 0 rfl) ?_
      refine lv_aload_n hx hb dX0_push_36 rfl (lv_at hl 0 rfl) ?_
      refine top_get C S inX0_push_X0 rfl 0 rfl 2 (by decide) (by decide +kernel) rfl rfl dX0_push_37 ?_
      refine lv_iconst (v := 1) hx hb dX0_push_40 (by decide) ?_
      refine lv_iadd hx hb dX0_push_41 ?_
      refine top_eq (y := nI (z + 1)) (nI_add _ _) ?_
      refine lv_bipush (v := 6) hx hb dX0_push_42 (by decide) ?_
      refine va_mmin hx hb (hml.trans hl.1.symm) hown (hts (.methodLink RX0 29 Lib.Math.min.name) (by decide +kernel)) (hts (.static Lib.Math.min.name) (by decide +kernel)) (hts (.initialized "java/lang/Math") (by decide +kernel)) (hts (.code Lib.Math.min.name Lib.Math.min.code 2 (some .int)) (by decide +kernel)) (Nat.le_of_ble_eq_true rfl) (Nat.le_of_ble_eq_true rfl) (Nat.le_of_ble_eq_true rfl) (Nat.le_of_ble_eq_true rfl) dX0_push_44 ?_
      refine top_eq (y := imin (nI (z + 1)) 6) rfl ?_
      refine top_eq (y := nI (min (z + 1) 6)) (imin_N (a := z + 1) (b := 6) (by omega) (by omega)) ?_
      refine top_put (ty := .int) C S inX0_push_X0 tyX0 tyX0_ok nmX0 rfl 0 rfl 2 (by decide) (by decide +kernel) rfl rfl (tyX0_ok 2 (by decide)) rfl rfl (Nat.le_of_ble_eq_true rfl) dX0_push_47 (fun H locs S => ?_)
      have S : ST g A ss H locs [(HH, ob 0 [.ref rg, .int (nI (2 + 1)), .int (nI (min (z + 1) 6))]), (rg, aO g 6 ro), (a0, ob 2 [.ref b0, .int (nI (ns 0)), .int (nI (wbs 0))]), (b0, aI g 32 (fs 0)), (a1, ob 2 [.ref b1, .int (nI (ns 1)), .int (nI (wbs 1))]), (b1, aI g 32 (fs 1)), (a2, ob 2 [.ref b2, .int (nI n), .int (nI ww)]), (b2, aI g 32 f9), (a3, ob 2 [.ref b3, .int (nI (ns 3)), .int (nI (wbs 3))]), (b3, aI g 32 (fs 3)), (a4, ob 2 [.ref b4, .int (nI (ns 4)), .int (nI (wbs 4))]), (b4, aI g 32 (fs 4)), (a5, ob 2 [.ref b5, .int (nI (ns 5)), .int (nI (wbs 5))]), (b5, aI g 32 (fs 5)), (h, ob 2 [.ref q, .int (nI n), .int (nI ww)]), (q, aI g 32 f)] := S
      exact ret_V C S hr dX0_push_50 ⟨f9, (hf9), (by first | rfl | simp only [if_neg c_3])⟩
    · -- 19 F
      exact absurd c_3 (by decide)
  · -- k = 3
    refine lv_aload_n hx hb dX0_push_0 rfl (lv_at hl 0 rfl) ?_
    refine top_get C S inX0_push_X0 rfl 0 rfl 0 (by decide) (by decide +kernel) rfl rfl dX0_push_1 ?_
    refine lv_aload_n hx hb dX0_push_4 rfl (lv_at hl 0 rfl) ?_
    refine top_get C S inX0_push_X0 rfl 0 rfl 1 (by decide) (by decide +kernel) rfl rfl dX0_push_5 ?_
    refine top_old C S 1 rfl (j := 3) rfl (by omega) (by decide) (by exact hro.2.2.2.1) dX0_push_8 ?_
    refine lv_aload_n hx hb dX0_push_9 rfl (lv_at hl 1 rfl) ?_
    refine after_V (wc := [(a3, ob 2 [.ref b3, .int (nI (ns 3)), .int (nI (wbs 3))]), (b3, aI g 32 (fs 3)), (h, ob 2 [.ref q, .int (nI n), .int (nI ww)]), (q, aI g 32 f)]) (y := yX2_become) C S (va_runV (As := [.ref h]) (rest := []) C.1 (kX2_become l g a3 b3 (fs 3) (ns 3) (wbs 3) h q f n ww H.size) (cwV 1 hts gX0_push_X2_become rfl rfl rfl (by decide +kernel) ⟨Nat.le_of_ble_eq_true rfl, Nat.le_of_ble_eq_true rfl⟩) (preV_at C S 8 rfl rfl [8, 9, 14, 15] rfl (by decide)) rfl rfl hl.1 rfl (lv_room (Nat.le_of_ble_eq_true rfl)) dX0_push_10 ⟨Nat.le_of_ble_eq_true rfl, Nat.le_of_ble_eq_true rfl⟩) [8, 9, 14, 15] [0, 1, 2, 3, 4, 5, 6, 7, 10, 11, 12, 13] rfl (wr := [(HH, ob 0 [.ref rg, .int (nI 3), .int (nI z)]), (rg, aO g 6 ro), (a0, ob 2 [.ref b0, .int (nI (ns 0)), .int (nI (wbs 0))]), (b0, aI g 32 (fs 0)), (a1, ob 2 [.ref b1, .int (nI (ns 1)), .int (nI (wbs 1))]), (b1, aI g 32 (fs 1)), (a2, ob 2 [.ref b2, .int (nI (ns 2)), .int (nI (wbs 2))]), (b2, aI g 32 (fs 2)), (a4, ob 2 [.ref b4, .int (nI (ns 4)), .int (nI (wbs 4))]), (b4, aI g 32 (fs 4)), (a5, ob 2 [.ref b5, .int (nI (ns 5)), .int (nI (wbs 5))]), (b5, aI g 32 (fs 5))]) rfl (by decide) (by decide) (fun w0 H locs hq S => ?_)
    obtain ⟨f9, hf9, rfl⟩ := hq
    have S : ST g A ss H locs [(HH, ob 0 [.ref rg, .int (nI 3), .int (nI z)]), (rg, aO g 6 ro), (a0, ob 2 [.ref b0, .int (nI (ns 0)), .int (nI (wbs 0))]), (b0, aI g 32 (fs 0)), (a1, ob 2 [.ref b1, .int (nI (ns 1)), .int (nI (wbs 1))]), (b1, aI g 32 (fs 1)), (a2, ob 2 [.ref b2, .int (nI (ns 2)), .int (nI (wbs 2))]), (b2, aI g 32 (fs 2)), (a3, ob 2 [.ref b3, .int (nI n), .int (nI ww)]), (b3, aI g 32 f9), (a4, ob 2 [.ref b4, .int (nI (ns 4)), .int (nI (wbs 4))]), (b4, aI g 32 (fs 4)), (a5, ob 2 [.ref b5, .int (nI (ns 5)), .int (nI (wbs 5))]), (b5, aI g 32 (fs 5)), (h, ob 2 [.ref q, .int (nI n), .int (nI ww)]), (q, aI g 32 f)] := ST.sub S [0, 1, 2, 3, 4, 5, 6, 7, 12, 13, 8, 9, 10, 11, 14, 15] (by decide) rfl
    refine lv_aload_n hx hb dX0_push_13 rfl (lv_at hl 0 rfl) ?_
    refine lv_aload_n hx hb dX0_push_14 rfl (lv_at hl 0 rfl) ?_
    refine top_get C S inX0_push_X0 rfl 0 rfl 1 (by decide) (by decide +kernel) rfl rfl dX0_push_15 ?_
    refine lv_iconst (v := 5) hx hb dX0_push_18 (by decide) ?_
    refine bn_ine (tgt := 26) (a := 3) (b := 5) hx hb rfl rfl (by omega) (by omega) dX0_push_19 (by decide) (fun c_4 => ?_) (fun c_4 => ?_)
    · -- 19 T
      refine lv_aload_n hx hb dX0_push_26 rfl (lv_at hl 0 rfl) ?_
      refine top_get C S inX0_push_X0 rfl 0 rfl 1 (by decide) (by decide +kernel) rfl rfl dX0_push_27 ?_
      refine lv_iconst (v := 1) hx hb dX0_push_30 (by decide) ?_
      refine lv_iadd hx hb dX0_push_31 ?_
      refine top_eq (y := nI (3 + 1)) (nI_add _ _) ?_
      refine top_put (ty := .int) C S inX0_push_X0 tyX0 tyX0_ok nmX0 rfl 0 rfl 1 (by decide) (by decide +kernel) rfl rfl (tyX0_ok 1 (by decide)) rfl rfl (Nat.le_of_ble_eq_true rfl) dX0_push_32 (fun H locs S => ?_)
      have S : ST g A ss H locs [(HH, ob 0 [.ref rg, .int (nI (3 + 1)), .int (nI z)]), (rg, aO g 6 ro), (a0, ob 2 [.ref b0, .int (nI (ns 0)), .int (nI (wbs 0))]), (b0, aI g 32 (fs 0)), (a1, ob 2 [.ref b1, .int (nI (ns 1)), .int (nI (wbs 1))]), (b1, aI g 32 (fs 1)), (a2, ob 2 [.ref b2, .int (nI (ns 2)), .int (nI (wbs 2))]), (b2, aI g 32 (fs 2)), (a3, ob 2 [.ref b3, .int (nI n), .int (nI ww)]), (b3, aI g 32 f9), (a4, ob 2 [.ref b4, .int (nI (ns 4)), .int (nI (wbs 4))]), (b4, aI g 32 (fs 4)), (a5, ob 2 [.ref b5, .int (nI (ns 5)), .int (nI (wbs 5))]), (b5, aI g 32 (fs 5)), (h, ob 2 [.ref q, .int (nI n), .int (nI ww)]), (q, aI g 32 f)] := S
      refine lv_aload_n hx hb dX0_push_35 rfl (lv_at hl 0 rfl) ?_
      refine lv_aload_n hx hb dX0_push_36 rfl (lv_at hl 0 rfl) ?_
      refine top_get C S inX0_push_X0 rfl 0 rfl 2 (by decide) (by decide +kernel) rfl rfl dX0_push_37 ?_
      refine lv_iconst (v := 1) hx hb dX0_push_40 (by decide) ?_
      refine lv_iadd hx hb dX0_push_41 ?_
      refine top_eq (y := nI (z + 1)) (nI_add _ _) ?_
      refine lv_bipush (v := 6) hx hb dX0_push_42 (by decide) ?_
      refine va_mmin hx hb (hml.trans hl.1.symm) hown (hts (.methodLink RX0 29 Lib.Math.min.name) (by decide +kernel)) (hts (.static Lib.Math.min.name) (by decide +kernel)) (hts (.initialized "java/lang/Math") (by decide +kernel)) (hts (.code Lib.Math.min.name Lib.Math.min.code 2 (some .int)) (by decide +kernel)) (Nat.le_of_ble_eq_true rfl) (Nat.le_of_ble_eq_true rfl) (Nat.le_of_ble_eq_true rfl) (Nat.le_of_ble_eq_true rfl) dX0_push_44 ?_
      refine top_eq (y := imin (nI (z + 1)) 6) rfl ?_
      refine top_eq (y := nI (min (z + 1) 6)) (imin_N (a := z + 1) (b := 6) (by omega) (by omega)) ?_
      refine top_put (ty := .int) C S inX0_push_X0 tyX0 tyX0_ok nmX0 rfl 0 rfl 2 (by decide) (by decide +kernel) rfl rfl (tyX0_ok 2 (by decide)) rfl rfl (Nat.le_of_ble_eq_true rfl) dX0_push_47 (fun H locs S => ?_)
      have S : ST g A ss H locs [(HH, ob 0 [.ref rg, .int (nI (3 + 1)), .int (nI (min (z + 1) 6))]), (rg, aO g 6 ro), (a0, ob 2 [.ref b0, .int (nI (ns 0)), .int (nI (wbs 0))]), (b0, aI g 32 (fs 0)), (a1, ob 2 [.ref b1, .int (nI (ns 1)), .int (nI (wbs 1))]), (b1, aI g 32 (fs 1)), (a2, ob 2 [.ref b2, .int (nI (ns 2)), .int (nI (wbs 2))]), (b2, aI g 32 (fs 2)), (a3, ob 2 [.ref b3, .int (nI n), .int (nI ww)]), (b3, aI g 32 f9), (a4, ob 2 [.ref b4, .int (nI (ns 4)), .int (nI (wbs 4))]), (b4, aI g 32 (fs 4)), (a5, ob 2 [.ref b5, .int (nI (ns 5)), .int (nI (wbs 5))]), (b5, aI g 32 (fs 5)), (h, ob 2 [.ref q, .int (nI n), .int (nI ww)]), (q, aI g 32 f)] := S
      exact ret_V C S hr dX0_push_50 ⟨f9, (hf9), (by first | rfl | simp only [if_neg c_4])⟩
    · -- 19 F
      exact absurd c_4 (by decide)
  · -- k = 4
    refine lv_aload_n hx hb dX0_push_0 rfl (lv_at hl 0 rfl) ?_
    refine top_get C S inX0_push_X0 rfl 0 rfl 0 (by decide) (by decide +kernel) rfl rfl dX0_push_1 ?_
    refine lv_aload_n hx hb dX0_push_4 rfl (lv_at hl 0 rfl) ?_
    refine top_get C S inX0_push_X0 rfl 0 rfl 1 (by decide) (by decide +kernel) rfl rfl dX0_push_5 ?_
    refine top_old C S 1 rfl (j := 4) rfl (by omega) (by decide) (by exact hro.2.2.2.2.1) dX0_push_8 ?_
    refine lv_aload_n hx hb dX0_push_9 rfl (lv_at hl 1 rfl) ?_
    refine after_V (wc := [(a4, ob 2 [.ref b4, .int (nI (ns 4)), .int (nI (wbs 4))]), (b4, aI g 32 (fs 4)), (h, ob 2 [.ref q, .int (nI n), .int (nI ww)]), (q, aI g 32 f)]) (y := yX2_become) C S (va_runV (As := [.ref h]) (rest := []) C.1 (kX2_become l g a4 b4 (fs 4) (ns 4) (wbs 4) h q f n ww H.size) (cwV 1 hts gX0_push_X2_become rfl rfl rfl (by decide +kernel) ⟨Nat.le_of_ble_eq_true rfl, Nat.le_of_ble_eq_true rfl⟩) (preV_at C S 10 rfl rfl [10, 11, 14, 15] rfl (by decide)) rfl rfl hl.1 rfl (lv_room (Nat.le_of_ble_eq_true rfl)) dX0_push_10 ⟨Nat.le_of_ble_eq_true rfl, Nat.le_of_ble_eq_true rfl⟩) [10, 11, 14, 15] [0, 1, 2, 3, 4, 5, 6, 7, 8, 9, 12, 13] rfl (wr := [(HH, ob 0 [.ref rg, .int (nI 4), .int (nI z)]), (rg, aO g 6 ro), (a0, ob 2 [.ref b0, .int (nI (ns 0)), .int (nI (wbs 0))]), (b0, aI g 32 (fs 0)), (a1, ob 2 [.ref b1, .int (nI (ns 1)), .int (nI (wbs 1))]), (b1, aI g 32 (fs 1)), (a2, ob 2 [.ref b2, .int (nI (ns 2)), .int (nI (wbs 2))]), (b2, aI g 32 (fs 2)), (a3, ob 2 [.ref b3, .int (nI (ns 3)), .int (nI (wbs 3))]), (b3, aI g 32 (fs 3)), (a5, ob 2 [.ref b5, .int (nI (ns 5)), .int (nI (wbs 5))]), (b5, aI g 32 (fs 5))]) rfl (by decide) (by decide) (fun w0 H locs hq S => ?_)
    obtain ⟨f9, hf9, rfl⟩ := hq
    have S : ST g A ss H locs [(HH, ob 0 [.ref rg, .int (nI 4), .int (nI z)]), (rg, aO g 6 ro), (a0, ob 2 [.ref b0, .int (nI (ns 0)), .int (nI (wbs 0))]), (b0, aI g 32 (fs 0)), (a1, ob 2 [.ref b1, .int (nI (ns 1)), .int (nI (wbs 1))]), (b1, aI g 32 (fs 1)), (a2, ob 2 [.ref b2, .int (nI (ns 2)), .int (nI (wbs 2))]), (b2, aI g 32 (fs 2)), (a3, ob 2 [.ref b3, .int (nI (ns 3)), .int (nI (wbs 3))]), (b3, aI g 32 (fs 3)), (a4, ob 2 [.ref b4, .int (nI n), .int (nI ww)]), (b4, aI g 32 f9), (a5, ob 2 [.ref b5, .int (nI (ns 5)), .int (nI (wbs 5))]), (b5, aI g 32 (fs 5)), (h, ob 2 [.ref q, .int (nI n), .int (nI ww)]), (q, aI g 32 f)] := ST.sub S [0, 1, 2, 3, 4, 5, 6, 7, 8, 9, 12, 13, 10, 11, 14, 15] (by decide) rfl
    refine lv_aload_n hx hb dX0_push_13 rfl (lv_at hl 0 rfl) ?_
    refine lv_aload_n hx hb dX0_push_14 rfl (lv_at hl 0 rfl) ?_
    refine top_get C S inX0_push_X0 rfl 0 rfl 1 (by decide) (by decide +kernel) rfl rfl dX0_push_15 ?_
    refine lv_iconst (v := 5) hx hb dX0_push_18 (by decide) ?_
    refine bn_ine (tgt := 26) (a := 4) (b := 5) hx hb rfl rfl (by omega) (by omega) dX0_push_19 (by decide) (fun c_5 => ?_) (fun c_5 => ?_)
    · -- 19 T
      refine lv_aload_n hx hb dX0_push_26 rfl (lv_at hl 0 rfl) ?_
      refine top_get C S inX0_push_X0 rfl 0 rfl 1 (by decide) (by decide +kernel) rfl rfl dX0_push_27 ?_
      refine lv_iconst (v := 1) hx hb dX0_push_30 (by decide) ?_
      refine lv_iadd hx hb dX0_push_31 ?_
      refine top_eq (y := nI (4 + 1)) (nI_add _ _) ?_
      refine top_put (ty := .int) C S inX0_push_X0 tyX0 tyX0_ok nmX0 rfl 0 rfl 1 (by decide) (by decide +kernel) rfl rfl (tyX0_ok 1 (by decide)) rfl rfl (Nat.le_of_ble_eq_true rfl) dX0_push_32 (fun H locs S => ?_)
      have S : ST g A ss H locs [(HH, ob 0 [.ref rg, .int (nI (4 + 1)), .int (nI z)]), (rg, aO g 6 ro), (a0, ob 2 [.ref b0, .int (nI (ns 0)), .int (nI (wbs 0))]), (b0, aI g 32 (fs 0)), (a1, ob 2 [.ref b1, .int (nI (ns 1)), .int (nI (wbs 1))]), (b1, aI g 32 (fs 1)), (a2, ob 2 [.ref b2, .int (nI (ns 2)), .int (nI (wbs 2))]), (b2, aI g 32 (fs 2)), (a3, ob 2 [.ref b3, .int (nI (ns 3)), .int (nI (wbs 3))]), (b3, aI g 32 (fs 3)), (a4, ob 2 [.ref b4, .int (nI n), .int (nI ww)]), (b4, aI g 32 f9), (a5, ob 2 [.ref b5, .int (nI (ns 5)), .int (nI (wbs 5))]), (b5, aI g 32 (fs 5)), (h, ob 2 [.ref q, .int (nI n), .int (nI ww)]), (q, aI g 32 f)] := S
      refine lv_aload_n hx hb dX0_push_35 rfl (lv_at hl 0 rfl) ?_
      refine lv_aload_n hx hb dX0_push_36 rfl (lv_at hl 0 rfl) ?_
      refine top_get C S inX0_push_X0 rfl 0 rfl 2 (by decide) (by decide +kernel) rfl rfl dX0_push_37 ?_
      refine lv_iconst (v := 1) hx hb dX0_push_40 (by decide) ?_
      refine lv_iadd hx hb dX0_push_41 ?_
      refine top_eq (y := nI (z + 1)) (nI_add _ _) ?_
      refine lv_bipush (v := 6) hx hb dX0_push_42 (by decide) ?_
      refine va_mmin hx hb (hml.trans hl.1.symm) hown (hts (.methodLink RX0 29 Lib.Math.min.name) (by decide +kernel)) (hts (.static Lib.Math.min.name) (by decide +kernel)) (hts (.initialized "java/lang/Math") (by decide +kernel)) (hts (.code Lib.Math.min.name Lib.Math.min.code 2 (some .int)) (by decide +kernel)) (Nat.le_of_ble_eq_true rfl) (Nat.le_of_ble_eq_true rfl) (Nat.le_of_ble_eq_true rfl) (Nat.le_of_ble_eq_true rfl) dX0_push_44 ?_
      refine top_eq (y := imin (nI (z + 1)) 6) rfl ?_
      refine top_eq (y := nI (min (z + 1) 6)) (imin_N (a := z + 1) (b := 6) (by omega) (by omega)) ?_
      refine top_put (ty := .int) C S inX0_push_X0 tyX0 tyX0_ok nmX0 rfl 0 rfl 2 (by decide) (by decide +kernel) rfl rfl (tyX0_ok 2 (by decide)) rfl rfl (Nat.le_of_ble_eq_true rfl) dX0_push_47 (fun H locs S => ?_)
      have S : ST g A ss H locs [(HH, ob 0 [.ref rg, .int (nI (4 + 1)), .int (nI (min (z + 1) 6))]), (rg, aO g 6 ro), (a0, ob 2 [.ref b0, .int (nI (ns 0)), .int (nI (wbs 0))]), (b0, aI g 32 (fs 0)), (a1, ob 2 [.ref b1, .int (nI (ns 1)), .int (nI (wbs 1))]), (b1, aI g 32 (fs 1)), (a2, ob 2 [.ref b2, .int (nI (ns 2)), .int (nI (wbs 2))]), (b2, aI g 32 (fs 2)), (a3, ob 2 [.ref b3, .int (nI (ns 3)), .int (nI (wbs 3))]), (b3, aI g 32 (fs 3)), (a4, ob 2 [.ref b4, .int (nI n), .int (nI ww)]), (b4, aI g 32 f9), (a5, ob 2 [.ref b5, .int (nI (ns 5)), .int (nI (wbs 5))]), (b5, aI g 32 (fs 5)), (h, ob 2 [.ref q, .int (nI n), .int (nI ww)]), (q, aI g 32 f)] := S
      exact ret_V C S hr dX0_push_50 ⟨f9, (hf9), (by first | rfl | simp only [if_neg c_5])⟩
    · -- 19 F
      exact absurd c_5 (by decide)
  · -- k = 5
    refine lv_aload_n hx hb dX0_push_0 rfl (lv_at hl 0 rfl) ?_
    refine top_get C S inX0_push_X0 rfl 0 rfl 0 (by decide) (by decide +kernel) rfl rfl dX0_push_1 ?_
    refine lv_aload_n hx hb dX0_push_4 rfl (lv_at hl 0 rfl) ?_
    refine top_get C S inX0_push_X0 rfl 0 rfl 1 (by decide) (by decide +kernel) rfl rfl dX0_push_5 ?_
    refine top_old C S 1 rfl (j := 5) rfl (by omega) (by decide) (by exact hro.2.2.2.2.2) dX0_push_8 ?_
    refine lv_aload_n hx hb dX0_push_9 rfl (lv_at hl 1 rfl) ?_
    refine after_V (wc := [(a5, ob 2 [.ref b5, .int (nI (ns 5)), .int (nI (wbs 5))]), (b5, aI g 32 (fs 5)), (h, ob 2 [.ref q, .int (nI n), .int (nI ww)]), (q, aI g 32 f)]) (y := yX2_become) C S (va_runV (As := [.ref h]) (rest := []) C.1 (kX2_become l g a5 b5 (fs 5) (ns 5) (wbs 5) h q f n ww H.size) (cwV 1 hts gX0_push_X2_become rfl rfl rfl (by decide +kernel) ⟨Nat.le_of_ble_eq_true rfl, Nat.le_of_ble_eq_true rfl⟩) (preV_at C S 12 rfl rfl [12, 13, 14, 15] rfl (by decide)) rfl rfl hl.1 rfl (lv_room (Nat.le_of_ble_eq_true rfl)) dX0_push_10 ⟨Nat.le_of_ble_eq_true rfl, Nat.le_of_ble_eq_true rfl⟩) [12, 13, 14, 15] [0, 1, 2, 3, 4, 5, 6, 7, 8, 9, 10, 11] rfl (wr := [(HH, ob 0 [.ref rg, .int (nI 5), .int (nI z)]), (rg, aO g 6 ro), (a0, ob 2 [.ref b0, .int (nI (ns 0)), .int (nI (wbs 0))]), (b0, aI g 32 (fs 0)), (a1, ob 2 [.ref b1, .int (nI (ns 1)), .int (nI (wbs 1))]), (b1, aI g 32 (fs 1)), (a2, ob 2 [.ref b2, .int (nI (ns 2)), .int (nI (wbs 2))]), (b2, aI g 32 (fs 2)), (a3, ob 2 [.ref b3, .int (nI (ns 3)), .int (nI (wbs 3))]), (b3, aI g 32 (fs 3)), (a4, ob 2 [.ref b4, .int (nI (ns 4)), .int (nI (wbs 4))]), (b4, aI g 32 (fs 4))]) rfl (by decide) (by decide) (fun w0 H locs hq S => ?_)
    obtain ⟨f9, hf9, rfl⟩ := hq
    have S : ST g A ss H locs [(HH, ob 0 [.ref rg, .int (nI 5), .int (nI z)]), (rg, aO g 6 ro), (a0, ob 2 [.ref b0, .int (nI (ns 0)), .int (nI (wbs 0))]), (b0, aI g 32 (fs 0)), (a1, ob 2 [.ref b1, .int (nI (ns 1)), .int (nI (wbs 1))]), (b1, aI g 32 (fs 1)), (a2, ob 2 [.ref b2, .int (nI (ns 2)), .int (nI (wbs 2))]), (b2, aI g 32 (fs 2)), (a3, ob 2 [.ref b3, .int (nI (ns 3)), .int (nI (wbs 3))]), (b3, aI g 32 (fs 3)), (a4, ob 2 [.ref b4, .int (nI (ns 4)), .int (nI (wbs 4))]), (b4, aI g 32 (fs 4)), (a5, ob 2 [.ref b5, .int (nI n), .int (nI ww)]), (b5, aI g 32 f9), (h, ob 2 [.ref q, .int (nI n), .int (nI ww)]), (q, aI g 32 f)] := S
    refine lv_aload_n hx hb dX0_push_13 rfl (lv_at hl 0 rfl) ?_
    refine lv_aload_n hx hb dX0_push_14 rfl (lv_at hl 0 rfl) ?_
    refine top_get C S inX0_push_X0 rfl 0 rfl 1 (by decide) (by decide +kernel) rfl rfl dX0_push_15 ?_
    refine lv_iconst (v := 5) hx hb dX0_push_18 (by decide) ?_
    refine bn_ine (tgt := 26) (a := 5) (b := 5) hx hb rfl rfl (by omega) (by omega) dX0_push_19 (by decide) (fun c_6 => ?_) (fun c_6 => ?_)
    · -- 19 T
      exact absurd c_6 (by decide)
    · -- 19 F
      refine lv_iconst (v := 0) hx hb dX0_push_22 (by decide) ?_
      refine lv_goto (tgt := 32) hx hb dX0_push_23 (by decide) ?_
      refine top_put (ty := .int) C S inX0_push_X0 tyX0 tyX0_ok nmX0 rfl 0 rfl 1 (by decide) (by decide +kernel) rfl rfl (tyX0_ok 1 (by decide)) rfl rfl (Nat.le_of_ble_eq_true rfl) dX0_push_32 (fun H locs S => ?_)
      have S : ST g A ss H locs [(HH, ob 0 [.ref rg, .int 0, .int (nI z)]), (rg, aO g 6 ro), (a0, ob 2 [.ref b0, .int (nI (ns 0)), .int (nI (wbs 0))]), (b0, aI g 32 (fs 0)), (a1, ob 2 [.ref b1, .int (nI (ns 1)), .int (nI (wbs 1))]), (b1, aI g 32 (fs 1)), (a2, ob 2 [.ref b2, .int (nI (ns 2)), .int (nI (wbs 2))]), (b2, aI g 32 (fs 2)), (a3, ob 2 [.ref b3, .int (nI (ns 3)), .int (nI (wbs 3))]), (b3, aI g 32 (fs 3)), (a4, ob 2 [.ref b4, .int (nI (ns 4)), .int (nI (wbs 4))]), (b4, aI g 32 (fs 4)), (a5, ob 2 [.ref b5, .int (nI n), .int (nI ww)]), (b5, aI g 32 f9), (h, ob 2 [.ref q, .int (nI n), .int (nI ww)]), (q, aI g 32 f)] := S
      refine lv_aload_n hx hb dX0_push_35 rfl (lv_at hl 0 rfl) ?_
      refine lv_aload_n hx hb dX0_push_36 rfl (lv_at hl 0 rfl) ?_
      refine top_get C S inX0_push_X0 rfl 0 rfl 2 (by decide) (by decide +kernel) rfl rfl dX0_push_37 ?_
      refine lv_iconst (v := 1) hx hb dX0_push_40 (by decide) ?_
      refine lv_iadd hx hb dX0_push_41 ?_
      refine top_eq (y := nI (z + 1)) (nI_add _ _) ?_
      refine lv_bipush (v := 6) hx hb dX0_push_42 (by decide) ?_
      refine va_mmin hx hb (hml.trans hl.1.symm) hown (hts (.methodLink RX0 29 Lib.Math.min.name) (by decide +kernel)) (hts (.static Lib.Math.min.name) (by decide +kernel)) (hts (.initialized "java/lang/Math") (by decide +kernel)) (hts (.code Lib.Math.min.name Lib.Math.min.code 2 (some .int)) (by decide +kernel)) (Nat.le_of_ble_eq_true rfl) (Nat.le_of_ble_eq_true rfl) (Nat.le_of_ble_eq_true rfl) (Nat.le_of_ble_eq_true rfl) dX0_push_44 ?_
      refine top_eq (y := imin (nI (z + 1)) 6) rfl ?_
      refine top_eq (y := nI (min (z + 1) 6)) (imin_N (a := z + 1) (b := 6) (by omega) (by omega)) ?_
      refine top_put (ty := .int) C S inX0_push_X0 tyX0 tyX0_ok nmX0 rfl 0 rfl 2 (by decide) (by decide +kernel) rfl rfl (tyX0_ok 2 (by decide)) rfl rfl (Nat.le_of_ble_eq_true rfl) dX0_push_47 (fun H locs S => ?_)
      have S : ST g A ss H locs [(HH, ob 0 [.ref rg, .int 0, .int (nI (min (z + 1) 6))]), (rg, aO g 6 ro), (a0, ob 2 [.ref b0, .int (nI (ns 0)), .int (nI (wbs 0))]), (b0, aI g 32 (fs 0)), (a1, ob 2 [.ref b1, .int (nI (ns 1)), .int (nI (wbs 1))]), (b1, aI g 32 (fs 1)), (a2, ob 2 [.ref b2, .int (nI (ns 2)), .int (nI (wbs 2))]), (b2, aI g 32 (fs 2)), (a3, ob 2 [.ref b3, .int (nI (ns 3)), .int (nI (wbs 3))]), (b3, aI g 32 (fs 3)), (a4, ob 2 [.ref b4, .int (nI (ns 4)), .int (nI (wbs 4))]), (b4, aI g 32 (fs 4)), (a5, ob 2 [.ref b5, .int (nI n), .int (nI ww)]), (b5, aI g 32 f9), (h, ob 2 [.ref q, .int (nI n), .int (nI ww)]), (q, aI g 32 f)] := S
      exact ret_V C S hr dX0_push_50 ⟨f9, (hf9), (by first | rfl | simp only [if_pos c_6])⟩

theorem inX0_popIntoe_X0 : ∀ w ∈ wsX00, w ∈ wsX0_popInto := by decide +kernel
set_option maxRecDepth 100000 in
set_option maxHeartbeats 4000000 in
theorem kX0_popIntoe (l : Launch) (g : GG) (HH : Nat) (rg : Nat) (ro : Nat → Option Nat) (a0 : Nat) (b0 : Nat) (a1 : Nat) (b1 : Nat) (a2 : Nat) (b2 : Nat) (a3 : Nat) (b3 : Nat) (a4 : Nat) (b4 : Nat) (a5 : Nat) (b5 : Nat) (fs : Nat → Nat → Int32) (ns : Nat → Nat) (wbs : Nat → Nat) (k : Nat) (z : Nat) (h : Nat) (q : Nat) (f : Nat → Int32) (n : Nat) (ww : Nat) (hro : ro 0 = some a0 ∧ ro 1 = some a1 ∧ ro 2 = some a2 ∧ ro 3 = some a3 ∧ ro 4 = some a4 ∧ ro 5 = some a5) (hk : k < 6) (hz : z = 0) : KI l g yX0_popInto wsX0_popInto 0 0 [.ref HH, .ref h] [(HH, ob 0 [.ref rg, .int (nI k), .int (nI z)]), (rg, aO g 6 ro), (a0, ob 2 [.ref b0, .int (nI (ns 0)), .int (nI (wbs 0))]), (b0, aI g 32 (fs 0)), (a1, ob 2 [.ref b1, .int (nI (ns 1)), .int (nI (wbs 1))]), (b1, aI g 32 (fs 1)), (a2, ob 2 [.ref b2, .int (nI (ns 2)), .int (nI (wbs 2))]), (b2, aI g 32 (fs 2)), (a3, ob 2 [.ref b3, .int (nI (ns 3)), .int (nI (wbs 3))]), (b3, aI g 32 (fs 3)), (a4, ob 2 [.ref b4, .int (nI (ns 4)), .int (nI (wbs 4))]), (b4, aI g 32 (fs 4)), (a5, ob 2 [.ref b5, .int (nI (ns 5)), .int (nI (wbs 5))]), (b5, aI g 32 (fs 5)), (h, ob 2 [.ref q, .int (nI n), .int (nI ww)]), (q, aI g 32 f)] (fun (r : Int32) (w' : va_W) => r = (bI false) ∧ w' = [(HH, ob 0 [.ref rg, .int (nI k), .int (nI z)]), (rg, aO g 6 ro), (a0, ob 2 [.ref b0, .int (nI (ns 0)), .int (nI (wbs 0))]), (b0, aI g 32 (fs 0)), (a1, ob 2 [.ref b1, .int (nI (ns 1)), .int (nI (wbs 1))]), (b1, aI g 32 (fs 1)), (a2, ob 2 [.ref b2, .int (nI (ns 2)), .int (nI (wbs 2))]), (b2, aI g 32 (fs 2)), (a3, ob 2 [.ref b3, .int (nI (ns 3)), .int (nI (wbs 3))]), (b3, aI g 32 (fs 3)), (a4, ob 2 [.ref b4, .int (nI (ns 4)), .int (nI (wbs 4))]), (b4, aI g 32 (fs 4)), (a5, ob 2 [.ref b5, .int (nI (ns 5)), .int (nI (wbs 5))]), (b5, aI g 32 (fs 5)), (h, ob 2 [.ref q, .int (nI n), .int (nI ww)]), (q, aI g 32 f)]) := by
  refine kI_of (cc := cX0_popInto) (maxL := 2) (by decide) rfl (Nat.le_of_ble_eq_true rfl) ?_
  intro pp ee ss mm bel mth cd A ls C S hr hl
  obtain ⟨hx, hb, hml, hown, hts⟩ := id C.1
  have hl : lv_has ls 2 [(0, .ref HH), (1, .ref h)] := hl
  obtain ⟨H, hH⟩ : ∃ H, H = ss.heap := ⟨_, rfl⟩
  obtain ⟨locs, hL0⟩ : ∃ L : List Loc, L = [] := ⟨_, rfl⟩
  rw [← hH, ← hL0] at S ⊢
  refine lv_aload_n hx hb dX0_popInto_0 rfl (lv_at hl 0 rfl) ?_
  refine top_get C S inX0_popIntoe_X0 rfl 0 rfl 2 (by decide) (by decide +kernel) rfl rfl dX0_popInto_1 ?_
  refine bn_zne (tgt := 9) (a := z) hx hb rfl (by omega) dX0_popInto_4 (by decide) (fun c_1 => ?_) (fun c_1 => ?_)
  · -- 4 T
    exact absurd hz c_1
  · -- 4 F
    refine lv_iconst (v := 0) hx hb dX0_popInto_7 (by decide) ?_
    exact ret_Z (false) C S hr dX0_popInto_8 (rfl) ⟨(rfl), (rfl)⟩

theorem inX0_popIntop_X0 : ∀ w ∈ wsX00, w ∈ wsX0_popInto := by decide +kernel
set_option maxRecDepth 100000 in
set_option maxHeartbeats 4000000 in
theorem kX0_popIntop (l : Launch) (g : GG) (HH : Nat) (rg : Nat) (ro : Nat → Option Nat) (a0 : Nat) (b0 : Nat) (a1 : Nat) (b1 : Nat) (a2 : Nat) (b2 : Nat) (a3 : Nat) (b3 : Nat) (a4 : Nat) (b4 : Nat) (a5 : Nat) (b5 : Nat) (fs : Nat → Nat → Int32) (ns : Nat → Nat) (wbs : Nat → Nat) (k : Nat) (z : Nat) (h : Nat) (q : Nat) (f : Nat → Int32) (n : Nat) (ww : Nat) (hro : ro 0 = some a0 ∧ ro 1 = some a1 ∧ ro 2 = some a2 ∧ ro 3 = some a3 ∧ ro 4 = some a4 ∧ ro 5 = some a5) (hk : k < 6) (hz : 0 < z) (hz6 : z ≤ 6) : KI l g yX0_popInto wsX0_popInto 2 85 [.ref HH, .ref h] [(HH, ob 0 [.ref rg, .int (nI k), .int (nI z)]), (rg, aO g 6 ro), (a0, ob 2 [.ref b0, .int (nI (ns 0)), .int (nI (wbs 0))]), (b0, aI g 32 (fs 0)), (a1, ob 2 [.ref b1, .int (nI (ns 1)), .int (nI (wbs 1))]), (b1, aI g 32 (fs 1)), (a2, ob 2 [.ref b2, .int (nI (ns 2)), .int (nI (wbs 2))]), (b2, aI g 32 (fs 2)), (a3, ob 2 [.ref b3, .int (nI (ns 3)), .int (nI (wbs 3))]), (b3, aI g 32 (fs 3)), (a4, ob 2 [.ref b4, .int (nI (ns 4)), .int (nI (wbs 4))]), (b4, aI g 32 (fs 4)), (a5, ob 2 [.ref b5, .int (nI (ns 5)), .int (nI (wbs 5))]), (b5, aI g 32 (fs 5)), (h, ob 2 [.ref q, .int (nI n), .int (nI ww)]), (q, aI g 32 f)] (fun (r : Int32) (w' : va_W) => r = (bI true) ∧ ∃ (f' : Nat → Int32), (∀ j, j < 32 → f' j = fs (prv k) j) ∧ w' = [(HH, ob 0 [.ref rg, .int (nI (prv k)), .int (nI (z - 1))]), (rg, aO g 6 ro), (a0, ob 2 [.ref b0, .int (nI (ns 0)), .int (nI (wbs 0))]), (b0, aI g 32 (fs 0)), (a1, ob 2 [.ref b1, .int (nI (ns 1)), .int (nI (wbs 1))]), (b1, aI g 32 (fs 1)), (a2, ob 2 [.ref b2, .int (nI (ns 2)), .int (nI (wbs 2))]), (b2, aI g 32 (fs 2)), (a3, ob 2 [.ref b3, .int (nI (ns 3)), .int (nI (wbs 3))]), (b3, aI g 32 (fs 3)), (a4, ob 2 [.ref b4, .int (nI (ns 4)), .int (nI (wbs 4))]), (b4, aI g 32 (fs 4)), (a5, ob 2 [.ref b5, .int (nI (ns 5)), .int (nI (wbs 5))]), (b5, aI g 32 (fs 5)), (h, ob 2 [.ref q, .int (nI (ns (prv k))), .int (nI (wbs (prv k)))]), (q, aI g 32 f')]) := by
  refine kI_of (cc := cX0_popInto) (maxL := 2) (by decide) rfl (Nat.le_of_ble_eq_true rfl) ?_
  intro pp ee ss mm bel mth cd A ls C S hr hl
  obtain ⟨hx, hb, hml, hown, hts⟩ := id C.1
  have hl : lv_has ls 2 [(0, .ref HH), (1, .ref h)] := hl
  obtain ⟨H, hH⟩ : ∃ H, H = ss.heap := ⟨_, rfl⟩
  obtain ⟨locs, hL0⟩ : ∃ L : List Loc, L = [] := ⟨_, rfl⟩
  rw [← hH, ← hL0] at S ⊢
  refine lv_aload_n hx hb dX0_popInto_0 rfl (lv_at hl 0 rfl) ?_
  refine top_get C S inX0_popIntop_X0 rfl 0 rfl 2 (by decide) (by decide +kernel) rfl rfl dX0_popInto_1 ?_
  refine bn_zne (tgt := 9) (a := z) hx hb rfl (by omega) dX0_popInto_4 (by decide) (fun c_1 => ?_) (fun c_1 => ?_)
  · -- 4 T
    rcases (show k = 0 ∨ k = 1 ∨ k = 2 ∨ k = 3 ∨ k = 4 ∨ k = 5 by omega) with rfl | rfl | rfl | rfl | rfl | rfl
    · -- k = 0
      refine lv_aload_n hx hb dX0_popInto_9 rfl (lv_at hl 0 rfl) ?_
      refine lv_aload_n hx hb dX0_popInto_10 rfl (lv_at hl 0 rfl) ?_
      refine top_get C S inX0_popIntop_X0 rfl 0 rfl 1 (by decide) (by decide +kernel) rfl rfl dX0_popInto_11 ?_
      refine bn_zne (tgt := 21) (a := 0) hx hb rfl (by omega) dX0_popInto_14 (by decide) (fun c_2 => ?_) (fun c_2 => ?_)
      · -- 14 T
        exact absurd c_2 (by decide)
      · -- 14 F
        refine lv_iconst (v := 5) hx hb dX0_popInto_17 (by decide) ?_
        refine lv_goto (tgt := 27) hx hb dX0_popInto_18 (by decide) ?_
        refine top_put (ty := .int) C S inX0_popIntop_X0 tyX0 tyX0_ok nmX0 rfl 0 rfl 1 (by decide) (by decide +kernel) rfl rfl (tyX0_ok 1 (by decide)) rfl rfl (Nat.le_of_ble_eq_true rfl) dX0_popInto_27 (fun H locs S => ?_)
        have S : ST g A ss H locs [(HH, ob 0 [.ref rg, .int 5, .int (nI z)]), (rg, aO g 6 ro), (a0, ob 2 [.ref b0, .int (nI (ns 0)), .int (nI (wbs 0))]), (b0, aI g 32 (fs 0)), (a1, ob 2 [.ref b1, .int (nI (ns 1)), .int (nI (wbs 1))]), (b1, aI g 32 (fs 1)), (a2, ob 2 [.ref b2, .int (nI (ns 2)), .int (nI (wbs 2))]), (b2, aI g 32 (fs 2)), (a3, ob 2 [.ref b3, .int (nI (ns 3)), .int (nI (wbs 3))]), (b3, aI g 32 (fs 3)), (a4, ob 2 [.ref b4, .int (nI (ns 4)), .int (nI (wbs 4))]), (b4, aI g 32 (fs 4)), (a5, ob 2 [.ref b5, .int (nI (ns 5)), .int (nI (wbs 5))]), (b5, aI g 32 (fs 5)), (h, ob 2 [.ref q, .int (nI n), .int (nI ww)]), (q, aI g 32 f)] := S
        refine lv_aload_n hx hb dX0_popInto_30 rfl (lv_at hl 0 rfl) ?_
        refine lv_dup hx hb dX0_popInto_31 rfl ?_
        refine top_get C S inX0_popIntop_X0 rfl 0 rfl 2 (by decide) (by decide +kernel) rfl rfl dX0_popInto_32 ?_
        refine lv_iconst (v := 1) hx hb dX0_popInto_35 (by decide) ?_
        refine lv_isub hx hb dX0_popInto_36 ?_
        refine top_eq (y := nI (z - 1)) (pk_sub (a := z) (b := 1) (by omega)) ?_
        refine top_put (ty := .int) C S inX0_popIntop_X0 tyX0 tyX0_ok nmX0 rfl 0 rfl 2 (by decide) (by decide +kernel) rfl rfl (tyX0_ok 2 (by decide)) rfl rfl (Nat.le_of_ble_eq_true rfl) dX0_popInto_37 (fun H locs S => ?_)
        have S : ST g A ss H locs [(HH, ob 0 [.ref rg, .int 5, .int (nI (z - 1))]), (rg, aO g 6 ro), (a0, ob 2 [.ref b0, .int (nI (ns 0)), .int (nI (wbs 0))]), (b0, aI g 32 (fs 0)), (a1, ob 2 [.ref b1, .int (nI (ns 1)), .int (nI (wbs 1))]), (b1, aI g 32 (fs 1)), (a2, ob 2 [.ref b2, .int (nI (ns 2)), .int (nI (wbs 2))]), (b2, aI g 32 (fs 2)), (a3, ob 2 [.ref b3, .int (nI (ns 3)), .int (nI (wbs 3))]), (b3, aI g 32 (fs 3)), (a4, ob 2 [.ref b4, .int (nI (ns 4)), .int (nI (wbs 4))]), (b4, aI g 32 (fs 4)), (a5, ob 2 [.ref b5, .int (nI (ns 5)), .int (nI (wbs 5))]), (b5, aI g 32 (fs 5)), (h, ob 2 [.ref q, .int (nI n), .int (nI ww)]), (q, aI g 32 f)] := S
        refine lv_aload_n hx hb dX0_popInto_40 rfl (lv_at hl 1 rfl) ?_
        refine lv_aload_n hx hb dX0_popInto_41 rfl (lv_at hl 0 rfl) ?_
        refine top_get C S inX0_popIntop_X0 rfl 0 rfl 0 (by decide) (by decide +kernel) rfl rfl dX0_popInto_42 ?_
        refine lv_aload_n hx hb dX0_popInto_45 rfl (lv_at hl 0 rfl) ?_
        refine top_get C S inX0_popIntop_X0 rfl 0 rfl 1 (by decide) (by decide +kernel) rfl rfl dX0_popInto_46 ?_
        refine top_old C S 1 rfl (j := 5) rfl (by omega) (by decide) (by exact hro.2.2.2.2.2) dX0_popInto_49 ?_
        refine after_V (wc := [(h, ob 2 [.ref q, .int (nI n), .int (nI ww)]), (q, aI g 32 f), (a5, ob 2 [.ref b5, .int (nI (ns 5)), .int (nI (wbs 5))]), (b5, aI g 32 (fs 5))]) (y := yX2_become) C S (va_runV (As := [.ref a5]) (rest := []) C.1 (kX2_become l g h q f n ww a5 b5 (fs 5) (ns 5) (wbs 5) H.size) (cwV 1 hts gX0_popInto_X2_become rfl rfl rfl (by decide +kernel) ⟨Nat.le_of_ble_eq_true rfl, Nat.le_of_ble_eq_true rfl⟩) (preV_at C S 14 rfl rfl [14, 15, 12, 13] rfl (by decide)) rfl rfl hl.1 rfl (lv_room (Nat.le_of_ble_eq_true rfl)) dX0_popInto_50 ⟨Nat.le_of_ble_eq_true rfl, Nat.le_of_ble_eq_true rfl⟩) [14, 15, 12, 13] [0, 1, 2, 3, 4, 5, 6, 7, 8, 9, 10, 11] rfl (wr := [(HH, ob 0 [.ref rg, .int 5, .int (nI (z - 1))]), (rg, aO g 6 ro), (a0, ob 2 [.ref b0, .int (nI (ns 0)), .int (nI (wbs 0))]), (b0, aI g 32 (fs 0)), (a1, ob 2 [.ref b1, .int (nI (ns 1)), .int (nI (wbs 1))]), (b1, aI g 32 (fs 1)), (a2, ob 2 [.ref b2, .int (nI (ns 2)), .int (nI (wbs 2))]), (b2, aI g 32 (fs 2)), (a3, ob 2 [.ref b3, .int (nI (ns 3)), .int (nI (wbs 3))]), (b3, aI g 32 (fs 3)), (a4, ob 2 [.ref b4, .int (nI (ns 4)), .int (nI (wbs 4))]), (b4, aI g 32 (fs 4))]) rfl (by decide) (by decide) (fun w0 H locs hq S => ?_)
        obtain ⟨f9, hf9, rfl⟩ := hq
        have S : ST g A ss H locs [(HH, ob 0 [.ref rg, .int 5, .int (nI (z - 1))]), (rg, aO g 6 ro), (a0, ob 2 [.ref b0, .int (nI (ns 0)), .int (nI (wbs 0))]), (b0, aI g 32 (fs 0)), (a1, ob 2 [.ref b1, .int (nI (ns 1)), .int (nI (wbs 1))]), (b1, aI g 32 (fs 1)), (a2, ob 2 [.ref b2, .int (nI (ns 2)), .int (nI (wbs 2))]), (b2, aI g 32 (fs 2)), (a3, ob 2 [.ref b3, .int (nI (ns 3)), .int (nI (wbs 3))]), (b3, aI g 32 (fs 3)), (a4, ob 2 [.ref b4, .int (nI (ns 4)), .int (nI (wbs 4))]), (b4, aI g 32 (fs 4)), (a5, ob 2 [.ref b5, .int (nI (ns 5)), .int (nI (wbs 5))]), (b5, aI g 32 (fs 5)), (h, ob 2 [.ref q, .int (nI (ns 5)), .int (nI (wbs 5))]), (q, aI g 32 f9)] := ST.sub S [0, 1, 2, 3, 4, 5, 6, 7, 8, 9, 10, 11, 14, 15, 12, 13] (by decide) rfl
        refine lv_iconst (v := 1) hx hb dX0_popInto_53 (by decide) ?_
        exact ret_Z (true) C S hr dX0_popInto_54 (rfl) ⟨(rfl), f9, (hf9), (rfl)⟩
    · -- k = 1
      refine lv_aload_n hx hb dX0_popInto_9 rfl (lv_at hl 0 rfl) ?_
      refine lv_aload_n hx hb dX0_popInto_10 rfl (lv_at hl 0 rfl) ?_
      refine top_get C S inX0_popIntop_X0 rfl 0 rfl 1 (by decide) (by decide +kernel) rfl rfl dX0_popInto_11 ?_
      refine bn_zne (tgt := 21) (a := 1) hx hb rfl (by omega) dX0_popInto_14 (by decide) (fun c_3 => ?_) (fun c_3 => ?_)
      · -- 14 T
        refine lv_aload_n hx hb dX0_popInto_21 rfl (lv_at hl 0 rfl) ?_
        refine top_get C S inX0_popIntop_X0 rfl 0 rfl 1 (by decide) (by decide +kernel) rfl rfl dX0_popInto_22 ?_
        refine lv_iconst (v := 1) hx hb dX0_popInto_25 (by decide) ?_
        refine lv_isub hx hb dX0_popInto_26 ?_
        refine top_eq (y := nI (1 - 1)) (pk_sub (a := 1) (b := 1) (by omega)) ?_
        refine top_put (ty := .int) C S inX0_popIntop_X0 tyX0 tyX0_ok nmX0 rfl 0 rfl 1 (by decide) (by decide +kernel) rfl rfl (tyX0_ok 1 (by decide)) rfl rfl (Nat.le_of_ble_eq_true rfl) dX0_popInto_27 (fun H locs S => ?_)
        have S : ST g A ss H locs [(HH, ob 0 [.ref rg, .int (nI (1 - 1)), .int (nI z)]), (rg, aO g 6 ro), (a0, ob 2 [.ref b0, .int (nI (ns 0)), .int (nI (wbs 0))]), (b0, aI g 32 (fs 0)), (a1, ob 2 [.ref b1, .int (nI (ns 1)), .int (nI (wbs 1))]), (b1, aI g 32 (fs 1)), (a2, ob 2 [.ref b2, .int (nI (ns 2)), .int (nI (wbs 2))]), (b2, aI g 32 (fs 2)), (a3, ob 2 [.ref b3, .int (nI (ns 3)), .int (nI (wbs 3))]), (b3, aI g 32 (fs 3)), (a4, ob 2 [.ref b4, .int (nI (ns 4)), .int (nI (wbs 4))]), (b4, aI g 32 (fs 4)), (a5, ob 2 [.ref b5, .int (nI (ns 5)), .int (nI (wbs 5))]), (b5, aI g 32 (fs 5)), (h, ob 2 [.ref q, .int (nI n), .int (nI ww)]), (q, aI g 32 f)] := S
        refine lv_aload_n hx hb dX0_popInto_30 rfl (lv_at hl 0 rfl) ?_
        refine lv_dup hx hb dX0_popInto_31 rfl ?_
        refine top_get C S inX0_popIntop_X0 rfl 0 rfl 2 (by decide) (by decide +kernel) rfl rfl dX0_popInto_32 ?_
        refine lv_iconst (v := 1) hx hb dX0_popInto_35 (by decide) ?_
        refine lv_isub hx hb dX0_popInto_36 ?_
        refine top_eq (y := nI (z - 1)) (pk_sub (a := z) (b := 1) (by omega)) ?_
        refine top_put (ty := .int) C S inX0_popIntop_X0 tyX0 tyX0_ok nmX0 rfl 0 rfl 2 (by decide) (by decide +kernel) rfl rfl (tyX0_ok 2 (by decide)) rfl rfl (Nat.le_of_ble_eq_true rfl) dX0_popInto_37 (fun H locs S => ?_)
        have S : ST g A ss H locs [(HH, ob 0 [.ref rg, .int (nI (1 - 1)), .int (nI (z - 1))]), (rg, aO g 6 ro), (a0, ob 2 [.ref b0, .int (nI (ns 0)), .int (nI (wbs 0))]), (b0, aI g 32 (fs 0)), (a1, ob 2 [.ref b1, .int (nI (ns 1)), .int (nI (wbs 1))]), (b1, aI g 32 (fs 1)), (a2, ob 2 [.ref b2, .int (nI (ns 2)), .int (nI (wbs 2))]), (b2, aI g 32 (fs 2)), (a3, ob 2 [.ref b3, .int (nI (ns 3)), .int (nI (wbs 3))]), (b3, aI g 32 (fs 3)), (a4, ob 2 [.ref b4, .int (nI (ns 4)), .int (nI (wbs 4))]), (b4, aI g 32 (fs 4)), (a5, ob 2 [.ref b5, .int (nI (ns 5)), .int (nI (wbs 5))]), (b5, aI g 32 (fs 5)), (h, ob 2 [.ref q, .int (nI n), .int (nI ww)]), (q, aI g 32 f)] := S
        refine lv_aload_n hx hb dX0_popInto_40 rfl (lv_at hl 1 rfl) ?_
        refine lv_aload_n hx hb dX0_popInto_41 rfl (lv_at hl 0 rfl) ?_
        refine top_get C S inX0_popIntop_X0 rfl 0 rfl 0 (by decide) (by decide +kernel) rfl rfl dX0_popInto_42 ?_
        refine lv_aload_n hx hb dX0_popInto_45 rfl (lv_at hl 0 rfl) ?_
        refine top_get C S inX0_popIntop_X0 rfl 0 rfl 1 (by decide) (by decide +kernel) rfl rfl dX0_popInto_46 ?_
        refine top_old C S 1 rfl (j := (1 - 1)) rfl (by omega) (by decide) (by exact hro.1) dX0_popInto_49 ?_
        refine after_V (wc := [(h, ob 2 [.ref q, .int (nI n), .int (nI ww)]), (q, aI g 32 f), (a0, ob 2 [.ref b0, .int (nI (ns 0)), .int (nI (wbs 0))]), (b0, aI g 32 (fs 0))]) (y := yX2_become) C S (va_runV (As := [.ref a0]) (rest := []) C.1 (kX2_become l g h q f n ww a0 b0 (fs 0) (ns 0) (wbs 0) H.size) (cwV 1 hts gX0_popInto_X2_become rfl rfl rfl (by decide +kernel) ⟨Nat.le_of_ble_eq_true rfl, Nat.le_of_ble_eq_true rfl⟩) (preV_at C S 14 rfl rfl [14, 15, 2, 3] rfl (by decide)) rfl rfl hl.1 rfl (lv_room (Nat.le_of_ble_eq_true rfl)) dX0_popInto_50 ⟨Nat.le_of_ble_eq_true rfl, Nat.le_of_ble_eq_true rfl⟩) [14, 15, 2, 3] [0, 1, 4, 5, 6, 7, 8, 9, 10, 11, 12, 13] rfl (wr := [(HH, ob 0 [.ref rg, .int (nI (1 - 1)), .int (nI (z - 1))]), (rg, aO g 6 ro), (a1, ob 2 [.ref b1, .int (nI (ns 1)), .int (nI (wbs 1))]), (b1, aI g 32 (fs 1)), (a2, ob 2 [.ref b2, .int (nI (ns 2)), .int (nI (wbs 2))]), (b2, aI g 32 (fs 2)), (a3, ob 2 [.ref b3, .int (nI (ns 3)), .int (nI (wbs 3))]), (b3, aI g 32 (fs 3)), (a4, ob 2 [.ref b4, .int (nI (ns 4)), .int (nI (wbs 4))]), (b4, aI g 32 (fs 4)), (a5, ob 2 [.ref b5, .int (nI (ns 5)), .int (nI (wbs 5))]), (b5, aI g 32 (fs 5))]) rfl (by decide) (by decide) (fun w0 H locs hq S => ?_)
        obtain ⟨f9, hf9, rfl⟩ := hq
        have S : ST g A ss H locs [(HH, ob 0 [.ref rg, .int (nI (1 - 1)), .int (nI (z - 1))]), (rg, aO g 6 ro), (a0, ob 2 [.ref b0, .int (nI (ns 0)), .int (nI (wbs 0))]), (b0, aI g 32 (fs 0)), (a1, ob 2 [.ref b1, .int (nI (ns 1)), .int (nI (wbs 1))]), (b1, aI g 32 (fs 1)), (a2, ob 2 [.ref b2, .int (nI (ns 2)), .int (nI (wbs 2))]), (b2, aI g 32 (fs 2)), (a3, ob 2 [.ref b3, .int (nI (ns 3)), .int (nI (wbs 3))]), (b3, aI g 32 (fs 3)), (a4, ob 2 [.ref b4, .int (nI (ns 4)), .int (nI (wbs 4))]), (b4, aI g 32 (fs 4)), (a5, ob 2 [.ref b5, .int (nI (ns 5)), .int (nI (wbs 5))]), (b5, aI g 32 (fs 5)), (h, ob 2 [.ref q, .int (nI (ns 0)), .int (nI (wbs 0))]), (q, aI g 32 f9)] := ST.sub S [0, 1, 14, 15, 2, 3, 4, 5, 6, 7, 8, 9, 10, 11, 12, 13] (by decide) rfl
        refine lv_iconst (v := 1) hx hb dX0_popInto_53 (by decide) ?_
        exact ret_Z (true) C S hr dX0_popInto_54 (rfl) ⟨(rfl), f9, (hf9), (rfl)⟩
      · -- 14 F
        exact absurd c_3 (by decide)
    · -- k = 2
      refine lv_aload_n hx hb dX0_popInto_9 rfl (lv_at hl 0 rfl) ?_
      refine lv_aload_n hx hb dX0_popInto_10 rfl (lv_at hl 0 rfl) ?_
      refine top_get C S inX0_popIntop_X0 rfl 0 rfl 1 (by decide) (by decide +kernel) rfl rfl dX0_popInto_11 ?_
      refine bn_zne (tgt := 21) (a := 2) hx hb rfl (by omega) dX0_popInto_14 (by decide) (fun c_4 => ?_) (fun c_4 => ?_)
      · -- 14 T
        refine lv_aload_n hx hb dX0_popInto_21 rfl (lv_at hl 0 rfl) ?_
        refine top_get C S inX0_popIntop_X0 rfl 0 rfl 1 (by decide) (by decide +kernel) rfl rfl dX0_popInto_22 ?_
        refine lv_iconst (v := 1) hx hb dX0_popInto_25 (by decide) ?_
        refine lv_isub hx hb dX0_popInto_26 ?_
        refine top_eq (y := nI (2 - 1)) (pk_sub (a := 2) (b := 1) (by omega)) ?_
        refine top_put (ty := .int) C S inX0_popIntop_X0 tyX0 tyX0_ok nmX0 rfl 0 rfl 1 (by decide) (by decide +kernel) rfl rfl (tyX0_ok 1 (by decide)) rfl rfl (Nat.le_of_ble_eq_true rfl) dX0_popInto_27 (fun H locs S => ?_)
        have S : ST g A ss H locs [(HH, ob 0 [.ref rg, .int (nI (2 - 1)), .int (nI z)]), (rg, aO g 6 ro), (a0, ob 2 [.ref b0, .int (nI (ns 0)), .int (nI (wbs 0))]), (b0, aI g 32 (fs 0)), (a1, ob 2 [.ref b1, .int (nI (ns 1)), .int (nI (wbs 1))]), (b1, aI g 32 (fs 1)), (a2, ob 2 [.ref b2, .int (nI (ns 2)), .int (nI (wbs 2))]), (b2, aI g 32 (fs 2)), (a3, ob 2 [.ref b3, .int (nI (ns 3)), .int (nI (wbs 3))]), (b3, aI g 32 (fs 3)), (a4, ob 2 [.ref b4, .int (nI (ns 4)), .int (nI (wbs 4))]), (b4, aI g 32 (fs 4)), (a5, ob 2 [.ref b5, .int (nI (ns 5)), .int (nI (wbs 5))]), (b5, aI g 32 (fs 5)), (h, ob 2 [.ref q, .int (nI n), .int (nI ww)]), (q, aI g 32 f)] := S
        refine lv_aload_n hx hb dX0_popInto_30 rfl (lv_at hl 0 rfl) ?_
        refine lv_dup hx hb dX0_popInto_31 rfl ?_
        refine top_get C S inX0_popIntop_X0 rfl 0 rfl 2 (by decide) (by decide +kernel) rfl rfl dX0_popInto_32 ?_
        refine lv_iconst (v := 1) hx hb dX0_popInto_35 (by decide) ?_
        refine lv_isub hx hb dX0_popInto_36 ?_
        refine top_eq (y := nI (z - 1)) (pk_sub (a := z) (b := 1) (by omega)) ?_
        refine top_put (ty := .int) C S inX0_popIntop_X0 tyX0 tyX0_ok nmX0 rfl 0 rfl 2 (by decide) (by decide +kernel) rfl rfl (tyX0_ok 2 (by decide)) rfl rfl (Nat.le_of_ble_eq_true rfl) dX0_popInto_37 (fun H locs S => ?_)
        have S : ST g A ss H locs [(HH, ob 0 [.ref rg, .int (nI (2 - 1)), .int (nI (z - 1))]), (rg, aO g 6 ro), (a0, ob 2 [.ref b0, .int (nI (ns 0)), .int (nI (wbs 0))]), (b0, aI g 32 (fs 0)), (a1, ob 2 [.ref b1, .int (nI (ns 1)), .int (nI (wbs 1))]), (b1, aI g 32 (fs 1)), (a2, ob 2 [.ref b2, .int (nI (ns 2)), .int (nI (wbs 2))]), (b2, aI g 32 (fs 2)), (a3, ob 2 [.ref b3, .int (nI (ns 3)), .int (nI (wbs 3))]), (b3, aI g 32 (fs 3)), (a4, ob 2 [.ref b4, .int (nI (ns 4)), .int (nI (wbs 4))]), (b4, aI g 32 (fs 4)), (a5, ob 2 [.ref b5, .int (nI (ns 5)), .int (nI (wbs 5))]), (b5, aI g 32 (fs 5)), (h, ob 2 [.ref q, .int (nI n), .int (nI ww)]), (q, aI g 32 f)] := S
        refine lv_aload_n hx hb dX0_popInto_40 rfl (lv_at hl 1 rfl) ?_
        refine lv_aload_n hx hb dX0_popInto_41 rfl (lv_at hl 0 rfl) ?_
        refine top_get C S inX0_popIntop_X0 rfl 0 rfl 0 (by decide) (by decide +kernel) rfl rfl dX0_popInto_42 ?_
        refine lv_aload_n hx hb dX0_popInto_45 rfl (lv_at hl 0 rfl) ?_
        refine top_get C S inX0_popIntop_X0 rfl 0 rfl 1 (by decide) (by decide +kernel) rfl rfl dX0_popInto_46 ?_
        refine top_old C S 1 rfl (j := (2 - 1)) rfl (by omega) (by decide) (by exact hro.2.1) dX0_popInto_49 ?_
        refine after_V (wc := [(h, ob 2 [.ref q, .int (nI n), .int (nI ww)]), (q, aI g 32 f), (a1, ob 2 [.ref b1, .int (nI (ns 1)), .int (nI (wbs 1))]), (b1, aI g 32 (fs 1))]) (y := yX2_become) C S (va_runV (As := [.ref a1]) (rest := []) C.1 (kX2_become l g h q f n ww a1 b1 (fs 1) (ns 1) (wbs 1) H.size) (cwV 1 hts gX0_popInto_X2_become rfl rfl rfl (by decide +kernel) ⟨Nat.le_of_ble_eq_true rfl, Nat.le_of_ble_eq_true rfl⟩) (preV_at C S 14 rfl rfl [14, 15, 4, 5] rfl (by decide)) rfl rfl hl.1 rfl (lv_room (Nat.le_of_ble_eq_true rfl)) dX0_popInto_50 ⟨Nat.le_of_ble_eq_true rfl, Nat.le_of_ble_eq_true rfl⟩) [14, 15, 4, 5] [0, 1, 2, 3, 6, 7, 8, 9, 10, 11, 12, 13] rfl (wr := [(HH, ob 0 [.ref rg, .int (nI (2 - 1)), .int (nI (z - 1))]), (rg, aO g 6 ro), (a0, ob 2 [.ref b0, .int (nI (ns 0)), .int (nI (wbs 0))]), (b0, aI g 32 (fs 0)), (a2, ob 2 [.ref b2, .int (nI (ns 2)), .int (nI (wbs 2))]), (b2, aI g 32 (fs 2)), (a3, ob 2 [.ref b3, .int (nI (ns 3)), .int (nI (wbs 3))]), (b3, aI g 32 (fs 3)), (a4, ob 2 [.ref b4, .int (nI (ns 4)), .int (nI (wbs 4))]), (b4, aI g 32 (fs 4)), (a5, ob 2 [.ref b5, .int (nI (ns 5)), .int (nI (wbs 5))]), (b5, aI g 32 (fs 5))]) rfl (by decide) (by decide) (fun w0 H locs hq S => ?_)
        obtain ⟨f9, hf9, rfl⟩ := hq
        have S : ST g A ss H locs [(HH, ob 0 [.ref rg, .int (nI (2 - 1)), .int (nI (z - 1))]), (rg, aO g 6 ro), (a0, ob 2 [.ref b0, .int (nI (ns 0)), .int (nI (wbs 0))]), (b0, aI g 32 (fs 0)), (a1, ob 2 [.ref b1, .int (nI (ns 1)), .int (nI (wbs 1))]), (b1, aI g 32 (fs 1)), (a2, ob 2 [.ref b2, .int (nI (ns 2)), .int (nI (wbs 2))]), (b2, aI g 32 (fs 2)), (a3, ob 2 [.ref b3, .int (nI (ns 3)), .int (nI (wbs 3))]), (b3, aI g 32 (fs 3)), (a4, ob 2 [.ref b4, .int (nI (ns 4)), .int (nI (wbs 4))]), (b4, aI g 32 (fs 4)), (a5, ob 2 [.ref b5, .int (nI (ns 5)), .int (nI (wbs 5))]), (b5, aI g 32 (fs 5)), (h, ob 2 [.ref q, .int (nI (ns 1)), .int (nI (wbs 1))]), (q, aI g 32 f9)] := ST.sub S [0, 1, 2, 3, 14, 15, 4, 5, 6, 7, 8, 9, 10, 11, 12, 13] (by decide) rfl
        refine lv_iconst (v := 1) hx hb dX0_popInto_53 (by decide) ?_
        exact ret_Z (true) C S hr dX0_popInto_54 (rfl) ⟨(rfl), f9, (hf9), (rfl)⟩
      · -- 14 F
        exact absurd c_4 (by decide)
    · -- k = 3
      refine lv_aload_n hx hb dX0_popInto_9 rfl (lv_at hl 0 rfl) ?_
      refine lv_aload_n hx hb dX0_popInto_10 rfl (lv_at hl 0 rfl) ?_
      refine top_get C S inX0_popIntop_X0 rfl 0 rfl 1 (by decide) (by decide +kernel) rfl rfl dX0_popInto_11 ?_
      refine bn_zne (tgt := 21) (a := 3) hx hb rfl (by omega) dX0_popInto_14 (by decide) (fun c_5 => ?_) (fun c_5 => ?_)
      · -- 14 T
        refine lv_aload_n hx hb dX0_popInto_21 rfl (lv_at hl 0 rfl) ?_
        refine top_get C S inX0_popIntop_X0 rfl 0 rfl 1 (by decide) (by decide +kernel) rfl rfl dX0_popInto_22 ?_
        refine lv_iconst (v := 1) hx hb dX0_popInto_25 (by decide) ?_
        refine lv_isub hx hb dX0_popInto_26 ?_
        refine top_eq (y := nI (3 - 1)) (pk_sub (a := 3) (b := 1) (by omega)) ?_
        refine top_put (ty := .int) C S inX0_popIntop_X0 tyX0 tyX0_ok nmX0 rfl 0 rfl 1 (by decide) (by decide +kernel) rfl rfl (tyX0_ok 1 (by decide)) rfl rfl (Nat.le_of_ble_eq_true rfl) dX0_popInto_27 (fun H locs S => ?_)
        have S : ST g A ss H locs [(HH, ob 0 [.ref rg, .int (nI (3 - 1)), .int (nI z)]), (rg, aO g 6 ro), (a0, ob 2 [.ref b0, .int (nI (ns 0)), .int (nI (wbs 0))]), (b0, aI g 32 (fs 0)), (a1, ob 2 [.ref b1, .int (nI (ns 1)), .int (nI (wbs 1))]), (b1, aI g 32 (fs 1)), (a2, ob 2 [.ref b2, .int (nI (ns 2)), .int (nI (wbs 2))]), (b2, aI g 32 (fs 2)), (a3, ob 2 [.ref b3, .int (nI (ns 3)), .int (nI (wbs 3))]), (b3, aI g 32 (fs 3)), (a4, ob 2 [.ref b4, .int (nI (ns 4)), .int (nI (wbs 4))]), (b4, aI g 32 (fs 4)), (a5, ob 2 [.ref b5, .int (nI (ns 5)), .int (nI (wbs 5))]), (b5, aI g 32 (fs 5)), (h, ob 2 [.ref q, .int (nI n), .int (nI ww)]), (q, aI g 32 f)] := S
        refine lv_aload_n hx hb dX0_popInto_30 rfl (lv_at hl 0 rfl) ?_
        refine lv_dup hx hb dX0_popInto_31 rfl ?_
        refine top_get C S inX0_popIntop_X0 rfl 0 rfl 2 (by decide) (by decide +kernel) rfl rfl dX0_popInto_32 ?_
        refine lv_iconst (v := 1) hx hb dX0_popInto_35 (by decide) ?_
        refine lv_isub hx hb dX0_popInto_36 ?_
        refine top_eq (y := nI (z - 1)) (pk_sub (a := z) (b := 1) (by omega)) ?_
        refine top_put (ty := .int) C S inX0_popIntop_X0 tyX0 tyX0_ok nmX0 rfl 0 rfl 2 (by decide) (by decide +kernel) rfl rfl (tyX0_ok 2 (by decide)) rfl rfl (Nat.le_of_ble_eq_true rfl) dX0_popInto_37 (fun H locs S => ?_)
        have S : ST g A ss H locs [(HH, ob 0 [.ref rg, .int (nI (3 - 1)), .int (nI (z - 1))]), (rg, aO g 6 ro), (a0, ob 2 [.ref b0, .int (nI (ns 0)), .int (nI (wbs 0))]), (b0, aI g 32 (fs 0)), (a1, ob 2 [.ref b1, .int (nI (ns 1)), .int (nI (wbs 1))]), (b1, aI g 32 (fs 1)), (a2, ob 2 [.ref b2, .int (nI (ns 2)), .int (nI (wbs 2))]), (b2, aI g 32 (fs 2)), (a3, ob 2 [.ref b3, .int (nI (ns 3)), .int (nI (wbs 3))]), (b3, aI g 32 (fs 3)), (a4, ob 2 [.ref b4, .int (nI (ns 4)), .int (nI (wbs 4))]), (b4, aI g 32 (fs 4)), (a5, ob 2 [.ref b5, .int (nI (ns 5)), .int (nI (wbs 5))]), (b5, aI g 32 (fs 5)), (h, ob 2 [.ref q, .int (nI n), .int (nI ww)]), (q, aI g 32 f)] := S
        refine lv_aload_n hx hb dX0_popInto_40 rfl (lv_at hl 1 rfl) ?_
        refine lv_aload_n hx hb dX0_popInto_41 rfl (lv_at hl 0 rfl) ?_
        refine top_get C S inX0_popIntop_X0 rfl 0 rfl 0 (by decide) (by decide +kernel) rfl rfl dX0_popInto_42 ?_
        refine lv_aload_n hx hb dX0_popInto_45 rfl (lv_at hl 0 rfl) ?_
        refine top_get C S inX0_popIntop_X0 rfl 0 rfl 1 (by decide) (by decide +kernel) rfl rfl dX0_popInto_46 ?_
        refine top_old C S 1 rfl (j := (3 - 1)) rfl (by omega) (by decide) (by exact hro.2.2.1) dX0_popInto_49 ?_
        refine after_V (wc := [(h, ob 2 [.ref q, .int (nI n), .int (nI ww)]), (q, aI g 32 f), (a2, ob 2 [.ref b2, .int (nI (ns 2)), .int (nI (wbs 2))]), (b2, aI g 32 (fs 2))]) (y := yX2_become) C S (va_runV (As := [.ref a2]) (rest := []) C.1 (kX2_become l g h q f n ww a2 b2 (fs 2) (ns 2) (wbs 2) H.size) (cwV 1 hts gX0_popInto_X2_become rfl rfl rfl (by decide +kernel) ⟨Nat.le_of_ble_eq_true rfl, Nat.le_of_ble_eq_true rfl⟩) (preV_at C S 14 rfl rfl [14, 15, 6, 7] rfl (by decide)) rfl rfl hl.1 rfl (lv_room (Nat.le_of_ble_eq_true rfl)) dX0_popInto_50 ⟨Nat.le_of_ble_eq_true rfl, Nat.le_of_ble_eq_true rfl⟩) [14, 15, 6, 7] [0, 1, 2, 3, 4, 5, 8, 9, 10, 11, 12, 13] rfl (wr := [(HH, ob 0 [.ref rg, .int (nI (3 - 1)), .int (nI (z - 1))]), (rg, aO g 6 ro), (a0, ob 2 [.ref b0, .int (nI (ns 0)), .int (nI (wbs 0))]), (b0, aI g 32 (fs 0)), (a1, ob 2 [.ref b1, .int (nI (ns 1)), .int (nI (wbs 1))]), (b1, aI g 32 (fs 1)), (a3, ob 2 [.ref b3, .int (nI (ns 3)), .int (nI (wbs 3))]), (b3, aI g 32 (fs 3)), (a4, ob 2 [.ref b4, .int (nI (ns 4)), .int (nI (wbs 4))]), (b4, aI g 32 (fs 4)), (a5, ob 2 [.ref b5, .int (nI (ns 5)), .int (nI (wbs 5))]), (b5, aI g 32 (fs 5))]) rfl (by decide) (by decide) (fun w0 H locs hq S => ?_)
        obtain ⟨f9, hf9, rfl⟩ := hq
        have S : ST g A ss H locs [(HH, ob 0 [.ref rg, .int (nI (3 - 1)), .int (nI (z - 1))]), (rg, aO g 6 ro), (a0, ob 2 [.ref b0, .int (nI (ns 0)), .int (nI (wbs 0))]), (b0, aI g 32 (fs 0)), (a1, ob 2 [.ref b1, .int (nI (ns 1)), .int (nI (wbs 1))]), (b1, aI g 32 (fs 1)), (a2, ob 2 [.ref b2, .int (nI (ns 2)), .int (nI (wbs 2))]), (b2, aI g 32 (fs 2)), (a3, ob 2 [.ref b3, .int (nI (ns 3)), .int (nI (wbs 3))]), (b3, aI g 32 (fs 3)), (a4, ob 2 [.ref b4, .int (nI (ns 4)), .int (nI (wbs 4))]), (b4, aI g 32 (fs 4)), (a5, ob 2 [.ref b5, .int (nI (ns 5)), .int (nI (wbs 5))]), (b5, aI g 32 (fs 5)), (h, ob 2 [.ref q, .int (nI (ns 2)), .int (nI (wbs 2))]), (q, aI g 32 f9)] := ST.sub S [0, 1, 2, 3, 4, 5, 14, 15, 6, 7, 8, 9, 10, 11, 12, 13] (by decide) rfl
        refine lv_iconst (v := 1) hx hb dX0_popInto_53 (by decide) ?_
        exact ret_Z (true) C S hr dX0_popInto_54 (rfl) ⟨(rfl), f9, (hf9), (rfl)⟩
      · -- 14 F
        exact absurd c_5 (by decide)
    · -- k = 4
      refine lv_aload_n hx hb dX0_popInto_9 rfl (lv_at hl 0 rfl) ?_
      refine lv_aload_n hx hb dX0_popInto_10 rfl (lv_at hl 0 rfl) ?_
      refine top_get C S inX0_popIntop_X0 rfl 0 rfl 1 (by decide) (by decide +kernel) rfl rfl dX0_popInto_11 ?_
      refine bn_zne (tgt := 21) (a := 4) hx hb rfl (by omega) dX0_popInto_14 (by decide) (fun c_6 => ?_) (fun c_6 => ?_)
      · -- 14 T
        refine lv_aload_n hx hb dX0_popInto_21 rfl (lv_at hl 0 rfl) ?_
        refine top_get C S inX0_popIntop_X0 rfl 0 rfl 1 (by decide) (by decide +kernel) rfl rfl dX0_popInto_22 ?_
        refine lv_iconst (v := 1) hx hb dX0_popInto_25 (by decide) ?_
        refine lv_isub hx hb dX0_popInto_26 ?_
        refine top_eq (y := nI (4 - 1)) (pk_sub (a := 4) (b := 1) (by omega)) ?_
        refine top_put (ty := .int) C S inX0_popIntop_X0 tyX0 tyX0_ok nmX0 rfl 0 rfl 1 (by decide) (by decide +kernel) rfl rfl (tyX0_ok 1 (by decide)) rfl rfl (Nat.le_of_ble_eq_true rfl) dX0_popInto_27 (fun H locs S => ?_)
        have S : ST g A ss H locs [(HH, ob 0 [.ref rg, .int (nI (4 - 1)), .int (nI z)]), (rg, aO g 6 ro), (a0, ob 2 [.ref b0, .int (nI (ns 0)), .int (nI (wbs 0))]), (b0, aI g 32 (fs 0)), (a1, ob 2 [.ref b1, .int (nI (ns 1)), .int (nI (wbs 1))]), (b1, aI g 32 (fs 1)), (a2, ob 2 [.ref b2, .int (nI (ns 2)), .int (nI (wbs 2))]), (b2, aI g 32 (fs 2)), (a3, ob 2 [.ref b3, .int (nI (ns 3)), .int (nI (wbs 3))]), (b3, aI g 32 (fs 3)), (a4, ob 2 [.ref b4, .int (nI (ns 4)), .int (nI (wbs 4))]), (b4, aI g 32 (fs 4)), (a5, ob 2 [.ref b5, .int (nI (ns 5)), .int (nI (wbs 5))]), (b5, aI g 32 (fs 5)), (h, ob 2 [.ref q, .int (nI n), .int (nI ww)]), (q, aI g 32 f)] := S
        refine lv_aload_n hx hb dX0_popInto_30 rfl (lv_at hl 0 rfl) ?_
        refine lv_dup hx hb dX0_popInto_31 rfl ?_
        refine top_get C S inX0_popIntop_X0 rfl 0 rfl 2 (by decide) (by decide +kernel) rfl rfl dX0_popInto_32 ?_
        refine lv_iconst (v := 1) hx hb dX0_popInto_35 (by decide) ?_
        refine lv_isub hx hb dX0_popInto_36 ?_
        refine top_eq (y := nI (z - 1)) (pk_sub (a := z) (b := 1) (by omega)) ?_
        refine top_put (ty := .int) C S inX0_popIntop_X0 tyX0 tyX0_ok nmX0 rfl 0 rfl 2 (by decide) (by decide +kernel) rfl rfl (tyX0_ok 2 (by decide)) rfl rfl (Nat.le_of_ble_eq_true rfl) dX0_popInto_37 (fun H locs S => ?_)
        have S : ST g A ss H locs [(HH, ob 0 [.ref rg, .int (nI (4 - 1)), .int (nI (z - 1))]), (rg, aO g 6 ro), (a0, ob 2 [.ref b0, .int (nI (ns 0)), .int (nI (wbs 0))]), (b0, aI g 32 (fs 0)), (a1, ob 2 [.ref b1, .int (nI (ns 1)), .int (nI (wbs 1))]), (b1, aI g 32 (fs 1)), (a2, ob 2 [.ref b2, .int (nI (ns 2)), .int (nI (wbs 2))]), (b2, aI g 32 (fs 2)), (a3, ob 2 [.ref b3, .int (nI (ns 3)), .int (nI (wbs 3))]), (b3, aI g 32 (fs 3)), (a4, ob 2 [.ref b4, .int (nI (ns 4)), .int (nI (wbs 4))]), (b4, aI g 32 (fs 4)), (a5, ob 2 [.ref b5, .int (nI (ns 5)), .int (nI (wbs 5))]), (b5, aI g 32 (fs 5)), (h, ob 2 [.ref q, .int (nI n), .int (nI ww)]), (q, aI g 32 f)] := S
        refine lv_aload_n hx hb dX0_popInto_40 rfl (lv_at hl 1 rfl) ?_
        refine lv_aload_n hx hb dX0_popInto_41 rfl (lv_at hl 0 rfl) ?_
        refine top_get C S inX0_popIntop_X0 rfl 0 rfl 0 (by decide) (by decide +kernel) rfl rfl dX0_popInto_42 ?_
        refine lv_aload_n hx hb dX0_popInto_45 rfl (lv_at hl 0 rfl) ?_
        refine top_get C S inX0_popIntop_X0 rfl 0 rfl 1 (by decide) (by decide +kernel) rfl rfl dX0_popInto_46 ?_
        refine top_old C S 1 rfl (j := (4 - 1)) rfl (by omega) (by decide) (by exact hro.2.2.2.1) dX0_popInto_49 ?_
        refine after_V (wc := [(h, ob 2 [.ref q, .int (nI n), .int (nI ww)]), (q, aI g 32 f), (a3, ob 2 [.ref b3, .int (nI (ns 3)), .int (nI (wbs 3))]), (b3, aI g 32 (fs 3))]) (y := yX2_become) C S (va_runV (As := [.ref a3]) (rest := []) C.1 (kX2_become l g h q f n ww a3 b3 (fs 3) (ns 3) (wbs 3) H.size) (cwV 1 hts gX0_popInto_X2_become rfl rfl rfl (by decide +kernel) ⟨Nat.le_of_ble_eq_true rfl, Nat.le_of_ble_eq_true rfl⟩) (preV_at C S 14 rfl rfl [14, 15, 8, 9] rfl (by decide)) rfl rfl hl.1 rfl (lv_room (Nat.le_of_ble_eq_true rfl)) dX0_popInto_50 ⟨Nat.le_of_ble_eq_true rfl, Nat.le_of_ble_eq_true rfl⟩) [14, 15, 8, 9] [0, 1, 2, 3, 4, 5, 6, 7, 10, 11, 12, 13] rfl (wr := [(HH, ob 0 [.ref rg, .int (nI (4 - 1)), .int (nI (z - 1))]), (rg, aO g 6 ro), (a0, ob 2 [.ref b0, .int (nI (ns 0)), .int (nI (wbs 0))]), (b0, aI g 32 (fs 0)), (a1, ob 2 [.ref b1, .int (nI (ns 1)), .int (nI (wbs 1))]), (b1, aI g 32 (fs 1)), (a2, ob 2 [.ref b2, .int (nI (ns 2)), .int (nI (wbs 2))]), (b2, aI g 32 (fs 2)), (a4, ob 2 [.ref b4, .int (nI (ns 4)), .int (nI (wbs 4))]), (b4, aI g 32 (fs 4)), (a5, ob 2 [.ref b5, .int (nI (ns 5)), .int (nI (wbs 5))]), (b5, aI g 32 (fs 5))]) rfl (by decide) (by decide) (fun w0 H locs hq S => ?_)
        obtain ⟨f9, hf9, rfl⟩ := hq
        have S : ST g A ss H locs [(HH, ob 0 [.ref rg, .int (nI (4 - 1)), .int (nI (z - 1))]), (rg, aO g 6 ro), (a0, ob 2 [.ref b0, .int (nI (ns 0)), .int (nI (wbs 0))]), (b0, aI g 32 (fs 0)), (a1, ob 2 [.ref b1, .int (nI (ns 1)), .int (nI (wbs 1))]), (b1, aI g 32 (fs 1)), (a2, ob 2 [.ref b2, .int (nI (ns 2)), .int (nI (wbs 2))]), (b2, aI g 32 (fs 2)), (a3, ob 2 [.ref b3, .int (nI (ns 3)), .int (nI (wbs 3))]), (b3, aI g 32 (fs 3)), (a4, ob 2 [.ref b4, .int (nI (ns 4)), .int (nI (wbs 4))]), (b4, aI g 32 (fs 4)), (a5, ob 2 [.ref b5, .int (nI (ns 5)), .int (nI (wbs 5))]), (b5, aI g 32 (fs 5)), (h, ob 2 [.ref q, .int (nI (ns 3)), .int (nI (wbs 3))]), (q, aI g 32 f9)] := ST.sub S [0, 1, 2, 3, 4, 5, 6, 7, 14, 15, 8, 9, 10, 11, 12, 13] (by decide) rfl
        refine lv_iconst (v := 1) hx hb dX0_popInto_53 (by decide) ?_
        exact ret_Z (true) C S hr dX0_popInto_54 (rfl) ⟨(rfl), f9, (hf9), (rfl)⟩
      · -- 14 F
        exact absurd c_6 (by decide)
    · -- k = 5
      refine lv_aload_n hx hb dX0_popInto_9 rfl (lv_at hl 0 rfl) ?_
      refine lv_aload_n hx hb dX0_popInto_10 rfl (lv_at hl 0 rfl) ?_
      refine top_get C S inX0_popIntop_X0 rfl 0 rfl 1 (by decide) (by decide +kernel) rfl rfl dX0_popInto_11 ?_
      refine bn_zne (tgt := 21) (a := 5) hx hb rfl (by omega) dX0_popInto_14 (by decide) (fun c_7 => ?_) (fun c_7 => ?_)
      · -- 14 T
        refine lv_aload_n hx hb dX0_popInto_21 rfl (lv_at hl 0 rfl) ?_
        refine top_get C S inX0_popIntop_X0 rfl 0 rfl 1 (by decide) (by decide +kernel) rfl rfl dX0_popInto_22 ?_
        refine lv_iconst (v := 1) hx hb dX0_popInto_25 (by decide) ?_
        refine lv_isub hx hb dX0_popInto_26 ?_
        refine top_eq (y := nI (5 - 1)) (pk_sub (a := 5) (b := 1) (by omega)) ?_
        refine top_put (ty := .int) C S inX0_popIntop_X0 tyX0 tyX0_ok nmX0 rfl 0 rfl 1 (by decide) (by decide +kernel) rfl rfl (tyX0_ok 1 (by decide)) rfl rfl (Nat.le_of_ble_eq_true rfl) dX0_popInto_27 (fun H locs S => ?_)
        have S : ST g A ss H locs [(HH, ob 0 [.ref rg, .int (nI (5 - 1)), .int (nI z)]), (rg, aO g 6 ro), (a0, ob 2 [.ref b0, .int (nI (ns 0)), .int (nI (wbs 0))]), (b0, aI g 32 (fs 0)), (a1, ob 2 [.ref b1, .int (nI (ns 1)), .int (nI (wbs 1))]), (b1, aI g 32 (fs 1)), (a2, ob 2 [.ref b2, .int (nI (ns 2)), .int (nI (wbs 2))]), (b2, aI g 32 (fs 2)), (a3, ob 2 [.ref b3, .int (nI (ns 3)), .int (nI (wbs 3))]), (b3, aI g 32 (fs 3)), (a4, ob 2 [.ref b4, .int (nI (ns 4)), .int (nI (wbs 4))]), (b4, aI g 32 (fs 4)), (a5, ob 2 [.ref b5, .int (nI (ns 5)), .int (nI (wbs 5))]), (b5, aI g 32 (fs 5)), (h, ob 2 [.ref q, .int (nI n), .int (nI ww)]), (q, aI g 32 f)] := S
        refine lv_aload_n hx hb dX0_popInto_30 rfl (lv_at hl 0 rfl) ?_
        refine lv_dup hx hb dX0_popInto_31 rfl ?_
        refine top_get C S inX0_popIntop_X0 rfl 0 rfl 2 (by decide) (by decide +kernel) rfl rfl dX0_popInto_32 ?_
        refine lv_iconst (v := 1) hx hb dX0_popInto_35 (by decide) ?_
        refine lv_isub hx hb dX0_popInto_36 ?_
        refine top_eq (y := nI (z - 1)) (pk_sub (a := z) (b := 1) (by omega)) ?_
        refine top_put (ty := .int) C S inX0_popIntop_X0 tyX0 tyX0_ok nmX0 rfl 0 rfl 2 (by decide) (by decide +kernel) rfl rfl (tyX0_ok 2 (by decide)) rfl rfl (Nat.le_of_ble_eq_true rfl) dX0_popInto_37 (fun H locs S => ?_)
        have S : ST g A ss H locs [(HH, ob 0 [.ref rg, .int (nI (5 - 1)), .int (nI (z - 1))]), (rg, aO g 6 ro), (a0, ob 2 [.ref b0, .int (nI (ns 0)), .int (nI (wbs 0))]), (b0, aI g 32 (fs 0)), (a1, ob 2 [.ref b1, .int (nI (ns 1)), .int (nI (wbs 1))]), (b1, aI g 32 (fs 1)), (a2, ob 2 [.ref b2, .int (nI (ns 2)), .int (nI (wbs 2))]), (b2, aI g 32 (fs 2)), (a3, ob 2 [.ref b3, .int (nI (ns 3)), .int (nI (wbs 3))]), (b3, aI g 32 (fs 3)), (a4, ob 2 [.ref b4, .int (nI (ns 4)), .int (nI (wbs 4))]), (b4, aI g 32 (fs 4)), (a5, ob 2 [.ref b5, .int (nI (ns 5)), .int (nI (wbs 5))]), (b5, aI g 32 (fs 5)), (h, ob 2 [.ref q, .int (nI n), .int (nI ww)]), (q, aI g 32 f)] := S
        refine lv_aload_n hx hb dX0_popInto_40 rfl (lv_at hl 1 rfl) ?_
        refine lv_aload_n hx hb dX0_popInto_41 rfl (lv_at hl 0 rfl) ?_
        refine top_get C S inX0_popIntop_X0 rfl 0 rfl 0 (by decide) (by decide +kernel) rfl rfl dX0_popInto_42 ?_
        refine lv_aload_n hx hb dX0_popInto_45 rfl (lv_at hl 0 rfl) ?_
        refine top_get C S inX0_popIntop_X0 rfl 0 rfl 1 (by decide) (by decide +kernel) rfl rfl dX0_popInto_46 ?_
        refine top_old C S 1 rfl (j := (5 - 1)) rfl (by omega) (by decide) (by exact hro.2.2.2.2.1) dX0_popInto_49 ?_
        refine after_V (wc := [(h, ob 2 [.ref q, .int (nI n), .int (nI ww)]), (q, aI g 32 f), (a4, ob 2 [.ref b4, .int (nI (ns 4)), .int (nI (wbs 4))]), (b4, aI g 32 (fs 4))]) (y := yX2_become) C S (va_runV (As := [.ref a4]) (rest := []) C.1 (kX2_become l g h q f n ww a4 b4 (fs 4) (ns 4) (wbs 4) H.size) (cwV 1 hts gX0_popInto_X2_become rfl rfl rfl (by decide +kernel) ⟨Nat.le_of_ble_eq_true rfl, Nat.le_of_ble_eq_true rfl⟩) (preV_at C S 14 rfl rfl [14, 15, 10, 11] rfl (by decide)) rfl rfl hl.1 rfl (lv_room (Nat.le_of_ble_eq_true rfl)) dX0_popInto_50 ⟨Nat.le_of_ble_eq_true rfl, Nat.le_of_ble_eq_true rfl⟩) [14, 15, 10, 11] [0, 1, 2, 3, 4, 5, 6, 7, 8, 9, 12, 13] rfl (wr := [(HH, ob 0 [.ref rg, .int (nI (5 - 1)), .int (nI (z - 1))]), (rg, aO g 6 ro), (a0, ob 2 [.ref b0, .int (nI (ns 0)), .int (nI (wbs 0))]), (b0, aI g 32 (fs 0)), (a1, ob 2 [.ref b1, .int (nI (ns 1)), .int (nI (wbs 1))]), (b1, aI g 32 (fs 1)), (a2, ob 2 [.ref b2, .int (nI (ns 2)), .int (nI (wbs 2))]), (b2, aI g 32 (fs 2)), (a3, ob 2 [.ref b3, .int (nI (ns 3)), .int (nI (wbs 3))]), (b3, aI g 32 (fs 3)), (a5, ob 2 [.ref b5, .int (nI (ns 5)), .int (nI (wbs 5))]), (b5, aI g 32 (fs 5))]) rfl (by decide) (by decide) (fun w0 H locs hq S => ?_)
        obtain ⟨f9, hf9, rfl⟩ := hq
        have S : ST g A ss H locs [(HH, ob 0 [.ref rg, .int (nI (5 - 1)), .int (nI (z - 1))]), (rg, aO g 6 ro), (a0, ob 2 [.ref b0, .int (nI (ns 0)), .int (nI (wbs 0))]), (b0, aI g 32 (fs 0)), (a1, ob 2 [.ref b1, .int (nI (ns 1)), .int (nI (wbs 1))]), (b1, aI g 32 (fs 1)), (a2, ob 2 [.ref b2, .int (nI (ns 2)), .int (nI (wbs 2))]), (b2, aI g 32 (fs 2)), (a3, ob 2 [.ref b3, .int (nI (ns 3)), .int (nI (wbs 3))]), (b3, aI g 32 (fs 3)), (a4, ob 2 [.ref b4, .int (nI (ns 4)), .int (nI (wbs 4))]), (b4, aI g 32 (fs 4)), (a5, ob 2 [.ref b5, .int (nI (ns 5)), .int (nI (wbs 5))]), (b5, aI g 32 (fs 5)), (h, ob 2 [.ref q, .int (nI (ns 4)), .int (nI (wbs 4))]), (q, aI g 32 f9)] := ST.sub S [0, 1, 2, 3, 4, 5, 6, 7, 8, 9, 14, 15, 10, 11, 12, 13] (by decide) rfl
        refine lv_iconst (v := 1) hx hb dX0_popInto_53 (by decide) ?_
        exact ret_Z (true) C S hr dX0_popInto_54 (rfl) ⟨(rfl), f9, (hf9), (rfl)⟩
      · -- 14 F
        exact absurd c_7 (by decide)
  · -- 4 F
    exact absurd c_1 (by omega)

theorem inX0_empty_X0 : ∀ w ∈ wsX00, w ∈ wsX0_empty := by decide +kernel
set_option maxRecDepth 100000 in
set_option maxHeartbeats 4000000 in
theorem kX0_empty (l : Launch) (g : GG) (HH : Nat) (rg : Nat) (ro : Nat → Option Nat) (k : Nat) (z : Nat)  : KV l g yX0_empty wsX0_empty 0 0 [.ref HH] [(HH, ob 0 [.ref rg, .int (nI k), .int (nI z)]), (rg, aO g 6 ro)] (fun (w' : va_W) => w' = [(HH, ob 0 [.ref rg, .int (nI k), .int (nI 0)]), (rg, aO g 6 ro)]) := by
  refine kV_of (cc := cX0_empty) (maxL := 1) (by decide) rfl (Nat.le_of_ble_eq_true rfl) ?_
  intro pp ee ss mm bel mth cd A ls C S hr hl
  obtain ⟨hx, hb, hml, hown, hts⟩ := id C.1
  have hl : lv_has ls 1 [(0, .ref HH)] := hl
  obtain ⟨H, hH⟩ : ∃ H, H = ss.heap := ⟨_, rfl⟩
  obtain ⟨locs, hL0⟩ : ∃ L : List Loc, L = [] := ⟨_, rfl⟩
  rw [← hH, ← hL0] at S ⊢
  refine lv_aload_n hx hb dX0_empty_0 rfl (lv_at hl 0 rfl) ?_
  refine lv_iconst (v := 0) hx hb dX0_empty_1 (by decide) ?_
  refine top_put (ty := .int) C S inX0_empty_X0 tyX0 tyX0_ok nmX0 rfl 0 rfl 2 (by decide) (by decide +kernel) rfl rfl (tyX0_ok 2 (by decide)) rfl rfl (Nat.le_of_ble_eq_true rfl) dX0_empty_2 (fun H locs S => ?_)
  have S : ST g A ss H locs [(HH, ob 0 [.ref rg, .int (nI k), .int 0]), (rg, aO g 6 ro)] := S
  exact ret_V C S hr dX0_empty_5 (by first | rfl | simp only [])

theorem inX1_put_X1 : ∀ w ∈ wsX10, w ∈ wsX1_put := by decide +kernel
set_option maxRecDepth 100000 in
set_option maxHeartbeats 4000000 in
theorem kX1_put (l : Launch) (g : GG) (IM : Nat) (ig : Nat) (io : Nat → Option Nat) (c0 : Nat) (d0 : Nat) (c1 : Nat) (d1 : Nat) (gs : Nat → Nat → Int32) (ms : Nat → Nat) (vbs : Nat → Nat) (kb : Nat) (h : Nat) (q : Nat) (f : Nat → Int32) (n : Nat) (ww : Nat) (j : Nat) (hio : io 0 = some c0 ∧ io 1 = some c1) (hj : j < 2) (hkb : kb < 4) : KV l g yX1_put wsX1_put 2 85 [.ref IM, .int (nI j), .ref h] [(IM, ob 1 [.ref ig, .int (nI kb)]), (ig, aO g 2 io), (c0, ob 2 [.ref d0, .int (nI (ms 0)), .int (nI (vbs 0))]), (d0, aI g 32 (gs 0)), (c1, ob 2 [.ref d1, .int (nI (ms 1)), .int (nI (vbs 1))]), (d1, aI g 32 (gs 1)), (h, ob 2 [.ref q, .int (nI n), .int (nI ww)]), (q, aI g 32 f)] (fun (w' : va_W) => ∃ (f' : Nat → Int32), (∀ j9, j9 < 32 → f' j9 = f j9) ∧ w' = [(IM, ob 1 [.ref ig, .int (nI (kb ||| 2 ^ j))]), (ig, aO g 2 io), (c0, ob 2 [.ref d0, .int (nI (updA ms j n 0)), .int (nI (updA vbs j ww 0))]), (d0, aI g 32 (updA gs j f' 0)), (c1, ob 2 [.ref d1, .int (nI (updA ms j n 1)), .int (nI (updA vbs j ww 1))]), (d1, aI g 32 (updA gs j f' 1)), (h, ob 2 [.ref q, .int (nI n), .int (nI ww)]), (q, aI g 32 f)]) := by
  refine kV_of (cc := cX1_put) (maxL := 3) (by decide) rfl (Nat.le_of_ble_eq_true rfl) ?_
  intro pp ee ss mm bel mth cd A ls C S hr hl
  obtain ⟨hx, hb, hml, hown, hts⟩ := id C.1
  have hl : lv_has ls 3 [(0, .ref IM), (1, .int (nI j)), (2, .ref h)] := hl
  obtain ⟨H, hH⟩ : ∃ H, H = ss.heap := ⟨_, rfl⟩
  obtain ⟨locs, hL0⟩ : ∃ L : List Loc, L = [] := ⟨_, rfl⟩
  rw [← hH, ← hL0] at S ⊢
  rcases (show j = 0 ∨ j = 1 by omega) with rfl | rfl
  · -- j = 0
    refine lv_aload_n hx hb dX1_put_0 rfl (lv_at hl 0 rfl) ?_
    refine top_get C S inX1_put_X1 rfl 0 rfl 0 (by decide) (by decide +kernel) rfl rfl dX1_put_1 ?_
    refine lv_iload_n hx hb dX1_put_4 rfl (lv_at hl 1 rfl) ?_
    refine top_old C S 1 rfl (j := 0) rfl (by omega) (by decide) (by exact hio.1) dX1_put_5 ?_
    refine lv_aload_n hx hb dX1_put_6 rfl (lv_at hl 2 rfl) ?_
    refine after_V (wc := [(c0, ob 2 [.ref d0, .int (nI (ms 0)), .int (nI (vbs 0))]), (d0, aI g 32 (gs 0)), (h, ob 2 [.ref q, .int (nI n), .int (nI ww)]), (q, aI g 32 f)]) (y := yX2_become) C S (va_runV (As := [.ref h]) (rest := []) C.1 (kX2_become l g c0 d0 (gs 0) (ms 0) (vbs 0) h q f n ww H.size) (cwV 1 hts gX1_put_X2_become rfl rfl rfl (by decide +kernel) ⟨Nat.le_of_ble_eq_true rfl, Nat.le_of_ble_eq_true rfl⟩) (preV_at C S 2 rfl rfl [2, 3, 6, 7] rfl (by decide)) rfl rfl hl.1 rfl (lv_room (Nat.le_of_ble_eq_true rfl)) dX1_put_7 ⟨Nat.le_of_ble_eq_true rfl, Nat.le_of_ble_eq_true rfl⟩) [2, 3, 6, 7] [0, 1, 4, 5] rfl (wr := [(IM, ob 1 [.ref ig, .int (nI kb)]), (ig, aO g 2 io), (c1, ob 2 [.ref d1, .int (nI (ms 1)), .int (nI (vbs 1))]), (d1, aI g 32 (gs 1))]) rfl (by decide) (by decide) (fun w0 H locs hq S => ?_)
    obtain ⟨f9, hf9, rfl⟩ := hq
    have S : ST g A ss H locs [(IM, ob 1 [.ref ig, .int (nI kb)]), (ig, aO g 2 io), (c0, ob 2 [.ref d0, .int (nI n), .int (nI ww)]), (d0, aI g 32 f9), (c1, ob 2 [.ref d1, .int (nI (ms 1)), .int (nI (vbs 1))]), (d1, aI g 32 (gs 1)), (h, ob 2 [.ref q, .int (nI n), .int (nI ww)]), (q, aI g 32 f)] := ST.sub S [0, 1, 4, 5, 2, 3, 6, 7] (by decide) rfl
    refine lv_aload_n hx hb dX1_put_10 rfl (lv_at hl 0 rfl) ?_
    refine lv_dup hx hb dX1_put_11 rfl ?_
    refine top_get C S inX1_put_X1 rfl 0 rfl 1 (by decide) (by decide +kernel) rfl rfl dX1_put_12 ?_
    refine lv_iconst (v := 1) hx hb dX1_put_15 (by decide) ?_
    refine lv_iload_n hx hb dX1_put_16 rfl (lv_at hl 1 rfl) ?_
    refine lv_ishl hx hb dX1_put_17 ?_
    refine top_eq (y := nI (2 ^ 0)) (shl_1 (j := 0) (by omega)) ?_
    refine lv_ior hx hb dX1_put_18 ?_
    refine top_eq (y := nI (kb ||| 2 ^ 0)) (fa_or _ _) ?_
    refine top_put (ty := .int) C S inX1_put_X1 tyX1 tyX1_ok nmX1 rfl 0 rfl 1 (by decide) (by decide +kernel) rfl rfl (tyX1_ok 1 (by decide)) rfl rfl (Nat.le_of_ble_eq_true rfl) dX1_put_19 (fun H locs S => ?_)
    have S : ST g A ss H locs [(IM, ob 1 [.ref ig, .int (nI (kb ||| 2 ^ 0))]), (ig, aO g 2 io), (c0, ob 2 [.ref d0, .int (nI n), .int (nI ww)]), (d0, aI g 32 f9), (c1, ob 2 [.ref d1, .int (nI (ms 1)), .int (nI (vbs 1))]), (d1, aI g 32 (gs 1)), (h, ob 2 [.ref q, .int (nI n), .int (nI ww)]), (q, aI g 32 f)] := S
    exact ret_V C S hr dX1_put_22 ⟨f9, (hf9), (by first | rfl | simp only [])⟩
  · -- j = 1
    refine lv_aload_n hx hb dX1_put_0 rfl (lv_at hl 0 rfl) ?_
    refine top_get C S inX1_put_X1 rfl 0 rfl 0 (by decide) (by decide +kernel) rfl rfl dX1_put_1 ?_
    refine lv_iload_n hx hb dX1_put_4 rfl (lv_at hl 1 rfl) ?_
    refine top_old C S 1 rfl (j := 1) rfl (by omega) (by decide) (by exact hio.2) dX1_put_5 ?_
    refine lv_aload_n hx hb dX1_put_6 rfl (lv_at hl 2 rfl) ?_
    refine after_V (wc := [(c1, ob 2 [.ref d1, .int (nI (ms 1)), .int (nI (vbs 1))]), (d1, aI g 32 (gs 1)), (h, ob 2 [.ref q, .int (nI n), .int (nI ww)]), (q, aI g 32 f)]) (y := yX2_become) C S (va_runV (As := [.ref h]) (rest := []) C.1 (kX2_become l g c1 d1 (gs 1) (ms 1) (vbs 1) h q f n ww H.size) (cwV 1 hts gX1_put_X2_become rfl rfl rfl (by decide +kernel) ⟨Nat.le_of_ble_eq_true rfl, Nat.le_of_ble_eq_true rfl⟩) (preV_at C S 4 rfl rfl [4, 5, 6, 7] rfl (by decide)) rfl rfl hl.1 rfl (lv_room (Nat.le_of_ble_eq_true rfl)) dX1_put_7 ⟨Nat.le_of_ble_eq_true rfl, Nat.le_of_ble_eq_true rfl⟩) [4, 5, 6, 7] [0, 1, 2, 3] rfl (wr := [(IM, ob 1 [.ref ig, .int (nI kb)]), (ig, aO g 2 io), (c0, ob 2 [.ref d0, .int (nI (ms 0)), .int (nI (vbs 0))]), (d0, aI g 32 (gs 0))]) rfl (by decide) (by decide) (fun w0 H locs hq S => ?_)
    obtain ⟨f9, hf9, rfl⟩ := hq
    have S : ST g A ss H locs [(IM, ob 1 [.ref ig, .int (nI kb)]), (ig, aO g 2 io), (c0, ob 2 [.ref d0, .int (nI (ms 0)), .int (nI (vbs 0))]), (d0, aI g 32 (gs 0)), (c1, ob 2 [.ref d1, .int (nI n), .int (nI ww)]), (d1, aI g 32 f9), (h, ob 2 [.ref q, .int (nI n), .int (nI ww)]), (q, aI g 32 f)] := S
    refine lv_aload_n hx hb dX1_put_10 rfl (lv_at hl 0 rfl) ?_
    refine lv_dup hx hb dX1_put_11 rfl ?_
    refine top_get C S inX1_put_X1 rfl 0 rfl 1 (by decide) (by decide +kernel) rfl rfl dX1_put_12 ?_
    refine lv_iconst (v := 1) hx hb dX1_put_15 (by decide) ?_
    refine lv_iload_n hx hb dX1_put_16 rfl (lv_at hl 1 rfl) ?_
    refine lv_ishl hx hb dX1_put_17 ?_
    refine top_eq (y := nI (2 ^ 1)) (shl_1 (j := 1) (by omega)) ?_
    refine lv_ior hx hb dX1_put_18 ?_
    refine top_eq (y := nI (kb ||| 2 ^ 1)) (fa_or _ _) ?_
    refine top_put (ty := .int) C S inX1_put_X1 tyX1 tyX1_ok nmX1 rfl 0 rfl 1 (by decide) (by decide +kernel) rfl rfl (tyX1_ok 1 (by decide)) rfl rfl (Nat.le_of_ble_eq_true rfl) dX1_put_19 (fun H locs S => ?_)
    have S : ST g A ss H locs [(IM, ob 1 [.ref ig, .int (nI (kb ||| 2 ^ 1))]), (ig, aO g 2 io), (c0, ob 2 [.ref d0, .int (nI (ms 0)), .int (nI (vbs 0))]), (d0, aI g 32 (gs 0)), (c1, ob 2 [.ref d1, .int (nI n), .int (nI ww)]), (d1, aI g 32 f9), (h, ob 2 [.ref q, .int (nI n), .int (nI ww)]), (q, aI g 32 f)] := S
    exact ret_V C S hr dX1_put_22 ⟨f9, (hf9), (by first | rfl | simp only [])⟩

theorem inX1_getInton_X1 : ∀ w ∈ wsX10, w ∈ wsX1_getInto := by decide +kernel
set_option maxRecDepth 100000 in
set_option maxHeartbeats 4000000 in
theorem kX1_getInton (l : Launch) (g : GG) (IM : Nat) (ig : Nat) (io : Nat → Option Nat) (c0 : Nat) (d0 : Nat) (c1 : Nat) (d1 : Nat) (gs : Nat → Nat → Int32) (ms : Nat → Nat) (vbs : Nat → Nat) (kb : Nat) (h : Nat) (q : Nat) (f : Nat → Int32) (n : Nat) (ww : Nat) (j : Nat) (hj : j < 2) (hkb : kb < 4) (hno : kb.testBit j = false) : KI l g yX1_getInto wsX1_getInto 1 21 [.ref IM, .int (nI j), .ref h] [(IM, ob 1 [.ref ig, .int (nI kb)]), (ig, aO g 2 io), (c0, ob 2 [.ref d0, .int (nI (ms 0)), .int (nI (vbs 0))]), (d0, aI g 32 (gs 0)), (c1, ob 2 [.ref d1, .int (nI (ms 1)), .int (nI (vbs 1))]), (d1, aI g 32 (gs 1)), (h, ob 2 [.ref q, .int (nI n), .int (nI ww)]), (q, aI g 32 f)] (fun (r : Int32) (w' : va_W) => r = (bI false) ∧ w' = [(IM, ob 1 [.ref ig, .int (nI kb)]), (ig, aO g 2 io), (c0, ob 2 [.ref d0, .int (nI (ms 0)), .int (nI (vbs 0))]), (d0, aI g 32 (gs 0)), (c1, ob 2 [.ref d1, .int (nI (ms 1)), .int (nI (vbs 1))]), (d1, aI g 32 (gs 1)), (h, ob 2 [.ref q, .int (nI n), .int (nI ww)]), (q, aI g 32 f)]) := by
  refine kI_of (cc := cX1_getInto) (maxL := 3) (by decide) rfl (Nat.le_of_ble_eq_true rfl) ?_
  intro pp ee ss mm bel mth cd A ls C S hr hl
  obtain ⟨hx, hb, hml, hown, hts⟩ := id C.1
  have hl : lv_has ls 3 [(0, .ref IM), (1, .int (nI j)), (2, .ref h)] := hl
  obtain ⟨H, hH⟩ : ∃ H, H = ss.heap := ⟨_, rfl⟩
  obtain ⟨locs, hL0⟩ : ∃ L : List Loc, L = [] := ⟨_, rfl⟩
  rw [← hH, ← hL0] at S ⊢
  refine lv_aload_n hx hb dX1_getInto_0 rfl (lv_at hl 0 rfl) ?_
  refine top_get C S inX1_getInton_X1 rfl 0 rfl 1 (by decide) (by decide +kernel) rfl rfl dX1_getInto_1 ?_
  refine lv_iload_n hx hb dX1_getInto_4 rfl (lv_at hl 1 rfl) ?_
  refine after_I (wc := []) (y := yX6_holds) C S (va_runSN (As := [.int (nI kb), .int (nI j)]) (rest := []) C.1 (kX6_holds l g kb j (by first | assumption | omega) (by first | assumption | omega) H.size) ⟨va_cnB 2 hts gX1_getInto_X6_holds_n26 rfl rfl rfl (C.2.2.1.1.2 ("StackedLeaves$Images", 26, yX6_holds) (by decide +kernel)) (hts (.initialized RX6) (by decide +kernel)) (by decide +kernel) ⟨Nat.le_of_ble_eq_true rfl, Nat.le_of_ble_eq_true rfl⟩, hts (.static yX6_holds) (by decide +kernel), trivial⟩ (preS_at C S [] rfl (by decide)) rfl rfl hl.1 rfl (lv_room (Nat.le_of_ble_eq_true rfl)) dX1_getInto_5 ⟨Nat.le_of_ble_eq_true rfl, Nat.le_of_ble_eq_true rfl⟩) [] [0, 1, 2, 3, 4, 5, 6, 7] rfl (wr := [(IM, ob 1 [.ref ig, .int (nI kb)]), (ig, aO g 2 io), (c0, ob 2 [.ref d0, .int (nI (ms 0)), .int (nI (vbs 0))]), (d0, aI g 32 (gs 0)), (c1, ob 2 [.ref d1, .int (nI (ms 1)), .int (nI (vbs 1))]), (d1, aI g 32 (gs 1)), (h, ob 2 [.ref q, .int (nI n), .int (nI ww)]), (q, aI g 32 f)]) rfl (by decide) (by decide) (fun r0 w0 H locs hq S => ?_)
  obtain ⟨rfl, rfl⟩ := hq
  have S : ST g A ss H locs [(IM, ob 1 [.ref ig, .int (nI kb)]), (ig, aO g 2 io), (c0, ob 2 [.ref d0, .int (nI (ms 0)), .int (nI (vbs 0))]), (d0, aI g 32 (gs 0)), (c1, ob 2 [.ref d1, .int (nI (ms 1)), .int (nI (vbs 1))]), (d1, aI g 32 (gs 1)), (h, ob 2 [.ref q, .int (nI n), .int (nI ww)]), (q, aI g 32 f)] := S
  refine br_neB (tgt := 13) hx hb dX1_getInto_8 (by decide) (fun c_1 => ?_) (fun c_1 => ?_)
  · -- 8 T
    rw [hno] at c_1; cases c_1
  · -- 8 F
    refine lv_iconst (v := 0) hx hb dX1_getInto_11 (by decide) ?_
    exact ret_Z (false) C S hr dX1_getInto_12 (rfl) ⟨(rfl), (rfl)⟩

theorem inX1_getIntoy_X1 : ∀ w ∈ wsX10, w ∈ wsX1_getInto := by decide +kernel
set_option maxRecDepth 100000 in
set_option maxHeartbeats 4000000 in
theorem kX1_getIntoy (l : Launch) (g : GG) (IM : Nat) (ig : Nat) (io : Nat → Option Nat) (c0 : Nat) (d0 : Nat) (c1 : Nat) (d1 : Nat) (gs : Nat → Nat → Int32) (ms : Nat → Nat) (vbs : Nat → Nat) (kb : Nat) (h : Nat) (q : Nat) (f : Nat → Int32) (n : Nat) (ww : Nat) (j : Nat) (hio : io 0 = some c0 ∧ io 1 = some c1) (hj : j < 2) (hkb : kb < 4) (hyes : kb.testBit j = true) : KI l g yX1_getInto wsX1_getInto 2 85 [.ref IM, .int (nI j), .ref h] [(IM, ob 1 [.ref ig, .int (nI kb)]), (ig, aO g 2 io), (c0, ob 2 [.ref d0, .int (nI (ms 0)), .int (nI (vbs 0))]), (d0, aI g 32 (gs 0)), (c1, ob 2 [.ref d1, .int (nI (ms 1)), .int (nI (vbs 1))]), (d1, aI g 32 (gs 1)), (h, ob 2 [.ref q, .int (nI n), .int (nI ww)]), (q, aI g 32 f)] (fun (r : Int32) (w' : va_W) => r = (bI true) ∧ ∃ (f' : Nat → Int32), (∀ j9, j9 < 32 → f' j9 = gs j j9) ∧ w' = [(IM, ob 1 [.ref ig, .int (nI kb)]), (ig, aO g 2 io), (c0, ob 2 [.ref d0, .int (nI (ms 0)), .int (nI (vbs 0))]), (d0, aI g 32 (gs 0)), (c1, ob 2 [.ref d1, .int (nI (ms 1)), .int (nI (vbs 1))]), (d1, aI g 32 (gs 1)), (h, ob 2 [.ref q, .int (nI (ms j)), .int (nI (vbs j))]), (q, aI g 32 f')]) := by
  refine kI_of (cc := cX1_getInto) (maxL := 3) (by decide) rfl (Nat.le_of_ble_eq_true rfl) ?_
  intro pp ee ss mm bel mth cd A ls C S hr hl
  obtain ⟨hx, hb, hml, hown, hts⟩ := id C.1
  have hl : lv_has ls 3 [(0, .ref IM), (1, .int (nI j)), (2, .ref h)] := hl
  obtain ⟨H, hH⟩ : ∃ H, H = ss.heap := ⟨_, rfl⟩
  obtain ⟨locs, hL0⟩ : ∃ L : List Loc, L = [] := ⟨_, rfl⟩
  rw [← hH, ← hL0] at S ⊢
  refine lv_aload_n hx hb dX1_getInto_0 rfl (lv_at hl 0 rfl) ?_
  refine top_get C S inX1_getIntoy_X1 rfl 0 rfl 1 (by decide) (by decide +kernel) rfl rfl dX1_getInto_1 ?_
  refine lv_iload_n hx hb dX1_getInto_4 rfl (lv_at hl 1 rfl) ?_
  refine after_I (wc := []) (y := yX6_holds) C S (va_runSN (As := [.int (nI kb), .int (nI j)]) (rest := []) C.1 (kX6_holds l g kb j (by first | assumption | omega) (by first | assumption | omega) H.size) ⟨va_cnB 2 hts gX1_getInto_X6_holds_n26 rfl rfl rfl (C.2.2.1.1.2 ("StackedLeaves$Images", 26, yX6_holds) (by decide +kernel)) (hts (.initialized RX6) (by decide +kernel)) (by decide +kernel) ⟨Nat.le_of_ble_eq_true rfl, Nat.le_of_ble_eq_true rfl⟩, hts (.static yX6_holds) (by decide +kernel), trivial⟩ (preS_at C S [] rfl (by decide)) rfl rfl hl.1 rfl (lv_room (Nat.le_of_ble_eq_true rfl)) dX1_getInto_5 ⟨Nat.le_of_ble_eq_true rfl, Nat.le_of_ble_eq_true rfl⟩) [] [0, 1, 2, 3, 4, 5, 6, 7] rfl (wr := [(IM, ob 1 [.ref ig, .int (nI kb)]), (ig, aO g 2 io), (c0, ob 2 [.ref d0, .int (nI (ms 0)), .int (nI (vbs 0))]), (d0, aI g 32 (gs 0)), (c1, ob 2 [.ref d1, .int (nI (ms 1)), .int (nI (vbs 1))]), (d1, aI g 32 (gs 1)), (h, ob 2 [.ref q, .int (nI n), .int (nI ww)]), (q, aI g 32 f)]) rfl (by decide) (by decide) (fun r0 w0 H locs hq S => ?_)
  obtain ⟨rfl, rfl⟩ := hq
  have S : ST g A ss H locs [(IM, ob 1 [.ref ig, .int (nI kb)]), (ig, aO g 2 io), (c0, ob 2 [.ref d0, .int (nI (ms 0)), .int (nI (vbs 0))]), (d0, aI g 32 (gs 0)), (c1, ob 2 [.ref d1, .int (nI (ms 1)), .int (nI (vbs 1))]), (d1, aI g 32 (gs 1)), (h, ob 2 [.ref q, .int (nI n), .int (nI ww)]), (q, aI g 32 f)] := S
  refine br_neB (tgt := 13) hx hb dX1_getInto_8 (by decide) (fun c_1 => ?_) (fun c_1 => ?_)
  · -- 8 T
    rcases (show j = 0 ∨ j = 1 by omega) with rfl | rfl
    · -- j = 0
      refine lv_aload_n hx hb dX1_getInto_13 rfl (lv_at hl 2 rfl) ?_
      refine lv_aload_n hx hb dX1_getInto_14 rfl (lv_at hl 0 rfl) ?_
      refine top_get C S inX1_getIntoy_X1 rfl 0 rfl 0 (by decide) (by decide +kernel) rfl rfl dX1_getInto_15 ?_
      refine lv_iload_n hx hb dX1_getInto_18 rfl (lv_at hl 1 rfl) ?_
      refine top_old C S 1 rfl (j := 0) rfl (by omega) (by decide) (by exact hio.1) dX1_getInto_19 ?_
      refine after_V (wc := [(h, ob 2 [.ref q, .int (nI n), .int (nI ww)]), (q, aI g 32 f), (c0, ob 2 [.ref d0, .int (nI (ms 0)), .int (nI (vbs 0))]), (d0, aI g 32 (gs 0))]) (y := yX2_become) C S (va_runV (As := [.ref c0]) (rest := []) C.1 (kX2_become l g h q f n ww c0 d0 (gs 0) (ms 0) (vbs 0) H.size) (cwV 1 hts gX1_getInto_X2_become rfl rfl rfl (by decide +kernel) ⟨Nat.le_of_ble_eq_true rfl, Nat.le_of_ble_eq_true rfl⟩) (preV_at C S 6 rfl rfl [6, 7, 2, 3] rfl (by decide)) rfl rfl hl.1 rfl (lv_room (Nat.le_of_ble_eq_true rfl)) dX1_getInto_20 ⟨Nat.le_of_ble_eq_true rfl, Nat.le_of_ble_eq_true rfl⟩) [6, 7, 2, 3] [0, 1, 4, 5] rfl (wr := [(IM, ob 1 [.ref ig, .int (nI kb)]), (ig, aO g 2 io), (c1, ob 2 [.ref d1, .int (nI (ms 1)), .int (nI (vbs 1))]), (d1, aI g 32 (gs 1))]) rfl (by decide) (by decide) (fun w0 H locs hq S => ?_)
      obtain ⟨f9, hf9, rfl⟩ := hq
      have S : ST g A ss H locs [(IM, ob 1 [.ref ig, .int (nI kb)]), (ig, aO g 2 io), (c0, ob 2 [.ref d0, .int (nI (ms 0)), .int (nI (vbs 0))]), (d0, aI g 32 (gs 0)), (c1, ob 2 [.ref d1, .int (nI (ms 1)), .int (nI (vbs 1))]), (d1, aI g 32 (gs 1)), (h, ob 2 [.ref q, .int (nI (ms 0)), .int (nI (vbs 0))]), (q, aI g 32 f9)] := ST.sub S [0, 1, 6, 7, 2, 3, 4, 5] (by decide) rfl
      refine lv_iconst (v := 1) hx hb dX1_getInto_23 (by decide) ?_
      exact ret_Z (true) C S hr dX1_getInto_24 (rfl) ⟨(rfl), f9, (hf9), (rfl)⟩
    · -- j = 1
      refine lv_aload_n hx hb dX1_getInto_13 rfl (lv_at hl 2 rfl) ?_
      refine lv_aload_n hx hb dX1_getInto_14 rfl (lv_at hl 0 rfl) ?_
      refine top_get C S inX1_getIntoy_X1 rfl 0 rfl 0 (by decide) (by decide +kernel) rfl rfl dX1_getInto_15 ?_
      refine lv_iload_n hx hb dX1_getInto_18 rfl (lv_at hl 1 rfl) ?_
      refine top_old C S 1 rfl (j := 1) rfl (by omega) (by decide) (by exact hio.2) dX1_getInto_19 ?_
      refine after_V (wc := [(h, ob 2 [.ref q, .int (nI n), .int (nI ww)]), (q, aI g 32 f), (c1, ob 2 [.ref d1, .int (nI (ms 1)), .int (nI (vbs 1))]), (d1, aI g 32 (gs 1))]) (y := yX2_become) C S (va_runV (As := [.ref c1]) (rest := []) C.1 (kX2_become l g h q f n ww c1 d1 (gs 1) (ms 1) (vbs 1) H.size) (cwV 1 hts gX1_getInto_X2_become rfl rfl rfl (by decide +kernel) ⟨Nat.le_of_ble_eq_true rfl, Nat.le_of_ble_eq_true rfl⟩) (preV_at C S 6 rfl rfl [6, 7, 4, 5] rfl (by decide)) rfl rfl hl.1 rfl (lv_room (Nat.le_of_ble_eq_true rfl)) dX1_getInto_20 ⟨Nat.le_of_ble_eq_true rfl, Nat.le_of_ble_eq_true rfl⟩) [6, 7, 4, 5] [0, 1, 2, 3] rfl (wr := [(IM, ob 1 [.ref ig, .int (nI kb)]), (ig, aO g 2 io), (c0, ob 2 [.ref d0, .int (nI (ms 0)), .int (nI (vbs 0))]), (d0, aI g 32 (gs 0))]) rfl (by decide) (by decide) (fun w0 H locs hq S => ?_)
      obtain ⟨f9, hf9, rfl⟩ := hq
      have S : ST g A ss H locs [(IM, ob 1 [.ref ig, .int (nI kb)]), (ig, aO g 2 io), (c0, ob 2 [.ref d0, .int (nI (ms 0)), .int (nI (vbs 0))]), (d0, aI g 32 (gs 0)), (c1, ob 2 [.ref d1, .int (nI (ms 1)), .int (nI (vbs 1))]), (d1, aI g 32 (gs 1)), (h, ob 2 [.ref q, .int (nI (ms 1)), .int (nI (vbs 1))]), (q, aI g 32 f9)] := ST.sub S [0, 1, 2, 3, 6, 7, 4, 5] (by decide) rfl
      refine lv_iconst (v := 1) hx hb dX1_getInto_23 (by decide) ?_
      exact ret_Z (true) C S hr dX1_getInto_24 (rfl) ⟨(rfl), f9, (hf9), (rfl)⟩
  · -- 8 F
    rw [hyes] at c_1; cases c_1

theorem inX1_empty_X1 : ∀ w ∈ wsX10, w ∈ wsX1_empty := by decide +kernel
set_option maxRecDepth 100000 in
set_option maxHeartbeats 4000000 in
theorem kX1_empty (l : Launch) (g : GG) (IM : Nat) (ig : Nat) (io : Nat → Option Nat) (kb : Nat)  : KV l g yX1_empty wsX1_empty 0 0 [.ref IM] [(IM, ob 1 [.ref ig, .int (nI kb)]), (ig, aO g 2 io)] (fun (w' : va_W) => w' = [(IM, ob 1 [.ref ig, .int (nI 0)]), (ig, aO g 2 io)]) := by
  refine kV_of (cc := cX1_empty) (maxL := 1) (by decide) rfl (Nat.le_of_ble_eq_true rfl) ?_
  intro pp ee ss mm bel mth cd A ls C S hr hl
  obtain ⟨hx, hb, hml, hown, hts⟩ := id C.1
  have hl : lv_has ls 1 [(0, .ref IM)] := hl
  obtain ⟨H, hH⟩ : ∃ H, H = ss.heap := ⟨_, rfl⟩
  obtain ⟨locs, hL0⟩ : ∃ L : List Loc, L = [] := ⟨_, rfl⟩
  rw [← hH, ← hL0] at S ⊢
  refine lv_aload_n hx hb dX1_empty_0 rfl (lv_at hl 0 rfl) ?_
  refine lv_iconst (v := 0) hx hb dX1_empty_1 (by decide) ?_
  refine top_put (ty := .int) C S inX1_empty_X1 tyX1 tyX1_ok nmX1 rfl 0 rfl 1 (by decide) (by decide +kernel) rfl rfl (tyX1_ok 1 (by decide)) rfl rfl (Nat.le_of_ble_eq_true rfl) dX1_empty_2 (fun H locs S => ?_)
  have S : ST g A ss H locs [(IM, ob 1 [.ref ig, .int 0]), (ig, aO g 2 io)] := S
  exact ret_V C S hr dX1_empty_5 (by first | rfl | simp only [])

theorem inX4_appendn_X4 : ∀ w ∈ wsX40, w ∈ wsX4_append := by decide +kernel
set_option maxRecDepth 100000 in
set_option maxHeartbeats 4000000 in
theorem kX4_appendn (l : Launch) (g : GG) (SG : Nat) (la : Nat) (ba : Nat) (lf : Nat → Int32) (bf : Nat → Int32) (sz : Nat) (x : Int32) (y : Int32) (hsz : 6 ≤ sz) (hs6 : sz ≤ 6) : KI l g yX4_append wsX4_append 0 0 [.ref SG, .int x, .int y] [(SG, ob 4 [.ref la, .ref ba, .int (nI sz)]), (la, aI g 6 lf), (ba, aI g 6 bf)] (fun (r : Int32) (w' : va_W) => r = (bI false) ∧ w' = [(SG, ob 4 [.ref la, .ref ba, .int (nI sz)]), (la, aI g 6 lf), (ba, aI g 6 bf)]) := by
  refine kI_of (cc := cX4_append) (maxL := 3) (by decide) rfl (Nat.le_of_ble_eq_true rfl) ?_
  intro pp ee ss mm bel mth cd A ls C S hr hl
  obtain ⟨hx, hb, hml, hown, hts⟩ := id C.1
  have hl : lv_has ls 3 [(0, .ref SG), (1, .int x), (2, .int y)] := hl
  obtain ⟨H, hH⟩ : ∃ H, H = ss.heap := ⟨_, rfl⟩
  obtain ⟨locs, hL0⟩ : ∃ L : List Loc, L = [] := ⟨_, rfl⟩
  rw [← hH, ← hL0] at S ⊢
  refine lv_aload_n hx hb dX4_append_0 rfl (lv_at hl 0 rfl) ?_
  refine top_get C S inX4_appendn_X4 rfl 0 rfl 2 (by decide) (by decide +kernel) rfl rfl dX4_append_1 ?_
  refine lv_bipush (v := 6) hx hb dX4_append_4 (by decide) ?_
  refine bn_ilt (tgt := 11) (a := sz) (b := 6) hx hb rfl rfl (by omega) (by omega) dX4_append_6 (by decide) (fun c_1 => ?_) (fun c_1 => ?_)
  · -- 6 T
    exact absurd c_1 (by omega)
  · -- 6 F
    refine lv_iconst (v := 0) hx hb dX4_append_9 (by decide) ?_
    exact ret_Z (false) C S hr dX4_append_10 (rfl) ⟨(rfl), (rfl)⟩

theorem inX4_appendy_X4 : ∀ w ∈ wsX40, w ∈ wsX4_append := by decide +kernel
set_option maxRecDepth 100000 in
set_option maxHeartbeats 4000000 in
theorem kX4_appendy (l : Launch) (g : GG) (SG : Nat) (la : Nat) (ba : Nat) (lf : Nat → Int32) (bf : Nat → Int32) (sz : Nat) (x : Int32) (y : Int32) (hsz : sz < 6) : KI l g yX4_append wsX4_append 0 0 [.ref SG, .int x, .int y] [(SG, ob 4 [.ref la, .ref ba, .int (nI sz)]), (la, aI g 6 lf), (ba, aI g 6 bf)] (fun (r : Int32) (w' : va_W) => r = (bI true) ∧ w' = [(SG, ob 4 [.ref la, .ref ba, .int (nI (sz + 1))]), (la, aI g 6 (upd lf sz x)), (ba, aI g 6 (upd bf sz y))]) := by
  refine kI_of (cc := cX4_append) (maxL := 3) (by decide) rfl (Nat.le_of_ble_eq_true rfl) ?_
  intro pp ee ss mm bel mth cd A ls C S hr hl
  obtain ⟨hx, hb, hml, hown, hts⟩ := id C.1
  have hl : lv_has ls 3 [(0, .ref SG), (1, .int x), (2, .int y)] := hl
  obtain ⟨H, hH⟩ : ∃ H, H = ss.heap := ⟨_, rfl⟩
  obtain ⟨locs, hL0⟩ : ∃ L : List Loc, L = [] := ⟨_, rfl⟩
  rw [← hH, ← hL0] at S ⊢
  refine lv_aload_n hx hb dX4_append_0 rfl (lv_at hl 0 rfl) ?_
  refine top_get C S inX4_appendy_X4 rfl 0 rfl 2 (by decide) (by decide +kernel) rfl rfl dX4_append_1 ?_
  refine lv_bipush (v := 6) hx hb dX4_append_4 (by decide) ?_
  refine bn_ilt (tgt := 11) (a := sz) (b := 6) hx hb rfl rfl (by omega) (by omega) dX4_append_6 (by decide) (fun c_1 => ?_) (fun c_1 => ?_)
  · -- 6 T
    refine lv_aload_n hx hb dX4_append_11 rfl (lv_at hl 0 rfl) ?_
    refine top_get C S inX4_appendy_X4 rfl 0 rfl 0 (by decide) (by decide +kernel) rfl rfl dX4_append_12 ?_
    refine lv_aload_n hx hb dX4_append_15 rfl (lv_at hl 0 rfl) ?_
    refine top_get C S inX4_appendy_X4 rfl 0 rfl 2 (by decide) (by decide +kernel) rfl rfl dX4_append_16 ?_
    refine lv_iload_n hx hb dX4_append_19 rfl (lv_at hl 1 rfl) ?_
    refine top_ist C S 1 rfl (j := sz) rfl (by omega) (by decide) dX4_append_20 (fun H locs S => ?_)
    have S : ST g A ss H locs [(SG, ob 4 [.ref la, .ref ba, .int (nI sz)]), (la, aI g 6 (upd lf sz x)), (ba, aI g 6 bf)] := S
    refine lv_aload_n hx hb dX4_append_21 rfl (lv_at hl 0 rfl) ?_
    refine top_get C S inX4_appendy_X4 rfl 0 rfl 1 (by decide) (by decide +kernel) rfl rfl dX4_append_22 ?_
    refine lv_aload_n hx hb dX4_append_25 rfl (lv_at hl 0 rfl) ?_
    refine top_get C S inX4_appendy_X4 rfl 0 rfl 2 (by decide) (by decide +kernel) rfl rfl dX4_append_26 ?_
    refine lv_iload_n hx hb dX4_append_29 rfl (lv_at hl 2 rfl) ?_
    refine top_ist C S 2 rfl (j := sz) rfl (by omega) (by decide) dX4_append_30 (fun H locs S => ?_)
    have S : ST g A ss H locs [(SG, ob 4 [.ref la, .ref ba, .int (nI sz)]), (la, aI g 6 (upd lf sz x)), (ba, aI g 6 (upd bf sz y))] := S
    refine lv_aload_n hx hb dX4_append_31 rfl (lv_at hl 0 rfl) ?_
    refine lv_dup hx hb dX4_append_32 rfl ?_
    refine top_get C S inX4_appendy_X4 rfl 0 rfl 2 (by decide) (by decide +kernel) rfl rfl dX4_append_33 ?_
    refine lv_iconst (v := 1) hx hb dX4_append_36 (by decide) ?_
    refine lv_iadd hx hb dX4_append_37 ?_
    refine top_eq (y := nI (sz + 1)) (nI_add _ _) ?_
    refine top_put (ty := .int) C S inX4_appendy_X4 tyX4 tyX4_ok nmX4 rfl 0 rfl 2 (by decide) (by decide +kernel) rfl rfl (tyX4_ok 2 (by decide)) rfl rfl (Nat.le_of_ble_eq_true rfl) dX4_append_38 (fun H locs S => ?_)
    have S : ST g A ss H locs [(SG, ob 4 [.ref la, .ref ba, .int (nI (sz + 1))]), (la, aI g 6 (upd lf sz x)), (ba, aI g 6 (upd bf sz y))] := S
    refine lv_iconst (v := 1) hx hb dX4_append_41 (by decide) ?_
    exact ret_Z (true) C S hr dX4_append_42 (rfl) ⟨(rfl), (rfl)⟩
  · -- 6 F
    exact absurd hsz c_1

theorem inX4_empty_X4 : ∀ w ∈ wsX40, w ∈ wsX4_empty := by decide +kernel
set_option maxRecDepth 100000 in
set_option maxHeartbeats 4000000 in
theorem kX4_empty (l : Launch) (g : GG) (SG : Nat) (la : Nat) (ba : Nat) (lf : Nat → Int32) (bf : Nat → Int32) (sz : Nat)  : KI l g yX4_empty wsX4_empty 0 0 [.ref SG] [(SG, ob 4 [.ref la, .ref ba, .int (nI sz)]), (la, aI g 6 lf), (ba, aI g 6 bf)] (fun (r : Int32) (w' : va_W) => r = (nI sz) ∧ w' = [(SG, ob 4 [.ref la, .ref ba, .int (nI 0)]), (la, aI g 6 lf), (ba, aI g 6 bf)]) := by
  refine kI_of (cc := cX4_empty) (maxL := 2) (by decide) rfl (Nat.le_of_ble_eq_true rfl) ?_
  intro pp ee ss mm bel mth cd A ls C S hr hl
  obtain ⟨hx, hb, hml, hown, hts⟩ := id C.1
  have hl : lv_has ls 2 [(0, .ref SG)] := hl
  obtain ⟨H, hH⟩ : ∃ H, H = ss.heap := ⟨_, rfl⟩
  obtain ⟨locs, hL0⟩ : ∃ L : List Loc, L = [] := ⟨_, rfl⟩
  rw [← hH, ← hL0] at S ⊢
  refine lv_aload_n hx hb dX4_empty_0 rfl (lv_at hl 0 rfl) ?_
  refine top_get C S inX4_empty_X4 rfl 0 rfl 2 (by decide) (by decide +kernel) rfl rfl dX4_empty_1 ?_
  refine lv_istore_n (lv' := [(1, .int (nI sz)), (0, .ref SG)]) hx hb dX4_empty_4 rfl hl (by decide) rfl (fun ls hl => ?_)
  refine lv_aload_n hx hb dX4_empty_5 rfl (lv_at hl 1 rfl) ?_
  refine lv_iconst (v := 0) hx hb dX4_empty_6 (by decide) ?_
  refine top_put (ty := .int) C S inX4_empty_X4 tyX4 tyX4_ok nmX4 rfl 0 rfl 2 (by decide) (by decide +kernel) rfl rfl (tyX4_ok 2 (by decide)) rfl rfl (Nat.le_of_ble_eq_true rfl) dX4_empty_7 (fun H locs S => ?_)
  have S : ST g A ss H locs [(SG, ob 4 [.ref la, .ref ba, .int 0]), (la, aI g 6 lf), (ba, aI g 6 bf)] := S
  refine lv_iload_n hx hb dX4_empty_10 rfl (lv_at hl 0 rfl) ?_
  exact ret_I C S hr dX4_empty_11 ⟨(by first | rfl | simp only []), (by first | rfl | simp only [])⟩

theorem inX4_agreeWith_X4 : ∀ w ∈ wsX40, w ∈ wsX4_agreeWith := by decide +kernel
set_option maxRecDepth 100000 in
set_option maxHeartbeats 4000000 in
theorem kX4_agreeWith (l : Launch) (g : GG) (SG : Nat) (la : Nat) (ba : Nat) (lf : Nat → Int32) (bf : Nat → Int32) (sz : Nat) (P : Nat) (ra : Nat) (sa : Nat) (ta : Nat) (rf : Nat → Int32) (sf : Nat → Int32) (tf : Nat → Int32) (n : Nat) (b : Nat) (p3 : Int32) (p4 : Int32) (p5 : Int32) (Rr : Nat → Nat) (st : Nat → Nat) (sg : Nat → Nat) (lo : Nat → Nat) (hn : n ≤ 8) (hbb : b < 512) (hR : ∀ j, j < n → rf j = nI (Rr j)) (hS : ∀ j, j < n → sf j = nI (st j)) (hT : ∀ j, j < n → tf j = nI (sg j)) (hRb : ∀ i, i < n → Rr i ≤ 240) (hSb : ∀ i, i < n → st i ≤ 9) (hTb : ∀ i, i < n → sg i ≤ 99) (hs6 : sz ≤ 6) (hlo : ∀ i, i < sz → lf i = nI (lo i)) (hlb : ∀ i, i < sz → lo i ≤ 999) : KI l g yX4_agreeWith wsX4_agreeWith 3 66 [.ref SG, .ref P] [(SG, ob 4 [.ref la, .ref ba, .int (nI sz)]), (la, aI g 6 lf), (ba, aI g 6 bf), (P, ob 3 [.ref ra, .ref sa, .ref ta, .int (nI n), .int (nI b), .int p3, .int p4, .int p5]), (ra, aI g 8 rf), (sa, aI g 8 sf), (ta, aI g 8 tf)] (fun (r : Int32) (w' : va_W) => r = (bI (decide (∀ i, i < sz → cutI (uppN st Rr b (lo i) n) (lowN st Rr b (lo i) n) = bf i))) ∧ ∃ (u' : Int32), ∃ (l' : Int32), ∃ (v' : Int32), w' = [(SG, ob 4 [.ref la, .ref ba, .int (nI sz)]), (la, aI g 6 lf), (ba, aI g 6 bf), (P, ob 3 [.ref ra, .ref sa, .ref ta, .int (nI n), .int (nI b), .int u', .int l', .int v']), (ra, aI g 8 rf), (sa, aI g 8 sf), (ta, aI g 8 tf)]) := by
  refine kI_of (cc := cX4_agreeWith) (maxL := 3) (by decide) rfl (Nat.le_of_ble_eq_true rfl) ?_
  intro pp ee ss mm bel mth cd A ls C S hr hl
  obtain ⟨hx, hb, hml, hown, hts⟩ := id C.1
  have hl : lv_has ls 3 [(0, .ref SG), (1, .ref P)] := hl
  obtain ⟨H, hH⟩ : ∃ H, H = ss.heap := ⟨_, rfl⟩
  obtain ⟨locs, hL0⟩ : ∃ L : List Loc, L = [] := ⟨_, rfl⟩
  rw [← hH, ← hL0] at S ⊢
  refine lv_iconst (v := 0) hx hb dX4_agreeWith_0 (by decide) ?_
  refine lv_istore_n (lv' := [(2, .int 0), (0, .ref SG), (1, .ref P)]) hx hb dX4_agreeWith_1 rfl hl (by decide) rfl (fun ls hl => ?_)
  have loop2 : ∀ (N0 : Nat) (i : Nat) (u1 : Int32) (l1 : Int32) (v1 : Int32), sz - i < N0 → (i ≤ sz) → (∀ j, j < i → cutI (uppN st Rr b (lo j) n) (lowN st Rr b (lo j) n) = bf j) → ∀ (H : Heap) (locs : List Loc) (ls : Array Slot), ST g A ss H locs [(SG, ob 4 [.ref la, .ref ba, .int (nI sz)]), (la, aI g 6 lf), (ba, aI g 6 bf), (P, ob 3 [.ref ra, .ref sa, .ref ta, .int (nI n), .int (nI b), .int u1, .int l1, .int v1]), (ra, aI g 8 rf), (sa, aI g 8 sf), (ta, aI g 8 tf)] → lv_has ls 3 [(2, .int (nI i)), (0, .ref SG), (1, .ref P)] → W pp l ee { frames := 3, cells := 0, slots := 0, locals := 66 } ss mm ([.ref SG, .ref P] : List Value).toArray bel mth cd H locs 0 0 (QI bel ([.ref SG, .ref P] : List Value).toArray ss g A (fun (r : Int32) (w' : va_W) => r = (bI (decide (∀ i, i < sz → cutI (uppN st Rr b (lo i) n) (lowN st Rr b (lo i) n) = bf i))) ∧ ∃ (u' : Int32), ∃ (l' : Int32), ∃ (v' : Int32), w' = [(SG, ob 4 [.ref la, .ref ba, .int (nI sz)]), (la, aI g 6 lf), (ba, aI g 6 bf), (P, ob 3 [.ref ra, .ref sa, .ref ta, .int (nI n), .int (nI b), .int u', .int l', .int v']), (ra, aI g 8 rf), (sa, aI g 8 sf), (ta, aI g 8 tf)])) (F0 mm 2 ls []) := by
    intro N0
    induction N0 with
    | zero => intro i u1 l1 v1 hN; exact absurd hN (Nat.not_lt_zero _)
    | succ N0 ih2 =>
      intro i u1 l1 v1 hN hi hall H locs ls S hl
      refine lv_iload_n hx hb dX4_agreeWith_2 rfl (lv_at hl 0 rfl) ?_
      refine lv_aload_n hx hb dX4_agreeWith_3 rfl (lv_at hl 1 rfl) ?_
      refine top_get C S inX4_agreeWith_X4 rfl 0 rfl 2 (by decide) (by decide +kernel) rfl rfl dX4_agreeWith_4 ?_
      refine bn_ige (tgt := 37) (a := i) (b := sz) hx hb rfl rfl (by omega) (by omega) dX4_agreeWith_7 (by decide) (fun c_1 => ?_) (fun c_1 => ?_)
      · -- 7 T
        refine lv_iconst (v := 1) hx hb dX4_agreeWith_37 (by decide) ?_
        exact ret_Z (decide (∀ i, i < sz → cutI (uppN st Rr b (lo i) n) (lowN st Rr b (lo i) n) = bf i)) C S hr dX4_agreeWith_38 (by rw [decide_eq_true (fun j hj => hall j (by omega))]; rfl) ⟨(by rw [decide_eq_true (fun j hj => hall j (by omega))]; rfl), u1, l1, v1, (rfl)⟩
      · -- 7 F
        refine lv_aload_n hx hb dX4_agreeWith_10 rfl (lv_at hl 2 rfl) ?_
        refine lv_aload_n hx hb dX4_agreeWith_11 rfl (lv_at hl 1 rfl) ?_
        refine top_get C S inX4_agreeWith_X4 rfl 0 rfl 0 (by decide) (by decide +kernel) rfl rfl dX4_agreeWith_12 ?_
        refine lv_iload_n hx hb dX4_agreeWith_15 rfl (lv_at hl 0 rfl) ?_
        refine top_ild C S 1 rfl (j := i) rfl (by omega) (by decide) dX4_agreeWith_16 ?_
        refine top_eq (y := nI (lo i)) (hlo _ (by omega)) ?_
        refine after_I (wc := [(P, ob 3 [.ref ra, .ref sa, .ref ta, .int (nI n), .int (nI b), .int u1, .int l1, .int v1]), (ra, aI g 8 rf), (sa, aI g 8 sf), (ta, aI g 8 tf)]) (y := yX3_cutBy) C S (va_runV (As := [.int (nI (lo i))]) (rest := []) C.1 (kX3_cutBy l g P ra sa ta rf sf tf n b u1 l1 v1 Rr st sg (lo i) (by first | assumption | omega) (by first | assumption | omega) (by first | assumption | omega) (by first | assumption | omega) (by first | assumption | omega) (by first | assumption | omega) (by first | assumption | omega) (by first | assumption | omega) (hlb _ (by omega)) H.size) (cwV 1 hts gX4_agreeWith_X3_cutBy rfl rfl rfl (by decide +kernel) ⟨Nat.le_of_ble_eq_true rfl, Nat.le_of_ble_eq_true rfl⟩) (preV_at C S 3 rfl rfl [3, 4, 5, 6] rfl (by decide)) rfl rfl hl.1 rfl (lv_room (Nat.le_of_ble_eq_true rfl)) dX4_agreeWith_17 ⟨Nat.le_of_ble_eq_true rfl, Nat.le_of_ble_eq_true rfl⟩) [3, 4, 5, 6] [0, 1, 2] rfl (wr := [(SG, ob 4 [.ref la, .ref ba, .int (nI sz)]), (la, aI g 6 lf), (ba, aI g 6 bf)]) rfl (by decide) (by decide) (fun r0 w0 H locs hq S => ?_)
        obtain ⟨rfl, rfl⟩ := hq
        have S : ST g A ss H locs [(SG, ob 4 [.ref la, .ref ba, .int (nI sz)]), (la, aI g 6 lf), (ba, aI g 6 bf), (P, ob 3 [.ref ra, .ref sa, .ref ta, .int (nI n), .int (nI b), .int (nI (uppN st Rr b (lo i) n)), .int (nI (lowN st Rr b (lo i) n)), .int (nI ((pr st Rr b (lo i) n).1))]), (ra, aI g 8 rf), (sa, aI g 8 sf), (ta, aI g 8 tf)] := S
        refine lv_aload_n hx hb dX4_agreeWith_20 rfl (lv_at hl 1 rfl) ?_
        refine top_get C S inX4_agreeWith_X4 rfl 0 rfl 1 (by decide) (by decide +kernel) rfl rfl dX4_agreeWith_21 ?_
        refine lv_iload_n hx hb dX4_agreeWith_24 rfl (lv_at hl 0 rfl) ?_
        refine top_ild C S 2 rfl (j := i) rfl (by omega) (by decide) dX4_agreeWith_25 ?_
        refine lv_icmp_eq (tgt := 31) hx hb dX4_agreeWith_26 (by decide) (fun c_2 => ?_) (fun c_2 => ?_)
        · -- 26 T
          refine lv_iinc (v := nI (i + 1)) (lv' := [(2, .int (nI (i + 1))), (0, .ref SG), (1, .ref P)]) hx hb dX4_agreeWith_31 hl (k := 0) rfl (nI_add _ _) (by decide) rfl (fun ls hl => ?_)
          refine lv_goto (tgt := 2) hx hb dX4_agreeWith_34 (by decide) ?_
          exact ih2 (i + 1) (nI (uppN st Rr b (lo i) n)) (nI (lowN st Rr b (lo i) n)) (nI ((pr st Rr b (lo i) n).1)) (by omega) (by first | assumption | omega) (fun j hj => by rcases (show j < i ∨ j = i by omega) with z9 | rfl; exact hall j z9; exact c_2) H locs ls (ST.eq S (rfl)) (lv_sub hl [0, 1, 2] (rfl))
        · -- 26 F
          refine lv_iconst (v := 0) hx hb dX4_agreeWith_29 (by decide) ?_
          exact ret_Z (decide (∀ i, i < sz → cutI (uppN st Rr b (lo i) n) (lowN st Rr b (lo i) n) = bf i)) C S hr dX4_agreeWith_30 (by rw [decide_eq_false (fun h9 => c_2 (h9 i (by omega)))]; rfl) ⟨(by rw [decide_eq_false (fun h9 => c_2 (h9 i (by omega)))]; rfl), (nI (uppN st Rr b (lo i) n)), (nI (lowN st Rr b (lo i) n)), (nI ((pr st Rr b (lo i) n).1)), (rfl)⟩
  exact loop2 _ 0 p3 p4 p5 (Nat.lt_succ_self _) (by first | assumption | omega) (fun j hj => absurd hj (Nat.not_lt_zero _)) H locs ls (ST.eq S (rfl)) (lv_sub hl [0, 1, 2] (rfl))
end
