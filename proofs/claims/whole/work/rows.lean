section
-- ===== PART A: goes FIRST, ahead of the names: the tables' words, and 'selects' of the private methods out of them =====
/-- a private method of a class that the tables say can be made, by its rows of tables_1 -/
def lw_okq (q : MethodName × Nat) : Prop := (q.1.cls ≠ "java/lang/invoke/MethodHandle" ∧ q.1.cls ≠ "java/lang/invoke/VarHandle") ∧ Cond.instantiable q.1.cls q.2 ∈ tables_1 ∧ Cond.privateMethod q.1 ∈ tables_1 ∧ Cond.instanceMethod q.1 ∈ tables_1
theorem lw_p0 : lw_okq (⟨"FatherLists", "sameOrder", "(LFatherLists$Row;LFatherLists$Row;)I"⟩, 12) := ⟨⟨by decide +kernel, by decide +kernel⟩, List.mem_of_getElem? (i := 19) (by decide +kernel), List.mem_of_getElem? (i := 512) (by decide +kernel), List.mem_of_getElem? (i := 513) (by decide +kernel)⟩
theorem lw_p1 : lw_okq (⟨"FatherLists", "longestAhead", "(LFatherLists$Row;LFatherLists$Row;II)I"⟩, 12) := ⟨⟨by decide +kernel, by decide +kernel⟩, List.mem_of_getElem? (i := 19) (by decide +kernel), List.mem_of_getElem? (i := 516) (by decide +kernel), List.mem_of_getElem? (i := 517) (by decide +kernel)⟩
theorem lw_p2 : lw_okq (⟨"FatherLists", "isAnyDated", "(LFatherLists$Row;)Z"⟩, 12) := ⟨⟨by decide +kernel, by decide +kernel⟩, List.mem_of_getElem? (i := 19) (by decide +kernel), List.mem_of_getElem? (i := 613) (by decide +kernel), List.mem_of_getElem? (i := 614) (by decide +kernel)⟩
theorem lw_p3 : lw_okq (⟨"FatherLists", "dateAt", "(LFatherLists$Row;I)I"⟩, 12) := ⟨⟨by decide +kernel, by decide +kernel⟩, List.mem_of_getElem? (i := 19) (by decide +kernel), List.mem_of_getElem? (i := 617) (by decide +kernel), List.mem_of_getElem? (i := 618) (by decide +kernel)⟩
theorem lw_p4 : lw_okq (⟨"FatherLists", "doDatesFit", "(LFatherLists$Row;)Z"⟩, 12) := ⟨⟨by decide +kernel, by decide +kernel⟩, List.mem_of_getElem? (i := 19) (by decide +kernel), List.mem_of_getElem? (i := 621) (by decide +kernel), List.mem_of_getElem? (i := 622) (by decide +kernel)⟩
theorem lw_p5 : lw_okq (⟨"FatherLists", "earliest", "(LFatherLists$Row;I)I"⟩, 12) := ⟨⟨by decide +kernel, by decide +kernel⟩, List.mem_of_getElem? (i := 19) (by decide +kernel), List.mem_of_getElem? (i := 625) (by decide +kernel), List.mem_of_getElem? (i := 626) (by decide +kernel)⟩
theorem lw_p6 : lw_okq (⟨"FatherLists", "latestYear", "(LFatherLists$Row;I)I"⟩, 12) := ⟨⟨by decide +kernel, by decide +kernel⟩, List.mem_of_getElem? (i := 19) (by decide +kernel), List.mem_of_getElem? (i := 629) (by decide +kernel), List.mem_of_getElem? (i := 630) (by decide +kernel)⟩
theorem lw_p7 : lw_okq (⟨"FatherLists", "lostBetween", "(II)I"⟩, 12) := ⟨⟨by decide +kernel, by decide +kernel⟩, List.mem_of_getElem? (i := 19) (by decide +kernel), List.mem_of_getElem? (i := 639) (by decide +kernel), List.mem_of_getElem? (i := 640) (by decide +kernel)⟩
theorem lw_p8 : lw_okq (⟨"FatherLists", "worthAsName", "(I)I"⟩, 12) := ⟨⟨by decide +kernel, by decide +kernel⟩, List.mem_of_getElem? (i := 19) (by decide +kernel), List.mem_of_getElem? (i := 659) (by decide +kernel), List.mem_of_getElem? (i := 660) (by decide +kernel)⟩
theorem lw_p9 : lw_okq (⟨"FatherLists", "worthAsClaimed", "(I)I"⟩, 12) := ⟨⟨by decide +kernel, by decide +kernel⟩, List.mem_of_getElem? (i := 19) (by decide +kernel), List.mem_of_getElem? (i := 663) (by decide +kernel), List.mem_of_getElem? (i := 664) (by decide +kernel)⟩
theorem lw_p10 : lw_okq (⟨"FatherLists", "worthAsJoined", "(I)I"⟩, 12) := ⟨⟨by decide +kernel, by decide +kernel⟩, List.mem_of_getElem? (i := 19) (by decide +kernel), List.mem_of_getElem? (i := 668) (by decide +kernel), List.mem_of_getElem? (i := 669) (by decide +kernel)⟩
theorem lw_p11 : lw_okq (⟨"FatherLists", "worthAsStood", "(I)I"⟩, 12) := ⟨⟨by decide +kernel, by decide +kernel⟩, List.mem_of_getElem? (i := 19) (by decide +kernel), List.mem_of_getElem? (i := 674) (by decide +kernel), List.mem_of_getElem? (i := 675) (by decide +kernel)⟩
theorem lw_p12 : lw_okq (⟨"FatherLists", "worthAsDated", "(I)I"⟩, 12) := ⟨⟨by decide +kernel, by decide +kernel⟩, List.mem_of_getElem? (i := 19) (by decide +kernel), List.mem_of_getElem? (i := 679) (by decide +kernel), List.mem_of_getElem? (i := 680) (by decide +kernel)⟩
theorem lw_p13 : lw_okq (⟨"FatherLists", "worthAsFar", "(I)I"⟩, 12) := ⟨⟨by decide +kernel, by decide +kernel⟩, List.mem_of_getElem? (i := 19) (by decide +kernel), List.mem_of_getElem? (i := 684) (by decide +kernel), List.mem_of_getElem? (i := 685) (by decide +kernel)⟩
theorem lw_p14 : lw_okq (⟨"FatherListsModel", "begins", "()V"⟩, 24) := ⟨⟨by decide +kernel, by decide +kernel⟩, List.mem_of_getElem? (i := 719) (by decide +kernel), List.mem_of_getElem? (i := 725) (by decide +kernel), List.mem_of_getElem? (i := 726) (by decide +kernel)⟩
theorem lw_p15 : lw_okq (⟨"FatherListsModel", "lays", "()V"⟩, 24) := ⟨⟨by decide +kernel, by decide +kernel⟩, List.mem_of_getElem? (i := 719) (by decide +kernel), List.mem_of_getElem? (i := 729) (by decide +kernel), List.mem_of_getElem? (i := 730) (by decide +kernel)⟩
def lw_privs_1 : List (MethodName × Nat) := [(⟨"FatherLists", "sameOrder", "(LFatherLists$Row;LFatherLists$Row;)I"⟩, 12), (⟨"FatherLists", "longestAhead", "(LFatherLists$Row;LFatherLists$Row;II)I"⟩, 12), (⟨"FatherLists", "isAnyDated", "(LFatherLists$Row;)Z"⟩, 12), (⟨"FatherLists", "dateAt", "(LFatherLists$Row;I)I"⟩, 12), (⟨"FatherLists", "doDatesFit", "(LFatherLists$Row;)Z"⟩, 12), (⟨"FatherLists", "earliest", "(LFatherLists$Row;I)I"⟩, 12), (⟨"FatherLists", "latestYear", "(LFatherLists$Row;I)I"⟩, 12), (⟨"FatherLists", "lostBetween", "(II)I"⟩, 12), (⟨"FatherLists", "worthAsName", "(I)I"⟩, 12), (⟨"FatherLists", "worthAsClaimed", "(I)I"⟩, 12), (⟨"FatherLists", "worthAsJoined", "(I)I"⟩, 12), (⟨"FatherLists", "worthAsStood", "(I)I"⟩, 12), (⟨"FatherLists", "worthAsDated", "(I)I"⟩, 12), (⟨"FatherLists", "worthAsFar", "(I)I"⟩, 12), (⟨"FatherListsModel", "begins", "()V"⟩, 24), (⟨"FatherListsModel", "lays", "()V"⟩, 24)]
theorem lw_r1 : ∀ q ∈ lw_privs_1, lw_okq q := List.forall_mem_cons.mpr ⟨lw_p0, List.forall_mem_cons.mpr ⟨lw_p1, List.forall_mem_cons.mpr ⟨lw_p2, List.forall_mem_cons.mpr ⟨lw_p3, List.forall_mem_cons.mpr ⟨lw_p4, List.forall_mem_cons.mpr ⟨lw_p5, List.forall_mem_cons.mpr ⟨lw_p6, List.forall_mem_cons.mpr ⟨lw_p7, List.forall_mem_cons.mpr ⟨lw_p8, List.forall_mem_cons.mpr ⟨lw_p9, List.forall_mem_cons.mpr ⟨lw_p10, List.forall_mem_cons.mpr ⟨lw_p11, List.forall_mem_cons.mpr ⟨lw_p12, List.forall_mem_cons.mpr ⟨lw_p13, List.forall_mem_cons.mpr ⟨lw_p14, List.forall_mem_cons.mpr ⟨lw_p15, fun _ h => absurd h List.not_mem_nil⟩⟩⟩⟩⟩⟩⟩⟩⟩⟩⟩⟩⟩⟩⟩⟩
theorem lw_p16 : lw_okq (⟨"FatherListsModel", "advances", "()V"⟩, 24) := ⟨⟨by decide +kernel, by decide +kernel⟩, List.mem_of_getElem? (i := 719) (by decide +kernel), List.mem_of_getElem? (i := 823) (by decide +kernel), List.mem_of_getElem? (i := 824) (by decide +kernel)⟩
theorem lw_p17 : lw_okq (⟨"FatherListsModel", "byteAt", "(I)I"⟩, 24) := ⟨⟨by decide +kernel, by decide +kernel⟩, List.mem_of_getElem? (i := 719) (by decide +kernel), List.mem_of_getElem? (i := 827) (by decide +kernel), List.mem_of_getElem? (i := 828) (by decide +kernel)⟩
theorem lw_p18 : lw_okq (⟨"FatherListsModel", "isWell", "()Z"⟩, 24) := ⟨⟨by decide +kernel, by decide +kernel⟩, List.mem_of_getElem? (i := 719) (by decide +kernel), List.mem_of_getElem? (i := 841) (by decide +kernel), List.mem_of_getElem? (i := 842) (by decide +kernel)⟩
theorem lw_p19 : lw_okq (⟨"FatherListsModel", "takes", "(Z)I"⟩, 24) := ⟨⟨by decide +kernel, by decide +kernel⟩, List.mem_of_getElem? (i := 719) (by decide +kernel), List.mem_of_getElem? (i := 845) (by decide +kernel), List.mem_of_getElem? (i := 846) (by decide +kernel)⟩
theorem lw_p20 : lw_okq (⟨"FatherListsModel", "sizeOf", "(I)I"⟩, 24) := ⟨⟨by decide +kernel, by decide +kernel⟩, List.mem_of_getElem? (i := 719) (by decide +kernel), List.mem_of_getElem? (i := 856) (by decide +kernel), List.mem_of_getElem? (i := 857) (by decide +kernel)⟩
theorem lw_p21 : lw_okq (⟨"FatherListsModel", "at", "(II)I"⟩, 24) := ⟨⟨by decide +kernel, by decide +kernel⟩, List.mem_of_getElem? (i := 719) (by decide +kernel), List.mem_of_getElem? (i := 868) (by decide +kernel), List.mem_of_getElem? (i := 869) (by decide +kernel)⟩
theorem lw_p22 : lw_okq (⟨"FatherListsModel", "placeOf", "(II)I"⟩, 24) := ⟨⟨by decide +kernel, by decide +kernel⟩, List.mem_of_getElem? (i := 719) (by decide +kernel), List.mem_of_getElem? (i := 879) (by decide +kernel), List.mem_of_getElem? (i := 880) (by decide +kernel)⟩
theorem lw_p23 : lw_okq (⟨"FatherListsModel", "heldOf", "(I)I"⟩, 24) := ⟨⟨by decide +kernel, by decide +kernel⟩, List.mem_of_getElem? (i := 719) (by decide +kernel), List.mem_of_getElem? (i := 891) (by decide +kernel), List.mem_of_getElem? (i := 892) (by decide +kernel)⟩
theorem lw_p24 : lw_okq (⟨"FatherListsModel", "says", "(II)V"⟩, 24) := ⟨⟨by decide +kernel, by decide +kernel⟩, List.mem_of_getElem? (i := 719) (by decide +kernel), List.mem_of_getElem? (i := 899) (by decide +kernel), List.mem_of_getElem? (i := 900) (by decide +kernel)⟩
theorem lw_p25 : lw_okq (⟨"FatherListsModel", "found", "(I)I"⟩, 24) := ⟨⟨by decide +kernel, by decide +kernel⟩, List.mem_of_getElem? (i := 719) (by decide +kernel), List.mem_of_getElem? (i := 903) (by decide +kernel), List.mem_of_getElem? (i := 904) (by decide +kernel)⟩
theorem lw_p26 : lw_okq (⟨"FatherListsModel", "isWeak", "(I)Z"⟩, 24) := ⟨⟨by decide +kernel, by decide +kernel⟩, List.mem_of_getElem? (i := 719) (by decide +kernel), List.mem_of_getElem? (i := 907) (by decide +kernel), List.mem_of_getElem? (i := 908) (by decide +kernel)⟩
theorem lw_p27 : lw_okq (⟨"FatherListsModel", "drops", "(I)V"⟩, 24) := ⟨⟨by decide +kernel, by decide +kernel⟩, List.mem_of_getElem? (i := 719) (by decide +kernel), List.mem_of_getElem? (i := 911) (by decide +kernel), List.mem_of_getElem? (i := 912) (by decide +kernel)⟩
theorem lw_p28 : lw_okq (⟨"FatherListsModel", "setOf", "(I)I"⟩, 24) := ⟨⟨by decide +kernel, by decide +kernel⟩, List.mem_of_getElem? (i := 719) (by decide +kernel), List.mem_of_getElem? (i := 927) (by decide +kernel), List.mem_of_getElem? (i := 928) (by decide +kernel)⟩
theorem lw_p29 : lw_okq (⟨"FatherListsModel", "longest", "(II)I"⟩, 24) := ⟨⟨by decide +kernel, by decide +kernel⟩, List.mem_of_getElem? (i := 719) (by decide +kernel), List.mem_of_getElem? (i := 931) (by decide +kernel), List.mem_of_getElem? (i := 932) (by decide +kernel)⟩
theorem lw_p30 : lw_okq (⟨"FatherListsModel", "gathers", "(I)V"⟩, 24) := ⟨⟨by decide +kernel, by decide +kernel⟩, List.mem_of_getElem? (i := 719) (by decide +kernel), List.mem_of_getElem? (i := 946) (by decide +kernel), List.mem_of_getElem? (i := 947) (by decide +kernel)⟩
theorem lw_p31 : lw_okq (⟨"FatherListsModel", "number", "(I)I"⟩, 24) := ⟨⟨by decide +kernel, by decide +kernel⟩, List.mem_of_getElem? (i := 719) (by decide +kernel), List.mem_of_getElem? (i := 950) (by decide +kernel), List.mem_of_getElem? (i := 951) (by decide +kernel)⟩
def lw_privs_2 : List (MethodName × Nat) := [(⟨"FatherListsModel", "advances", "()V"⟩, 24), (⟨"FatherListsModel", "byteAt", "(I)I"⟩, 24), (⟨"FatherListsModel", "isWell", "()Z"⟩, 24), (⟨"FatherListsModel", "takes", "(Z)I"⟩, 24), (⟨"FatherListsModel", "sizeOf", "(I)I"⟩, 24), (⟨"FatherListsModel", "at", "(II)I"⟩, 24), (⟨"FatherListsModel", "placeOf", "(II)I"⟩, 24), (⟨"FatherListsModel", "heldOf", "(I)I"⟩, 24), (⟨"FatherListsModel", "says", "(II)V"⟩, 24), (⟨"FatherListsModel", "found", "(I)I"⟩, 24), (⟨"FatherListsModel", "isWeak", "(I)Z"⟩, 24), (⟨"FatherListsModel", "drops", "(I)V"⟩, 24), (⟨"FatherListsModel", "setOf", "(I)I"⟩, 24), (⟨"FatherListsModel", "longest", "(II)I"⟩, 24), (⟨"FatherListsModel", "gathers", "(I)V"⟩, 24), (⟨"FatherListsModel", "number", "(I)I"⟩, 24)]
theorem lw_r2 : ∀ q ∈ lw_privs_2, lw_okq q := List.forall_mem_cons.mpr ⟨lw_p16, List.forall_mem_cons.mpr ⟨lw_p17, List.forall_mem_cons.mpr ⟨lw_p18, List.forall_mem_cons.mpr ⟨lw_p19, List.forall_mem_cons.mpr ⟨lw_p20, List.forall_mem_cons.mpr ⟨lw_p21, List.forall_mem_cons.mpr ⟨lw_p22, List.forall_mem_cons.mpr ⟨lw_p23, List.forall_mem_cons.mpr ⟨lw_p24, List.forall_mem_cons.mpr ⟨lw_p25, List.forall_mem_cons.mpr ⟨lw_p26, List.forall_mem_cons.mpr ⟨lw_p27, List.forall_mem_cons.mpr ⟨lw_p28, List.forall_mem_cons.mpr ⟨lw_p29, List.forall_mem_cons.mpr ⟨lw_p30, List.forall_mem_cons.mpr ⟨lw_p31, fun _ h => absurd h List.not_mem_nil⟩⟩⟩⟩⟩⟩⟩⟩⟩⟩⟩⟩⟩⟩⟩⟩
theorem lw_p32 : lw_okq (⟨"FatherListsModel", "counts", "()J"⟩, 24) := ⟨⟨by decide +kernel, by decide +kernel⟩, List.mem_of_getElem? (i := 719) (by decide +kernel), List.mem_of_getElem? (i := 955) (by decide +kernel), List.mem_of_getElem? (i := 956) (by decide +kernel)⟩
theorem lw_p33 : lw_okq (⟨"FatherListsModel", "dateAt", "(II)I"⟩, 24) := ⟨⟨by decide +kernel, by decide +kernel⟩, List.mem_of_getElem? (i := 719) (by decide +kernel), List.mem_of_getElem? (i := 980) (by decide +kernel), List.mem_of_getElem? (i := 981) (by decide +kernel)⟩
theorem lw_p34 : lw_okq (⟨"FatherListsModel", "isWithin", "(III)Z"⟩, 24) := ⟨⟨by decide +kernel, by decide +kernel⟩, List.mem_of_getElem? (i := 719) (by decide +kernel), List.mem_of_getElem? (i := 984) (by decide +kernel), List.mem_of_getElem? (i := 985) (by decide +kernel)⟩
theorem lw_p35 : lw_okq (⟨"FatherListsModel", "together", "()I"⟩, 24) := ⟨⟨by decide +kernel, by decide +kernel⟩, List.mem_of_getElem? (i := 719) (by decide +kernel), List.mem_of_getElem? (i := 1009) (by decide +kernel), List.mem_of_getElem? (i := 1010) (by decide +kernel)⟩
def lw_privs_3 : List (MethodName × Nat) := [(⟨"FatherListsModel", "counts", "()J"⟩, 24), (⟨"FatherListsModel", "dateAt", "(II)I"⟩, 24), (⟨"FatherListsModel", "isWithin", "(III)Z"⟩, 24), (⟨"FatherListsModel", "together", "()I"⟩, 24)]
theorem lw_r3 : ∀ q ∈ lw_privs_3, lw_okq q := List.forall_mem_cons.mpr ⟨lw_p32, List.forall_mem_cons.mpr ⟨lw_p33, List.forall_mem_cons.mpr ⟨lw_p34, List.forall_mem_cons.mpr ⟨lw_p35, fun _ h => absurd h List.not_mem_nil⟩⟩⟩⟩
def lw_privs : List (MethodName × Nat) := lw_privs_1 ++ (lw_privs_2 ++ (lw_privs_3))
def lw_tbl : List Cond := k2_sels lw_privs ++ tables_1
theorem lw_privs_ok : ∀ q ∈ lw_privs, lw_okq q := by
  show ∀ q ∈ lw_privs_1 ++ (lw_privs_2 ++ (lw_privs_3)), lw_okq q
  exact List.forall_mem_append.mpr ⟨lw_r1, List.forall_mem_append.mpr ⟨lw_r2, lw_r3⟩⟩
end
section
theorem goodIn_r {big : List Cond} (ws : List Cond) (ps : List Nat) (hp : ws = ps.filterMap (fun i => big[i]?)) (h : ws.all goodWord = true) : GoodIn big ws := by
  intro w hw
  have h1 := List.all_eq_true.mp h w hw
  rw [hp] at hw
  obtain ⟨i, -, hi⟩ := List.mem_filterMap.mp hw
  have hm : w ∈ big := by first | exact List.mem_of_getElem? hi | exact List.getElem?_mem hi
  exact ⟨hm, good_of_word h1⟩
theorem goodIn_app {big a b : List Cond} (ha : GoodIn big a) (hb : GoodIn big b) : GoodIn big (a ++ b) := fun w h => (List.mem_append.mp h).elim (ha w) (hb w)
theorem goodIn_ca {big a b : List Cond} {c : Cond} (ha : GoodIn big (c :: a)) (hb : GoodIn big b) : GoodIn big (c :: (a ++ b)) := fun w h => (List.mem_cons.mp h).elim (fun e => ha w (List.mem_cons.mpr (Or.inl e))) (fun h => (List.mem_append.mp h).elim (fun h => ha w (List.mem_cons.mpr (Or.inr h))) (hb w))
theorem goodIn_sub {big ws : List Cond} (hm : ∀ w ∈ ws, w ∈ big) (h : ws.all goodWord = true) : GoodIn big ws := fun w hw => ⟨hm w hw, good_of_word (List.all_eq_true.mp h w hw)⟩

def RX0 : String := "FatherLists$Houses"
def TX0 : u_T := fun k => match k with
  | 0 => ("FatherLists$Houses", "strengths", "[I", true)
  | _ => ("FatherLists$Houses", "claims", "[I", true)
def tyX0 : Nat → FieldType := fun k => match k with
  | 0 => .array .int
  | _ => .array .int
abbrev wsX00 : List Cond := u_ws RX0 TX0 2
theorem nmX0 : ∀ a, a < 2 → ∀ b, b < 2 → a ≠ b → (TX0 a).2.1 ≠ (TX0 b).2.1 := by decide +kernel
theorem tyX0_ok : ∀ k, k < 2 → parseFieldDescriptor (TX0 k).2.2.1 = some (tyX0 k) := by decide +kernel
abbrev cX0_init : ByteArray := prog_2_method_1_code
def yX0_init : MethodName := ⟨RX0, "<init>", "()V"⟩
abbrev cX0_become : ByteArray := prog_2_method_2_code
def yX0_become : MethodName := ⟨RX0, "become", "(LFatherLists$Houses;)V"⟩
abbrev cX0_heldOf : ByteArray := prog_2_method_3_code
def yX0_heldOf : MethodName := ⟨RX0, "heldOf", "(I)I"⟩
abbrev cX0_countBy : ByteArray := prog_2_method_4_code
def yX0_countBy : MethodName := ⟨RX0, "countBy", "(I)I"⟩
abbrev cX0_hasWeakAlone : ByteArray := prog_2_method_5_code
def yX0_hasWeakAlone : MethodName := ⟨RX0, "hasWeakAlone", "(II)Z"⟩
def RX1 : String := "FatherLists$Law"
def TX1 : u_T := fun k => match k with
  | 0 => ("FatherLists$Law", "numbers", "[I", true)
  | _ => ("FatherLists$Law", "draft", "[I", true)
def tyX1 : Nat → FieldType := fun k => match k with
  | 0 => .array .int
  | _ => .array .int
abbrev wsX10 : List Cond := u_ws RX1 TX1 2
theorem nmX1 : ∀ a, a < 2 → ∀ b, b < 2 → a ≠ b → (TX1 a).2.1 ≠ (TX1 b).2.1 := by decide +kernel
theorem tyX1_ok : ∀ k, k < 2 → parseFieldDescriptor (TX1 k).2.2.1 = some (tyX1 k) := by decide +kernel
abbrev cX1_init : ByteArray := prog_3_method_1_code
def yX1_init : MethodName := ⟨RX1, "<init>", "()V"⟩
abbrev cX1_read : ByteArray := prog_3_method_2_code
def yX1_read : MethodName := ⟨RX1, "read", "(LFatherLists$Text;)I"⟩
abbrev cX1_itemAt : ByteArray := prog_3_method_3_code
def yX1_itemAt : MethodName := ⟨RX1, "itemAt", "(LFatherLists$Text;I)I"⟩
abbrev cX1_wordOf : ByteArray := prog_3_method_4_code
def yX1_wordOf : MethodName := ⟨RX1, "wordOf", "(I)Ljava/lang/String;"⟩
def RX2 : String := "FatherLists$Records"
def TX2 : u_T := fun k => match k with
  | 0 => ("FatherLists$Records", "lists", "[LFatherLists$Row;", true)
  | 1 => ("FatherLists$Records", "houses", "LFatherLists$Houses;", true)
  | 2 => ("FatherLists$Records", "dates", "[I", true)
  | _ => ("FatherLists$Records", "isKept", "Z", false)
def tyX2 : Nat → FieldType := fun k => match k with
  | 0 => .array (.object "FatherLists$Row")
  | 1 => .object "FatherLists$Houses"
  | 2 => .array .int
  | _ => .boolean
abbrev wsX20 : List Cond := u_ws RX2 TX2 4
theorem nmX2 : ∀ a, a < 4 → ∀ b, b < 4 → a ≠ b → (TX2 a).2.1 ≠ (TX2 b).2.1 := by decide +kernel
theorem tyX2_ok : ∀ k, k < 4 → parseFieldDescriptor (TX2 k).2.2.1 = some (tyX2 k) := by decide +kernel
abbrev cX2_init : ByteArray := prog_4_method_1_code
def yX2_init : MethodName := ⟨RX2, "<init>", "()V"⟩
abbrev cX2_become : ByteArray := prog_4_method_2_code
def yX2_become : MethodName := ⟨RX2, "become", "(LFatherLists$Records;)V"⟩
abbrev cX2_countNames : ByteArray := prog_4_method_3_code
def yX2_countNames : MethodName := ⟨RX2, "countNames", "()I"⟩
def RX3 : String := "FatherLists$Row"
def TX3 : u_T := fun k => match k with
  | 0 => ("FatherLists$Row", "names", "[I", true)
  | _ => ("FatherLists$Row", "size", "I", false)
def tyX3 : Nat → FieldType := fun k => match k with
  | 0 => .array .int
  | _ => .int
abbrev wsX30 : List Cond := u_ws RX3 TX3 2
theorem nmX3 : ∀ a, a < 2 → ∀ b, b < 2 → a ≠ b → (TX3 a).2.1 ≠ (TX3 b).2.1 := by decide +kernel
theorem tyX3_ok : ∀ k, k < 2 → parseFieldDescriptor (TX3 k).2.2.1 = some (tyX3 k) := by decide +kernel
abbrev cX3_init : ByteArray := prog_5_method_1_code
def yX3_init : MethodName := ⟨RX3, "<init>", "(I)V"⟩
abbrev cX3_has : ByteArray := prog_5_method_2_code
def yX3_has : MethodName := ⟨RX3, "has", "(I)Z"⟩
abbrev cX3_nameAt : ByteArray := prog_5_method_3_code
def yX3_nameAt : MethodName := ⟨RX3, "nameAt", "(I)I"⟩
abbrev cX3_placeOf : ByteArray := prog_5_method_4_code
def yX3_placeOf : MethodName := ⟨RX3, "placeOf", "(I)I"⟩
abbrev cX3_placeOrEnd : ByteArray := prog_5_method_5_code
def yX3_placeOrEnd : MethodName := ⟨RX3, "placeOrEnd", "(I)I"⟩
abbrev cX3_bits : ByteArray := prog_5_method_6_code
def yX3_bits : MethodName := ⟨RX3, "bits", "()I"⟩
abbrev cX3_read : ByteArray := prog_5_method_7_code
def yX3_read : MethodName := ⟨RX3, "read", "(LFatherLists$Text;)V"⟩
abbrev cX3_become : ByteArray := prog_5_method_8_code
def yX3_become : MethodName := ⟨RX3, "become", "(LFatherLists$Row;)V"⟩
abbrev cX3_insert : ByteArray := prog_5_method_9_code
def yX3_insert : MethodName := ⟨RX3, "insert", "(II)V"⟩
abbrev cX3_remove : ByteArray := prog_5_method_10_code
def yX3_remove : MethodName := ⟨RX3, "remove", "(I)V"⟩
abbrev cX3_swapWithAhead : ByteArray := prog_5_method_11_code
def yX3_swapWithAhead : MethodName := ⟨RX3, "swapWithAhead", "(I)V"⟩
def RX4 : String := "FatherLists$Saying"
def TX4 : u_T := fun k => match k with
  | 0 => ("FatherLists$Saying", "row", "LFatherLists$Row;", true)
  | 1 => ("FatherLists$Saying", "houses", "LFatherLists$Houses;", true)
  | 2 => ("FatherLists$Saying", "taken", "I", false)
  | 3 => ("FatherLists$Saying", "moved", "I", false)
  | _ => ("FatherLists$Saying", "dropped", "I", false)
def tyX4 : Nat → FieldType := fun k => match k with
  | 0 => .object "FatherLists$Row"
  | 1 => .object "FatherLists$Houses"
  | 2 => .int
  | 3 => .int
  | _ => .int
abbrev wsX40 : List Cond := u_ws RX4 TX4 5
theorem nmX4 : ∀ a, a < 5 → ∀ b, b < 5 → a ≠ b → (TX4 a).2.1 ≠ (TX4 b).2.1 := by decide +kernel
theorem tyX4_ok : ∀ k, k < 5 → parseFieldDescriptor (TX4 k).2.2.1 = some (tyX4 k) := by decide +kernel
abbrev cX4_init : ByteArray := prog_6_method_1_code
def yX4_init : MethodName := ⟨RX4, "<init>", "()V"⟩
abbrev cX4_begin : ByteArray := prog_6_method_2_code
def yX4_begin : MethodName := ⟨RX4, "begin", "(LFatherLists$Row;LFatherLists$Houses;)V"⟩
abbrev cX4_speak : ByteArray := prog_6_method_3_code
def yX4_speak : MethodName := ⟨RX4, "speak", "(LFatherLists$Law;I)V"⟩
abbrev cX4_changed : ByteArray := prog_6_method_4_code
def yX4_changed : MethodName := ⟨RX4, "changed", "(I)I"⟩
abbrev cX4_takeStrong : ByteArray := prog_6_method_5_code
def yX4_takeStrong : MethodName := ⟨RX4, "takeStrong", "(III)V"⟩
abbrev cX4_moveStrong : ByteArray := prog_6_method_6_code
def yX4_moveStrong : MethodName := ⟨RX4, "moveStrong", "(II)V"⟩
abbrev cX4_dropWeak : ByteArray := prog_6_method_7_code
def yX4_dropWeak : MethodName := ⟨RX4, "dropWeak", "(II)V"⟩
abbrev cX4_dropBeyond : ByteArray := prog_6_method_8_code
def yX4_dropBeyond : MethodName := ⟨RX4, "dropBeyond", "(II)V"⟩
abbrev cX4_leastHeld : ByteArray := prog_6_method_9_code
def yX4_leastHeld : MethodName := ⟨RX4, "leastHeld", "(I)I"⟩
abbrev cX4_drop : ByteArray := prog_6_method_10_code
def yX4_drop : MethodName := ⟨RX4, "drop", "(I)V"⟩
def RX5 : String := "FatherLists$SideBySide"
def TX5 : u_T := fun k => match k with
  | 0 => ("FatherLists$SideBySide", "before", "[I", true)
  | 1 => ("FatherLists$SideBySide", "needed", "[I", true)
  | 2 => ("FatherLists$SideBySide", "ways", "[J", true)
  | _ => ("FatherLists$SideBySide", "all", "I", false)
def tyX5 : Nat → FieldType := fun k => match k with
  | 0 => .array .int
  | 1 => .array .int
  | 2 => .array .long
  | _ => .int
abbrev wsX50 : List Cond := u_ws RX5 TX5 4
theorem nmX5 : ∀ a, a < 4 → ∀ b, b < 4 → a ≠ b → (TX5 a).2.1 ≠ (TX5 b).2.1 := by decide +kernel
theorem tyX5_ok : ∀ k, k < 4 → parseFieldDescriptor (TX5 k).2.2.1 = some (tyX5 k) := by decide +kernel
abbrev cX5_init : ByteArray := prog_7_method_1_code
def yX5_init : MethodName := ⟨RX5, "<init>", "()V"⟩
abbrev cX5_look : ByteArray := prog_7_method_2_code
def yX5_look : MethodName := ⟨RX5, "look", "(LFatherLists$Records;I)V"⟩
abbrev cX5_lookAt : ByteArray := prog_7_method_3_code
def yX5_lookAt : MethodName := ⟨RX5, "lookAt", "(LFatherLists$Row;)V"⟩
abbrev cX5_areTooMany : ByteArray := prog_7_method_4_code
def yX5_areTooMany : MethodName := ⟨RX5, "areTooMany", "()Z"⟩
abbrev cX5_haveOrder : ByteArray := prog_7_method_5_code
def yX5_haveOrder : MethodName := ⟨RX5, "haveOrder", "()Z"⟩
abbrev cX5_withAllThatCanBeNext : ByteArray := prog_7_method_6_code
def yX5_withAllThatCanBeNext : MethodName := ⟨RX5, "withAllThatCanBeNext", "(I)I"⟩
abbrev cX5_allAheadOf : ByteArray := prog_7_method_7_code
def yX5_allAheadOf : MethodName := ⟨RX5, "allAheadOf", "(I)I"⟩
abbrev cX5_withAllAhead : ByteArray := prog_7_method_8_code
def yX5_withAllAhead : MethodName := ⟨RX5, "withAllAhead", "(I)I"⟩
abbrev cX5_fewestWithoutOrder : ByteArray := prog_7_method_9_code
def yX5_fewestWithoutOrder : MethodName := ⟨RX5, "fewestWithoutOrder", "(LFatherLists$Records;I)I"⟩
abbrev cX5_countOrders : ByteArray := prog_7_method_10_code
def yX5_countOrders : MethodName := ⟨RX5, "countOrders", "()J"⟩
abbrev cX5_goOnFrom : ByteArray := prog_7_method_11_code
def yX5_goOnFrom : MethodName := ⟨RX5, "goOnFrom", "(II)V"⟩
abbrev cX5_fillNeeded : ByteArray := prog_7_method_12_code
def yX5_fillNeeded : MethodName := ⟨RX5, "fillNeeded", "()I"⟩
abbrev cX5_withoutGaps : ByteArray := prog_7_method_13_code
def yX5_withoutGaps : MethodName := ⟨RX5, "withoutGaps", "(I)I"⟩
def RX6 : String := "FatherLists$Text"
def TX6 : u_T := fun k => match k with
  | 0 => ("FatherLists$Text", "bytes", "[I", true)
  | _ => ("FatherLists$Text", "size", "I", false)
def tyX6 : Nat → FieldType := fun k => match k with
  | 0 => .array .int
  | _ => .int
abbrev wsX60 : List Cond := u_ws RX6 TX6 2
theorem nmX6 : ∀ a, a < 2 → ∀ b, b < 2 → a ≠ b → (TX6 a).2.1 ≠ (TX6 b).2.1 := by decide +kernel
theorem tyX6_ok : ∀ k, k < 2 → parseFieldDescriptor (TX6 k).2.2.1 = some (tyX6 k) := by decide +kernel
abbrev cX6_init : ByteArray := prog_8_method_1_code
def yX6_init : MethodName := ⟨RX6, "<init>", "()V"⟩
abbrev cX6_add : ByteArray := prog_8_method_2_code
def yX6_add : MethodName := ⟨RX6, "add", "(I)V"⟩
abbrev cX6_empty : ByteArray := prog_8_method_3_code
def yX6_empty : MethodName := ⟨RX6, "empty", "()I"⟩
abbrev cX6_byteAt : ByteArray := prog_8_method_4_code
def yX6_byteAt : MethodName := ⟨RX6, "byteAt", "(I)I"⟩
abbrev cX6_afterBlanks : ByteArray := prog_8_method_5_code
def yX6_afterBlanks : MethodName := ⟨RX6, "afterBlanks", "(I)I"⟩
abbrev cX6_afterLetters : ByteArray := prog_8_method_6_code
def yX6_afterLetters : MethodName := ⟨RX6, "afterLetters", "(I)I"⟩
abbrev cX6_afterDigits : ByteArray := prog_8_method_7_code
def yX6_afterDigits : MethodName := ⟨RX6, "afterDigits", "(I)I"⟩
abbrev cX6_numberAt : ByteArray := prog_8_method_8_code
def yX6_numberAt : MethodName := ⟨RX6, "numberAt", "(I)I"⟩
abbrev cX6_isWordAt : ByteArray := prog_8_method_9_code
def yX6_isWordAt : MethodName := ⟨RX6, "isWordAt", "(ILjava/lang/String;)Z"⟩
abbrev cX6_faultAsList : ByteArray := prog_8_method_10_code
def yX6_faultAsList : MethodName := ⟨RX6, "faultAsList", "()I"⟩
def RX7 : String := "FatherLists"
def TX7 : u_T := fun k => match k with
  | 0 => ("FatherLists", "text", "LFatherLists$Text;", true)
  | 1 => ("FatherLists", "ruling", "LFatherLists$Law;", true)
  | 2 => ("FatherLists", "now", "LFatherLists$Records;", true)
  | 3 => ("FatherLists", "firstImage", "LFatherLists$Records;", true)
  | 4 => ("FatherLists", "secondImage", "LFatherLists$Records;", true)
  | 5 => ("FatherLists", "latest", "LFatherLists$Saying;", true)
  | 6 => ("FatherLists", "supposed", "LFatherLists$Saying;", true)
  | 7 => ("FatherLists", "sides", "LFatherLists$SideBySide;", true)
  | 8 => ("FatherLists", "longestTo", "[I", true)
  | 9 => ("FatherLists", "low", "I", false)
  | 10 => ("FatherLists", "high", "I", false)
  | _ => ("FatherLists", "asked", "J", false)
def tyX7 : Nat → FieldType := fun k => match k with
  | 0 => .object "FatherLists$Text"
  | 1 => .object "FatherLists$Law"
  | 2 => .object "FatherLists$Records"
  | 3 => .object "FatherLists$Records"
  | 4 => .object "FatherLists$Records"
  | 5 => .object "FatherLists$Saying"
  | 6 => .object "FatherLists$Saying"
  | 7 => .object "FatherLists$SideBySide"
  | 8 => .array .int
  | 9 => .int
  | 10 => .int
  | _ => .long
abbrev wsX70 : List Cond := u_ws RX7 TX7 12
theorem nmX7 : ∀ a, a < 12 → ∀ b, b < 12 → a ≠ b → (TX7 a).2.1 ≠ (TX7 b).2.1 := by decide +kernel
theorem tyX7_ok : ∀ k, k < 12 → parseFieldDescriptor (TX7 k).2.2.1 = some (tyX7 k) := by decide +kernel
abbrev cX7_init : ByteArray := prog_1_method_1_code
def yX7_init : MethodName := ⟨RX7, "<init>", "()V"⟩
abbrev cX7_type : ByteArray := prog_1_method_2_code
def yX7_type : MethodName := ⟨RX7, "type", "(JI)I"⟩
abbrev cX7_clear : ByteArray := prog_1_method_3_code
def yX7_clear : MethodName := ⟨RX7, "clear", "()I"⟩
abbrev cX7_law : ByteArray := prog_1_method_4_code
def yX7_law : MethodName := ⟨RX7, "law", "()I"⟩
abbrev cX7_list : ByteArray := prog_1_method_5_code
def yX7_list : MethodName := ⟨RX7, "list", "(I)I"⟩
abbrev cX7_told : ByteArray := prog_1_method_6_code
def yX7_told : MethodName := ⟨RX7, "told", "(I)I"⟩
abbrev cX7_name : ByteArray := prog_1_method_7_code
def yX7_name : MethodName := ⟨RX7, "name", "(II)I"⟩
abbrev cX7_place : ByteArray := prog_1_method_8_code
def yX7_place : MethodName := ⟨RX7, "place", "(II)I"⟩
abbrev cX7_house : ByteArray := prog_1_method_9_code
def yX7_house : MethodName := ⟨RX7, "house", "(III)I"⟩
abbrev cX7_held : ByteArray := prog_1_method_10_code
def yX7_held : MethodName := ⟨RX7, "held", "(I)I"⟩
abbrev cX7_say : ByteArray := prog_1_method_11_code
def yX7_say : MethodName := ⟨RX7, "say", "(II)I"⟩
abbrev cX7_said : ByteArray := prog_1_method_12_code
def yX7_said : MethodName := ⟨RX7, "said", "(I)I"⟩
abbrev cX7_foretold : ByteArray := prog_1_method_13_code
def yX7_foretold : MethodName := ⟨RX7, "foretold", "(IIII)I"⟩
abbrev cX7_both : ByteArray := prog_1_method_14_code
def yX7_both : MethodName := ⟨RX7, "both", "(III)I"⟩
abbrev cX7_orders : ByteArray := prog_1_method_15_code
def yX7_orders : MethodName := ⟨RX7, "orders", "(I)J"⟩
abbrev cX7_quarrel : ByteArray := prog_1_method_16_code
def yX7_quarrel : MethodName := ⟨RX7, "quarrel", "(II)I"⟩
abbrev cX7_ahead : ByteArray := prog_1_method_17_code
def yX7_ahead : MethodName := ⟨RX7, "ahead", "(III)I"⟩
abbrev cX7_date : ByteArray := prog_1_method_18_code
def yX7_date : MethodName := ⟨RX7, "date", "(II)I"⟩
abbrev cX7_link : ByteArray := prog_1_method_19_code
def yX7_link : MethodName := ⟨RX7, "link", "(II)I"⟩
abbrev cX7_span : ByteArray := prog_1_method_20_code
def yX7_span : MethodName := ⟨RX7, "span", "(III)I"⟩
abbrev cX7_lost : ByteArray := prog_1_method_21_code
def yX7_lost : MethodName := ⟨RX7, "lost", "(I)I"⟩
abbrev cX7_court : ByteArray := prog_1_method_22_code
def yX7_court : MethodName := ⟨RX7, "court", "(III)I"⟩
abbrev cX7_worth : ByteArray := prog_1_method_23_code
def yX7_worth : MethodName := ⟨RX7, "worth", "(II)I"⟩
abbrev cX7_keep : ByteArray := prog_1_method_24_code
def yX7_keep : MethodName := ⟨RX7, "keep", "(I)I"⟩
abbrev cX7_back : ByteArray := prog_1_method_25_code
def yX7_back : MethodName := ⟨RX7, "back", "(I)I"⟩
abbrev cX7_count : ByteArray := prog_1_method_26_code
def yX7_count : MethodName := ⟨RX7, "count", "(I)I"⟩
abbrev cX7_trace : ByteArray := prog_1_method_27_code
def yX7_trace : MethodName := ⟨RX7, "trace", "()J"⟩
abbrev cX7_isList : ByteArray := prog_1_method_28_code
def yX7_isList : MethodName := ⟨RX7, "isList", "(I)Z"⟩
abbrev cX7_isSet : ByteArray := prog_1_method_29_code
def yX7_isSet : MethodName := ⟨RX7, "isSet", "(I)Z"⟩
abbrev cX7_isName : ByteArray := prog_1_method_30_code
def yX7_isName : MethodName := ⟨RX7, "isName", "(I)Z"⟩
abbrev cX7_isNameOrNone : ByteArray := prog_1_method_31_code
def yX7_isNameOrNone : MethodName := ⟨RX7, "isNameOrNone", "(I)Z"⟩
abbrev cX7_isHouse : ByteArray := prog_1_method_32_code
def yX7_isHouse : MethodName := ⟨RX7, "isHouse", "(I)Z"⟩
abbrev cX7_isStrength : ByteArray := prog_1_method_33_code
def yX7_isStrength : MethodName := ⟨RX7, "isStrength", "(I)Z"⟩
abbrev cX7_isIn : ByteArray := prog_1_method_34_code
def yX7_isIn : MethodName := ⟨RX7, "isIn", "(II)Z"⟩
abbrev cX7_isLetter : ByteArray := prog_1_method_35_code
def yX7_isLetter : MethodName := ⟨RX7, "isLetter", "(I)Z"⟩
abbrev cX7_isDigit : ByteArray := prog_1_method_36_code
def yX7_isDigit : MethodName := ⟨RX7, "isDigit", "(I)Z"⟩
abbrev cX7_exchange : ByteArray := prog_1_method_37_code
def yX7_exchange : MethodName := ⟨RX7, "exchange", "([III)I"⟩
abbrev cX7_countThere : ByteArray := prog_1_method_38_code
def yX7_countThere : MethodName := ⟨RX7, "countThere", "([I)I"⟩
abbrev cX7_sameOrder : ByteArray := prog_1_method_39_code
def yX7_sameOrder : MethodName := ⟨RX7, "sameOrder", "(LFatherLists$Row;LFatherLists$Row;)I"⟩
abbrev cX7_longestAhead : ByteArray := prog_1_method_40_code
def yX7_longestAhead : MethodName := ⟨RX7, "longestAhead", "(LFatherLists$Row;LFatherLists$Row;II)I"⟩
abbrev cX7_dateAt : ByteArray := prog_1_method_41_code
def yX7_dateAt : MethodName := ⟨RX7, "dateAt", "(LFatherLists$Row;I)I"⟩
abbrev cX7_isAnyDated : ByteArray := prog_1_method_42_code
def yX7_isAnyDated : MethodName := ⟨RX7, "isAnyDated", "(LFatherLists$Row;)Z"⟩
abbrev cX7_doDatesFit : ByteArray := prog_1_method_43_code
def yX7_doDatesFit : MethodName := ⟨RX7, "doDatesFit", "(LFatherLists$Row;)Z"⟩
abbrev cX7_earliest : ByteArray := prog_1_method_44_code
def yX7_earliest : MethodName := ⟨RX7, "earliest", "(LFatherLists$Row;I)I"⟩
abbrev cX7_latestYear : ByteArray := prog_1_method_45_code
def yX7_latestYear : MethodName := ⟨RX7, "latestYear", "(LFatherLists$Row;I)I"⟩
abbrev cX7_lostBetween : ByteArray := prog_1_method_46_code
def yX7_lostBetween : MethodName := ⟨RX7, "lostBetween", "(II)I"⟩
abbrev cX7_worthAsName : ByteArray := prog_1_method_47_code
def yX7_worthAsName : MethodName := ⟨RX7, "worthAsName", "(I)I"⟩
abbrev cX7_worthAsClaimed : ByteArray := prog_1_method_48_code
def yX7_worthAsClaimed : MethodName := ⟨RX7, "worthAsClaimed", "(I)I"⟩
abbrev cX7_worthAsJoined : ByteArray := prog_1_method_49_code
def yX7_worthAsJoined : MethodName := ⟨RX7, "worthAsJoined", "(I)I"⟩
abbrev cX7_worthAsStood : ByteArray := prog_1_method_50_code
def yX7_worthAsStood : MethodName := ⟨RX7, "worthAsStood", "(I)I"⟩
abbrev cX7_worthAsDated : ByteArray := prog_1_method_51_code
def yX7_worthAsDated : MethodName := ⟨RX7, "worthAsDated", "(I)I"⟩
abbrev cX7_worthAsFar : ByteArray := prog_1_method_52_code
def yX7_worthAsFar : MethodName := ⟨RX7, "worthAsFar", "(I)I"⟩
def RX8 : String := "FatherListsModel"
def TX8 : u_T := fun k => match k with
  | 0 => ("FatherListsModel", "thrown", "I", false)
  | 1 => ("FatherListsModel", "trace", "J", false)
  | 2 => ("FatherListsModel", "s", "[I", true)
  | 3 => ("FatherListsModel", "kept", "[I", true)
  | 4 => ("FatherListsModel", "isKept", "[Z", true)
  | 5 => ("FatherListsModel", "laws", "[I", true)
  | 6 => ("FatherListsModel", "text", "[I", true)
  | 7 => ("FatherListsModel", "typed", "I", false)
  | 8 => ("FatherListsModel", "next", "I", false)
  | 9 => ("FatherListsModel", "token", "I", false)
  | 10 => ("FatherListsModel", "place", "I", false)
  | 11 => ("FatherListsModel", "value", "I", false)
  | 12 => ("FatherListsModel", "fault", "I", false)
  | 13 => ("FatherListsModel", "low", "I", false)
  | 14 => ("FatherListsModel", "high", "I", false)
  | 15 => ("FatherListsModel", "row", "[I", true)
  | 16 => ("FatherListsModel", "size", "I", false)
  | 17 => ("FatherListsModel", "changed", "[I", true)
  | 18 => ("FatherListsModel", "told", "[I", true)
  | 19 => ("FatherListsModel", "names", "[I", true)
  | 20 => ("FatherListsModel", "nameMany", "I", false)
  | 21 => ("FatherListsModel", "before", "[I", true)
  | 22 => ("FatherListsModel", "ways", "[J", true)
  | _ => ("FatherListsModel", "same", "[I", true)
def tyX8 : Nat → FieldType := fun k => match k with
  | 0 => .int
  | 1 => .long
  | 2 => .array .int
  | 3 => .array .int
  | 4 => .array .boolean
  | 5 => .array .int
  | 6 => .array .int
  | 7 => .int
  | 8 => .int
  | 9 => .int
  | 10 => .int
  | 11 => .int
  | 12 => .int
  | 13 => .int
  | 14 => .int
  | 15 => .array .int
  | 16 => .int
  | 17 => .array .int
  | 18 => .array .int
  | 19 => .array .int
  | 20 => .int
  | 21 => .array .int
  | 22 => .array .long
  | _ => .array .int
abbrev wsX80 : List Cond := u_ws RX8 TX8 24
theorem nmX8 : ∀ a, a < 24 → ∀ b, b < 24 → a ≠ b → (TX8 a).2.1 ≠ (TX8 b).2.1 := by decide +kernel
theorem tyX8_ok : ∀ k, k < 24 → parseFieldDescriptor (TX8 k).2.2.1 = some (tyX8 k) := by decide +kernel
abbrev cX8_init : ByteArray := prog_10_method_1_code
def yX8_init : MethodName := ⟨RX8, "<init>", "()V"⟩
abbrev cX8_in : ByteArray := prog_10_method_3_code
def yX8_in : MethodName := ⟨RX8, "in", "(III)Z"⟩
abbrev cX8_isList : ByteArray := prog_10_method_4_code
def yX8_isList : MethodName := ⟨RX8, "isList", "(I)Z"⟩
abbrev cX8_isName : ByteArray := prog_10_method_5_code
def yX8_isName : MethodName := ⟨RX8, "isName", "(I)Z"⟩
abbrev cX8_sizeOf : ByteArray := prog_10_method_6_code
def yX8_sizeOf : MethodName := ⟨RX8, "sizeOf", "(I)I"⟩
abbrev cX8_at : ByteArray := prog_10_method_7_code
def yX8_at : MethodName := ⟨RX8, "at", "(II)I"⟩
abbrev cX8_placeOf : ByteArray := prog_10_method_8_code
def yX8_placeOf : MethodName := ⟨RX8, "placeOf", "(II)I"⟩
abbrev cX8_type : ByteArray := prog_10_method_9_code
def yX8_type : MethodName := ⟨RX8, "type", "(JI)I"⟩
abbrev cX8_clear : ByteArray := prog_10_method_10_code
def yX8_clear : MethodName := ⟨RX8, "clear", "()I"⟩
abbrev cX8_byteAt : ByteArray := prog_10_method_11_code
def yX8_byteAt : MethodName := ⟨RX8, "byteAt", "(I)I"⟩
abbrev cX8_begins : ByteArray := prog_10_method_12_code
def yX8_begins : MethodName := ⟨RX8, "begins", "()V"⟩
abbrev cX8_lays : ByteArray := prog_10_method_13_code
def yX8_lays : MethodName := ⟨RX8, "lays", "()V"⟩
abbrev cX8_add : ByteArray := prog_10_method_14_code
def yX8_add : MethodName := ⟨RX8, "add", "(JI)J"⟩
abbrev cX8_word : ByteArray := prog_10_method_15_code
def yX8_word : MethodName := ⟨RX8, "word", "(IIIII)J"⟩
abbrev cX8_wordOf : ByteArray := prog_10_method_16_code
def yX8_wordOf : MethodName := ⟨RX8, "wordOf", "(J)I"⟩
abbrev cX8_advances : ByteArray := prog_10_method_17_code
def yX8_advances : MethodName := ⟨RX8, "advances", "()V"⟩
abbrev cX8_isWell : ByteArray := prog_10_method_18_code
def yX8_isWell : MethodName := ⟨RX8, "isWell", "()Z"⟩
abbrev cX8_takes : ByteArray := prog_10_method_19_code
def yX8_takes : MethodName := ⟨RX8, "takes", "(Z)I"⟩
abbrev cX8_law : ByteArray := prog_10_method_20_code
def yX8_law : MethodName := ⟨RX8, "law", "()I"⟩
abbrev cX8_list : ByteArray := prog_10_method_21_code
def yX8_list : MethodName := ⟨RX8, "list", "(I)I"⟩
abbrev cX8_told : ByteArray := prog_10_method_22_code
def yX8_told : MethodName := ⟨RX8, "told", "(I)I"⟩
abbrev cX8_name : ByteArray := prog_10_method_23_code
def yX8_name : MethodName := ⟨RX8, "name", "(II)I"⟩
abbrev cX8_place : ByteArray := prog_10_method_24_code
def yX8_place : MethodName := ⟨RX8, "place", "(II)I"⟩
abbrev cX8_house : ByteArray := prog_10_method_25_code
def yX8_house : MethodName := ⟨RX8, "house", "(III)I"⟩
abbrev cX8_heldOf : ByteArray := prog_10_method_26_code
def yX8_heldOf : MethodName := ⟨RX8, "heldOf", "(I)I"⟩
abbrev cX8_held : ByteArray := prog_10_method_27_code
def yX8_held : MethodName := ⟨RX8, "held", "(I)I"⟩
abbrev cX8_found : ByteArray := prog_10_method_28_code
def yX8_found : MethodName := ⟨RX8, "found", "(I)I"⟩
abbrev cX8_drops : ByteArray := prog_10_method_29_code
def yX8_drops : MethodName := ⟨RX8, "drops", "(I)V"⟩
abbrev cX8_isWeak : ByteArray := prog_10_method_30_code
def yX8_isWeak : MethodName := ⟨RX8, "isWeak", "(I)Z"⟩
abbrev cX8_says : ByteArray := prog_10_method_31_code
def yX8_says : MethodName := ⟨RX8, "says", "(II)V"⟩
abbrev cX8_say : ByteArray := prog_10_method_32_code
def yX8_say : MethodName := ⟨RX8, "say", "(II)I"⟩
abbrev cX8_said : ByteArray := prog_10_method_33_code
def yX8_said : MethodName := ⟨RX8, "said", "(I)I"⟩
abbrev cX8_foretold : ByteArray := prog_10_method_34_code
def yX8_foretold : MethodName := ⟨RX8, "foretold", "(IIII)I"⟩
abbrev cX8_setOf : ByteArray := prog_10_method_35_code
def yX8_setOf : MethodName := ⟨RX8, "setOf", "(I)I"⟩
abbrev cX8_ones : ByteArray := prog_10_method_36_code
def yX8_ones : MethodName := ⟨RX8, "ones", "(I)I"⟩
abbrev cX8_longest : ByteArray := prog_10_method_37_code
def yX8_longest : MethodName := ⟨RX8, "longest", "(II)I"⟩
abbrev cX8_both : ByteArray := prog_10_method_38_code
def yX8_both : MethodName := ⟨RX8, "both", "(III)I"⟩
abbrev cX8_number : ByteArray := prog_10_method_39_code
def yX8_number : MethodName := ⟨RX8, "number", "(I)I"⟩
abbrev cX8_gathers : ByteArray := prog_10_method_40_code
def yX8_gathers : MethodName := ⟨RX8, "gathers", "(I)V"⟩
abbrev cX8_counts : ByteArray := prog_10_method_41_code
def yX8_counts : MethodName := ⟨RX8, "counts", "()J"⟩
abbrev cX8_isSet : ByteArray := prog_10_method_42_code
def yX8_isSet : MethodName := ⟨RX8, "isSet", "(I)Z"⟩
abbrev cX8_orders : ByteArray := prog_10_method_43_code
def yX8_orders : MethodName := ⟨RX8, "orders", "(I)J"⟩
abbrev cX8_quarrel : ByteArray := prog_10_method_44_code
def yX8_quarrel : MethodName := ⟨RX8, "quarrel", "(II)I"⟩
abbrev cX8_ahead : ByteArray := prog_10_method_45_code
def yX8_ahead : MethodName := ⟨RX8, "ahead", "(III)I"⟩
abbrev cX8_date : ByteArray := prog_10_method_46_code
def yX8_date : MethodName := ⟨RX8, "date", "(II)I"⟩
abbrev cX8_link : ByteArray := prog_10_method_47_code
def yX8_link : MethodName := ⟨RX8, "link", "(II)I"⟩
abbrev cX8_dateAt : ByteArray := prog_10_method_48_code
def yX8_dateAt : MethodName := ⟨RX8, "dateAt", "(II)I"⟩
abbrev cX8_isWithin : ByteArray := prog_10_method_49_code
def yX8_isWithin : MethodName := ⟨RX8, "isWithin", "(III)Z"⟩
abbrev cX8_span : ByteArray := prog_10_method_50_code
def yX8_span : MethodName := ⟨RX8, "span", "(III)I"⟩
abbrev cX8_lost : ByteArray := prog_10_method_51_code
def yX8_lost : MethodName := ⟨RX8, "lost", "(I)I"⟩
abbrev cX8_court : ByteArray := prog_10_method_52_code
def yX8_court : MethodName := ⟨RX8, "court", "(III)I"⟩
abbrev cX8_worth : ByteArray := prog_10_method_53_code
def yX8_worth : MethodName := ⟨RX8, "worth", "(II)I"⟩
abbrev cX8_together : ByteArray := prog_10_method_54_code
def yX8_together : MethodName := ⟨RX8, "together", "()I"⟩
abbrev cX8_keep : ByteArray := prog_10_method_55_code
def yX8_keep : MethodName := ⟨RX8, "keep", "(I)I"⟩
abbrev cX8_back : ByteArray := prog_10_method_56_code
def yX8_back : MethodName := ⟨RX8, "back", "(I)I"⟩
abbrev cX8_count : ByteArray := prog_10_method_57_code
def yX8_count : MethodName := ⟨RX8, "count", "(I)I"⟩
abbrev cX8_trace : ByteArray := prog_10_method_58_code
def yX8_trace : MethodName := ⟨RX8, "trace", "()J"⟩
def RJx8e188 : String := "java/lang/Cloneable"
def TJx8e188 : u_T := fun k => match k with
  | _ => ("", "", "", false)
def tyJx8e188 : Nat → FieldType := fun k => match k with
  | _ => .int
abbrev wsJx8e1880 : List Cond := u_ws RJx8e188 TJx8e188 0
theorem nmJx8e188 : ∀ a, a < 0 → ∀ b, b < 0 → a ≠ b → (TJx8e188 a).2.1 ≠ (TJx8e188 b).2.1 := by decide +kernel
theorem tyJx8e188_ok : ∀ k, k < 0 → parseFieldDescriptor (TJx8e188 k).2.2.1 = some (tyJx8e188 k) := by decide +kernel
def RJ6 : String := "java/lang/Integer"
def TJ6 : u_T := fun k => match k with
  | _ => ("", "", "", false)
def tyJ6 : Nat → FieldType := fun k => match k with
  | _ => .int
abbrev wsJ60 : List Cond := u_ws RJ6 TJ6 0
theorem nmJ6 : ∀ a, a < 0 → ∀ b, b < 0 → a ≠ b → (TJ6 a).2.1 ≠ (TJ6 b).2.1 := by decide +kernel
theorem tyJ6_ok : ∀ k, k < 0 → parseFieldDescriptor (TJ6 k).2.2.1 = some (tyJ6 k) := by decide +kernel
abbrev cJ6_compare_7cf53 : ByteArray := prog_12_method_40_code
def yJ6_compare_7cf53 : MethodName := ⟨RJ6, "compare", "(II)I"⟩
abbrev cJ6_bitCount_0f7a4 : ByteArray := prog_12_method_49_code
def yJ6_bitCount_0f7a4 : MethodName := ⟨RJ6, "bitCount", "(I)I"⟩
def RJ9 : String := "java/lang/Math"
def TJ9 : u_T := fun k => match k with
  | _ => ("", "", "", false)
def tyJ9 : Nat → FieldType := fun k => match k with
  | _ => .int
abbrev wsJ90 : List Cond := u_ws RJ9 TJ9 0
theorem nmJ9 : ∀ a, a < 0 → ∀ b, b < 0 → a ≠ b → (TJ9 a).2.1 ≠ (TJ9 b).2.1 := by decide +kernel
theorem tyJ9_ok : ∀ k, k < 0 → parseFieldDescriptor (TJ9 k).2.2.1 = some (tyJ9 k) := by decide +kernel
abbrev cJ9_max_7cf53 : ByteArray := prog_13_method_65_code
def yJ9_max_7cf53 : MethodName := ⟨RJ9, "max", "(II)I"⟩
abbrev cJ9_min_7cf53 : ByteArray := prog_13_method_69_code
def yJ9_min_7cf53 : MethodName := ⟨RJ9, "min", "(II)I"⟩
def RJ0 : String := "java/lang/String"
def TJ0 : u_T := fun k => match k with
  | _ => ("", "", "", false)
def tyJ0 : Nat → FieldType := fun k => match k with
  | _ => .int
abbrev wsJ00 : List Cond := u_ws RJ0 TJ0 0
theorem nmJ0 : ∀ a, a < 0 → ∀ b, b < 0 → a ≠ b → (TJ0 a).2.1 ≠ (TJ0 b).2.1 := by decide +kernel
theorem tyJ0_ok : ∀ k, k < 0 → parseFieldDescriptor (TJ0 k).2.2.1 = some (tyJ0 k) := by decide +kernel
abbrev cJ0_length_8abf5 : ByteArray := prog_14_method_54_code
def yJ0_length_8abf5 : MethodName := ⟨RJ0, "length", "()I"⟩
abbrev cJ0_charAt_5068e : ByteArray := prog_14_method_56_code
def yJ0_charAt_5068e : MethodName := ⟨RJ0, "charAt", "(I)C"⟩
abbrev cJ0_coder_7d493 : ByteArray := prog_14_method_152_code
def yJ0_coder_7d493 : MethodName := ⟨RJ0, "coder", "()B"⟩
abbrev cJ0_isLatin1_aae02 : ByteArray := prog_14_method_154_code
def yJ0_isLatin1_aae02 : MethodName := ⟨RJ0, "isLatin1", "()Z"⟩
abbrev cJ0_checkIndex_df160 : ByteArray := prog_14_method_155_code
def yJ0_checkIndex_df160 : MethodName := ⟨RJ0, "checkIndex", "(II)V"⟩
def RJ1 : String := "java/lang/StringLatin1"
def TJ1 : u_T := fun k => match k with
  | _ => ("", "", "", false)
def tyJ1 : Nat → FieldType := fun k => match k with
  | _ => .int
abbrev wsJ10 : List Cond := u_ws RJ1 TJ1 0
theorem nmJ1 : ∀ a, a < 0 → ∀ b, b < 0 → a ≠ b → (TJ1 a).2.1 ≠ (TJ1 b).2.1 := by decide +kernel
theorem tyJ1_ok : ∀ k, k < 0 → parseFieldDescriptor (TJ1 k).2.2.1 = some (tyJ1 k) := by decide +kernel
abbrev cJ1_charAt_3b067 : ByteArray := prog_15_method_2_code
def yJ1_charAt_3b067 : MethodName := ⟨RJ1, "charAt", "([BI)C"⟩
def RJ2 : String := "java/lang/StringUTF16"
def TJ2 : u_T := fun k => match k with
  | _ => ("", "", "", false)
def tyJ2 : Nat → FieldType := fun k => match k with
  | _ => .int
abbrev wsJ20 : List Cond := u_ws RJ2 TJ2 0
theorem nmJ2 : ∀ a, a < 0 → ∀ b, b < 0 → a ≠ b → (TJ2 a).2.1 ≠ (TJ2 b).2.1 := by decide +kernel
theorem tyJ2_ok : ∀ k, k < 0 → parseFieldDescriptor (TJ2 k).2.2.1 = some (tyJ2 k) := by decide +kernel
abbrev cJ2_getChar_3b067 : ByteArray := prog_16_method_5_code
def yJ2_getChar_3b067 : MethodName := ⟨RJ2, "getChar", "([BI)C"⟩
abbrev cJ2_length_9d52b : ByteArray := prog_16_method_6_code
def yJ2_length_9d52b : MethodName := ⟨RJ2, "length", "([B)I"⟩
abbrev cJ2_charAt_3b067 : ByteArray := prog_16_method_83_code
def yJ2_charAt_3b067 : MethodName := ⟨RJ2, "charAt", "([BI)C"⟩
abbrev cJ2_checkIndex_2214a : ByteArray := prog_16_method_91_code
def yJ2_checkIndex_2214a : MethodName := ⟨RJ2, "checkIndex", "(I[B)V"⟩
def RJ10 : String := "java/lang/System"
def TJ10 : u_T := fun k => match k with
  | _ => ("", "", "", false)
def tyJ10 : Nat → FieldType := fun k => match k with
  | _ => .int
abbrev wsJ100 : List Cond := u_ws RJ10 TJ10 0
theorem nmJ10 : ∀ a, a < 0 → ∀ b, b < 0 → a ≠ b → (TJ10 a).2.1 ≠ (TJ10 b).2.1 := by decide +kernel
theorem tyJ10_ok : ∀ k, k < 0 → parseFieldDescriptor (TJ10 k).2.2.1 = some (tyJ10 k) := by decide +kernel
def RJ7 : String := "java/util/Arrays"
def TJ7 : u_T := fun k => match k with
  | _ => ("", "", "", false)
def tyJ7 : Nat → FieldType := fun k => match k with
  | _ => .int
abbrev wsJ70 : List Cond := u_ws RJ7 TJ7 0
theorem nmJ7 : ∀ a, a < 0 → ∀ b, b < 0 → a ≠ b → (TJ7 a).2.1 ≠ (TJ7 b).2.1 := by decide +kernel
theorem tyJ7_ok : ∀ k, k < 0 → parseFieldDescriptor (TJ7 k).2.2.1 = some (tyJ7 k) := by decide +kernel
abbrev cJ7_fill_53178 : ByteArray := prog_18_method_103_code
def yJ7_fill_53178 : MethodName := ⟨RJ7, "fill", "([II)V"⟩
def RJ3 : String := "jdk/internal/util/Preconditions"
def TJ3 : u_T := fun k => match k with
  | _ => ("", "", "", false)
def tyJ3 : Nat → FieldType := fun k => match k with
  | _ => .int
abbrev wsJ30 : List Cond := u_ws RJ3 TJ3 0
theorem nmJ3 : ∀ a, a < 0 → ∀ b, b < 0 → a ≠ b → (TJ3 a).2.1 ≠ (TJ3 b).2.1 := by decide +kernel
theorem tyJ3_ok : ∀ k, k < 0 → parseFieldDescriptor (TJ3 k).2.2.1 = some (tyJ3 k) := by decide +kernel
abbrev cJ3_checkIndex_8e157 : ByteArray := prog_19_method_11_code
def yJ3_checkIndex_8e157 : MethodName := ⟨RJ3, "checkIndex", "(IILjava/util/function/BiFunction;)I"⟩
def RL : String := "FatherListsLaw"
abbrev cL_law : ByteArray := code
def yL_law : MethodName := ⟨RL, "law", "([I)Z"⟩
end
section
theorem dX0_init_0 : decode cX0_init 0 = .ok (.aload_n 0, 1) := by decide +kernel
theorem dX0_init_1 : decode cX0_init 1 = .ok (.invokespecial 3, 3) := by decide +kernel
theorem dX0_init_4 : decode cX0_init 4 = .ok (.aload_n 0, 1) := by decide +kernel
theorem dX0_init_5 : decode cX0_init 5 = .ok (.bipush 6, 2) := by decide +kernel
theorem dX0_init_7 : decode cX0_init 7 = .ok (.newarray .int, 2) := by decide +kernel
theorem dX0_init_9 : decode cX0_init 9 = .ok (.putfield 9, 3) := by decide +kernel
theorem dX0_init_12 : decode cX0_init 12 = .ok (.aload_n 0, 1) := by decide +kernel
theorem dX0_init_13 : decode cX0_init 13 = .ok (.bipush 6, 2) := by decide +kernel
theorem dX0_init_15 : decode cX0_init 15 = .ok (.newarray .int, 2) := by decide +kernel
theorem dX0_init_17 : decode cX0_init 17 = .ok (.putfield 15, 3) := by decide +kernel
theorem dX0_init_20 : decode cX0_init 20 = .ok (.aload_n 0, 1) := by decide +kernel
theorem dX0_init_21 : decode cX0_init 21 = .ok (.getfield 15, 3) := by decide +kernel
theorem dX0_init_24 : decode cX0_init 24 = .ok (.bipush (-9), 2) := by decide +kernel
theorem dX0_init_26 : decode cX0_init 26 = .ok (.invokestatic 18, 3) := by decide +kernel
theorem dX0_init_29 : decode cX0_init 29 = .ok (.return_, 1) := by decide +kernel
theorem dX0_become_0 : decode cX0_become 0 = .ok (.aload_n 1, 1) := by decide +kernel
theorem dX0_become_1 : decode cX0_become 1 = .ok (.getfield 9, 3) := by decide +kernel
theorem dX0_become_4 : decode cX0_become 4 = .ok (.iconst 0, 1) := by decide +kernel
theorem dX0_become_5 : decode cX0_become 5 = .ok (.aload_n 0, 1) := by decide +kernel
theorem dX0_become_6 : decode cX0_become 6 = .ok (.getfield 9, 3) := by decide +kernel
theorem dX0_become_9 : decode cX0_become 9 = .ok (.iconst 0, 1) := by decide +kernel
theorem dX0_become_10 : decode cX0_become 10 = .ok (.bipush 6, 2) := by decide +kernel
theorem dX0_become_12 : decode cX0_become 12 = .ok (.invokestatic 24, 3) := by decide +kernel
theorem dX0_become_15 : decode cX0_become 15 = .ok (.aload_n 1, 1) := by decide +kernel
theorem dX0_become_16 : decode cX0_become 16 = .ok (.getfield 15, 3) := by decide +kernel
theorem dX0_become_19 : decode cX0_become 19 = .ok (.iconst 0, 1) := by decide +kernel
theorem dX0_become_20 : decode cX0_become 20 = .ok (.aload_n 0, 1) := by decide +kernel
theorem dX0_become_21 : decode cX0_become 21 = .ok (.getfield 15, 3) := by decide +kernel
theorem dX0_become_24 : decode cX0_become 24 = .ok (.iconst 0, 1) := by decide +kernel
theorem dX0_become_25 : decode cX0_become 25 = .ok (.bipush 6, 2) := by decide +kernel
theorem dX0_become_27 : decode cX0_become 27 = .ok (.invokestatic 24, 3) := by decide +kernel
theorem dX0_become_30 : decode cX0_become 30 = .ok (.return_, 1) := by decide +kernel
theorem dX0_heldOf_0 : decode cX0_heldOf 0 = .ok (.iconst 0, 1) := by decide +kernel
theorem dX0_heldOf_1 : decode cX0_heldOf 1 = .ok (.istore_n 2, 1) := by decide +kernel
theorem dX0_heldOf_2 : decode cX0_heldOf 2 = .ok (.iconst 0, 1) := by decide +kernel
theorem dX0_heldOf_3 : decode cX0_heldOf 3 = .ok (.istore_n 3, 1) := by decide +kernel
theorem dX0_heldOf_4 : decode cX0_heldOf 4 = .ok (.iload_n 3, 1) := by decide +kernel
theorem dX0_heldOf_5 : decode cX0_heldOf 5 = .ok (.bipush 6, 2) := by decide +kernel
theorem dX0_heldOf_7 : decode cX0_heldOf 7 = .ok (.if_icmp .ge 28, 3) := by decide +kernel
theorem dX0_heldOf_10 : decode cX0_heldOf 10 = .ok (.aload_n 0, 1) := by decide +kernel
theorem dX0_heldOf_11 : decode cX0_heldOf 11 = .ok (.getfield 15, 3) := by decide +kernel
theorem dX0_heldOf_14 : decode cX0_heldOf 14 = .ok (.iload_n 3, 1) := by decide +kernel
theorem dX0_heldOf_15 : decode cX0_heldOf 15 = .ok (.iaload, 1) := by decide +kernel
theorem dX0_heldOf_16 : decode cX0_heldOf 16 = .ok (.iload_n 1, 1) := by decide +kernel
theorem dX0_heldOf_17 : decode cX0_heldOf 17 = .ok (.if_icmp .ne 12, 3) := by decide +kernel
theorem dX0_heldOf_20 : decode cX0_heldOf 20 = .ok (.iload_n 2, 1) := by decide +kernel
theorem dX0_heldOf_21 : decode cX0_heldOf 21 = .ok (.aload_n 0, 1) := by decide +kernel
theorem dX0_heldOf_22 : decode cX0_heldOf 22 = .ok (.getfield 9, 3) := by decide +kernel
theorem dX0_heldOf_25 : decode cX0_heldOf 25 = .ok (.iload_n 3, 1) := by decide +kernel
theorem dX0_heldOf_26 : decode cX0_heldOf 26 = .ok (.iaload, 1) := by decide +kernel
theorem dX0_heldOf_27 : decode cX0_heldOf 27 = .ok (.iadd, 1) := by decide +kernel
theorem dX0_heldOf_28 : decode cX0_heldOf 28 = .ok (.istore_n 2, 1) := by decide +kernel
theorem dX0_heldOf_29 : decode cX0_heldOf 29 = .ok (.iinc 3 1, 3) := by decide +kernel
theorem dX0_heldOf_32 : decode cX0_heldOf 32 = .ok (.goto (-28), 3) := by decide +kernel
theorem dX0_heldOf_35 : decode cX0_heldOf 35 = .ok (.iload_n 2, 1) := by decide +kernel
theorem dX0_heldOf_36 : decode cX0_heldOf 36 = .ok (.ireturn, 1) := by decide +kernel
theorem dX0_countBy_0 : decode cX0_countBy 0 = .ok (.iconst 0, 1) := by decide +kernel
theorem dX0_countBy_1 : decode cX0_countBy 1 = .ok (.istore_n 2, 1) := by decide +kernel
theorem dX0_countBy_2 : decode cX0_countBy 2 = .ok (.iconst 0, 1) := by decide +kernel
theorem dX0_countBy_3 : decode cX0_countBy 3 = .ok (.istore_n 3, 1) := by decide +kernel
theorem dX0_countBy_4 : decode cX0_countBy 4 = .ok (.iload_n 3, 1) := by decide +kernel
theorem dX0_countBy_5 : decode cX0_countBy 5 = .ok (.bipush 6, 2) := by decide +kernel
theorem dX0_countBy_7 : decode cX0_countBy 7 = .ok (.if_icmp .ge 22, 3) := by decide +kernel
theorem dX0_countBy_10 : decode cX0_countBy 10 = .ok (.aload_n 0, 1) := by decide +kernel
theorem dX0_countBy_11 : decode cX0_countBy 11 = .ok (.getfield 15, 3) := by decide +kernel
theorem dX0_countBy_14 : decode cX0_countBy 14 = .ok (.iload_n 3, 1) := by decide +kernel
theorem dX0_countBy_15 : decode cX0_countBy 15 = .ok (.iaload, 1) := by decide +kernel
theorem dX0_countBy_16 : decode cX0_countBy 16 = .ok (.iload_n 1, 1) := by decide +kernel
theorem dX0_countBy_17 : decode cX0_countBy 17 = .ok (.if_icmp .ne 6, 3) := by decide +kernel
theorem dX0_countBy_20 : decode cX0_countBy 20 = .ok (.iinc 2 1, 3) := by decide +kernel
theorem dX0_countBy_23 : decode cX0_countBy 23 = .ok (.iinc 3 1, 3) := by decide +kernel
theorem dX0_countBy_26 : decode cX0_countBy 26 = .ok (.goto (-22), 3) := by decide +kernel
theorem dX0_countBy_29 : decode cX0_countBy 29 = .ok (.iload_n 2, 1) := by decide +kernel
theorem dX0_countBy_30 : decode cX0_countBy 30 = .ok (.ireturn, 1) := by decide +kernel
theorem dX0_hasWeakAlone_0 : decode cX0_hasWeakAlone 0 = .ok (.iconst 0, 1) := by decide +kernel
theorem dX0_hasWeakAlone_1 : decode cX0_hasWeakAlone 1 = .ok (.istore_n 3, 1) := by decide +kernel
theorem dX0_hasWeakAlone_2 : decode cX0_hasWeakAlone 2 = .ok (.iload_n 3, 1) := by decide +kernel
theorem dX0_hasWeakAlone_3 : decode cX0_hasWeakAlone 3 = .ok (.bipush 6, 2) := by decide +kernel
theorem dX0_hasWeakAlone_5 : decode cX0_hasWeakAlone 5 = .ok (.if_icmp .ge 31, 3) := by decide +kernel
theorem dX0_hasWeakAlone_8 : decode cX0_hasWeakAlone 8 = .ok (.aload_n 0, 1) := by decide +kernel
theorem dX0_hasWeakAlone_9 : decode cX0_hasWeakAlone 9 = .ok (.getfield 15, 3) := by decide +kernel
theorem dX0_hasWeakAlone_12 : decode cX0_hasWeakAlone 12 = .ok (.iload_n 3, 1) := by decide +kernel
theorem dX0_hasWeakAlone_13 : decode cX0_hasWeakAlone 13 = .ok (.iaload, 1) := by decide +kernel
theorem dX0_hasWeakAlone_14 : decode cX0_hasWeakAlone 14 = .ok (.iload_n 1, 1) := by decide +kernel
theorem dX0_hasWeakAlone_15 : decode cX0_hasWeakAlone 15 = .ok (.if_icmp .ne 15, 3) := by decide +kernel
theorem dX0_hasWeakAlone_18 : decode cX0_hasWeakAlone 18 = .ok (.aload_n 0, 1) := by decide +kernel
theorem dX0_hasWeakAlone_19 : decode cX0_hasWeakAlone 19 = .ok (.getfield 9, 3) := by decide +kernel
theorem dX0_hasWeakAlone_22 : decode cX0_hasWeakAlone 22 = .ok (.iload_n 3, 1) := by decide +kernel
theorem dX0_hasWeakAlone_23 : decode cX0_hasWeakAlone 23 = .ok (.iaload, 1) := by decide +kernel
theorem dX0_hasWeakAlone_24 : decode cX0_hasWeakAlone 24 = .ok (.iload_n 2, 1) := by decide +kernel
theorem dX0_hasWeakAlone_25 : decode cX0_hasWeakAlone 25 = .ok (.if_icmp .lt 5, 3) := by decide +kernel
theorem dX0_hasWeakAlone_28 : decode cX0_hasWeakAlone 28 = .ok (.iconst 0, 1) := by decide +kernel
theorem dX0_hasWeakAlone_29 : decode cX0_hasWeakAlone 29 = .ok (.ireturn, 1) := by decide +kernel
theorem dX0_hasWeakAlone_30 : decode cX0_hasWeakAlone 30 = .ok (.iinc 3 1, 3) := by decide +kernel
theorem dX0_hasWeakAlone_33 : decode cX0_hasWeakAlone 33 = .ok (.goto (-31), 3) := by decide +kernel
theorem dX0_hasWeakAlone_36 : decode cX0_hasWeakAlone 36 = .ok (.aload_n 0, 1) := by decide +kernel
theorem dX0_hasWeakAlone_37 : decode cX0_hasWeakAlone 37 = .ok (.iload_n 1, 1) := by decide +kernel
theorem dX0_hasWeakAlone_38 : decode cX0_hasWeakAlone 38 = .ok (.invokevirtual 30, 3) := by decide +kernel
theorem dX0_hasWeakAlone_41 : decode cX0_hasWeakAlone 41 = .ok (.ifCond .le 7, 3) := by decide +kernel
theorem dX0_hasWeakAlone_44 : decode cX0_hasWeakAlone 44 = .ok (.iconst 1, 1) := by decide +kernel
theorem dX0_hasWeakAlone_45 : decode cX0_hasWeakAlone 45 = .ok (.goto 4, 3) := by decide +kernel
theorem dX0_hasWeakAlone_48 : decode cX0_hasWeakAlone 48 = .ok (.iconst 0, 1) := by decide +kernel
theorem dX0_hasWeakAlone_49 : decode cX0_hasWeakAlone 49 = .ok (.ireturn, 1) := by decide +kernel
theorem dX1_init_0 : decode cX1_init 0 = .ok (.aload_n 0, 1) := by decide +kernel
theorem dX1_init_1 : decode cX1_init 1 = .ok (.invokespecial 3, 3) := by decide +kernel
theorem dX1_init_4 : decode cX1_init 4 = .ok (.aload_n 0, 1) := by decide +kernel
theorem dX1_init_5 : decode cX1_init 5 = .ok (.getstatic 9, 3) := by decide +kernel
theorem dX1_init_8 : decode cX1_init 8 = .ok (.invokevirtual 13, 3) := by decide +kernel
theorem dX1_init_11 : decode cX1_init 11 = .ok (.checkcast 14, 3) := by decide +kernel
theorem dX1_init_14 : decode cX1_init 14 = .ok (.putfield 18, 3) := by decide +kernel
theorem dX1_init_17 : decode cX1_init 17 = .ok (.aload_n 0, 1) := by decide +kernel
theorem dX1_init_18 : decode cX1_init 18 = .ok (.getstatic 9, 3) := by decide +kernel
theorem dX1_init_21 : decode cX1_init 21 = .ok (.invokevirtual 13, 3) := by decide +kernel
theorem dX1_init_24 : decode cX1_init 24 = .ok (.checkcast 14, 3) := by decide +kernel
theorem dX1_init_27 : decode cX1_init 27 = .ok (.putfield 23, 3) := by decide +kernel
theorem dX1_init_30 : decode cX1_init 30 = .ok (.return_, 1) := by decide +kernel
theorem dX1_read_0 : decode cX1_read 0 = .ok (.getstatic 9, 3) := by decide +kernel
theorem dX1_read_3 : decode cX1_read 3 = .ok (.iconst 0, 1) := by decide +kernel
theorem dX1_read_4 : decode cX1_read 4 = .ok (.aload_n 0, 1) := by decide +kernel
theorem dX1_read_5 : decode cX1_read 5 = .ok (.getfield 23, 3) := by decide +kernel
theorem dX1_read_8 : decode cX1_read 8 = .ok (.iconst 0, 1) := by decide +kernel
theorem dX1_read_9 : decode cX1_read 9 = .ok (.iconst 5, 1) := by decide +kernel
theorem dX1_read_10 : decode cX1_read 10 = .ok (.invokestatic 26, 3) := by decide +kernel
theorem dX1_read_13 : decode cX1_read 13 = .ok (.iconst 0, 1) := by decide +kernel
theorem dX1_read_14 : decode cX1_read 14 = .ok (.istore_n 2, 1) := by decide +kernel
theorem dX1_read_15 : decode cX1_read 15 = .ok (.iconst 0, 1) := by decide +kernel
theorem dX1_read_16 : decode cX1_read 16 = .ok (.istore_n 3, 1) := by decide +kernel
theorem dX1_read_17 : decode cX1_read 17 = .ok (.aload_n 1, 1) := by decide +kernel
theorem dX1_read_18 : decode cX1_read 18 = .ok (.iconst 0, 1) := by decide +kernel
theorem dX1_read_19 : decode cX1_read 19 = .ok (.invokevirtual 32, 3) := by decide +kernel
theorem dX1_read_22 : decode cX1_read 22 = .ok (.istore 4, 2) := by decide +kernel
theorem dX1_read_24 : decode cX1_read 24 = .ok (.iload_n 3, 1) := by decide +kernel
theorem dX1_read_25 : decode cX1_read 25 = .ok (.iconst 5, 1) := by decide +kernel
theorem dX1_read_26 : decode cX1_read 26 = .ok (.if_icmp .ge 151, 3) := by decide +kernel
theorem dX1_read_29 : decode cX1_read 29 = .ok (.iload 4, 2) := by decide +kernel
theorem dX1_read_31 : decode cX1_read 31 = .ok (.aload_n 1, 1) := by decide +kernel
theorem dX1_read_32 : decode cX1_read 32 = .ok (.getfield 38, 3) := by decide +kernel
theorem dX1_read_35 : decode cX1_read 35 = .ok (.if_icmp .ge 142, 3) := by decide +kernel
theorem dX1_read_38 : decode cX1_read 38 = .ok (.aload_n 1, 1) := by decide +kernel
theorem dX1_read_39 : decode cX1_read 39 = .ok (.iload 4, 2) := by decide +kernel
theorem dX1_read_41 : decode cX1_read 41 = .ok (.invokestatic 42, 3) := by decide +kernel
theorem dX1_read_44 : decode cX1_read 44 = .ok (.istore 5, 2) := by decide +kernel
theorem dX1_read_46 : decode cX1_read 46 = .ok (.iload 5, 2) := by decide +kernel
theorem dX1_read_48 : decode cX1_read 48 = .ok (.bipush (-9), 2) := by decide +kernel
theorem dX1_read_50 : decode cX1_read 50 = .ok (.if_icmp .eq 12, 3) := by decide +kernel
theorem dX1_read_53 : decode cX1_read 53 = .ok (.iload_n 2, 1) := by decide +kernel
theorem dX1_read_54 : decode cX1_read 54 = .ok (.iload 5, 2) := by decide +kernel
theorem dX1_read_56 : decode cX1_read 56 = .ok (.invokestatic 46, 3) := by decide +kernel
theorem dX1_read_59 : decode cX1_read 59 = .ok (.ifCond .eq 9, 3) := by decide +kernel
theorem dX1_read_62 : decode cX1_read 62 = .ok (.bipush (-10), 2) := by decide +kernel
theorem dX1_read_64 : decode cX1_read 64 = .ok (.iload 4, 2) := by decide +kernel
theorem dX1_read_66 : decode cX1_read 66 = .ok (.isub, 1) := by decide +kernel
theorem dX1_read_67 : decode cX1_read 67 = .ok (.ireturn, 1) := by decide +kernel
theorem dX1_read_68 : decode cX1_read 68 = .ok (.aload_n 1, 1) := by decide +kernel
theorem dX1_read_69 : decode cX1_read 69 = .ok (.aload_n 1, 1) := by decide +kernel
theorem dX1_read_70 : decode cX1_read 70 = .ok (.iload 4, 2) := by decide +kernel
theorem dX1_read_72 : decode cX1_read 72 = .ok (.invokevirtual 50, 3) := by decide +kernel
theorem dX1_read_75 : decode cX1_read 75 = .ok (.invokevirtual 32, 3) := by decide +kernel
theorem dX1_read_78 : decode cX1_read 78 = .ok (.istore 4, 2) := by decide +kernel
theorem dX1_read_80 : decode cX1_read 80 = .ok (.aload_n 1, 1) := by decide +kernel
theorem dX1_read_81 : decode cX1_read 81 = .ok (.iload 4, 2) := by decide +kernel
theorem dX1_read_83 : decode cX1_read 83 = .ok (.invokevirtual 53, 3) := by decide +kernel
theorem dX1_read_86 : decode cX1_read 86 = .ok (.istore 6, 2) := by decide +kernel
theorem dX1_read_88 : decode cX1_read 88 = .ok (.iload 6, 2) := by decide +kernel
theorem dX1_read_90 : decode cX1_read 90 = .ok (.getstatic 56, 3) := by decide +kernel
theorem dX1_read_93 : decode cX1_read 93 = .ok (.iload 5, 2) := by decide +kernel
theorem dX1_read_95 : decode cX1_read 95 = .ok (.iaload, 1) := by decide +kernel
theorem dX1_read_96 : decode cX1_read 96 = .ok (.if_icmp .lt 14, 3) := by decide +kernel
theorem dX1_read_99 : decode cX1_read 99 = .ok (.iload 6, 2) := by decide +kernel
theorem dX1_read_101 : decode cX1_read 101 = .ok (.getstatic 59, 3) := by decide +kernel
theorem dX1_read_104 : decode cX1_read 104 = .ok (.iload 5, 2) := by decide +kernel
theorem dX1_read_106 : decode cX1_read 106 = .ok (.iaload, 1) := by decide +kernel
theorem dX1_read_107 : decode cX1_read 107 = .ok (.if_icmp .le 9, 3) := by decide +kernel
theorem dX1_read_110 : decode cX1_read 110 = .ok (.bipush (-10), 2) := by decide +kernel
theorem dX1_read_112 : decode cX1_read 112 = .ok (.iload 4, 2) := by decide +kernel
theorem dX1_read_114 : decode cX1_read 114 = .ok (.isub, 1) := by decide +kernel
theorem dX1_read_115 : decode cX1_read 115 = .ok (.ireturn, 1) := by decide +kernel
theorem dX1_read_116 : decode cX1_read 116 = .ok (.aload_n 1, 1) := by decide +kernel
theorem dX1_read_117 : decode cX1_read 117 = .ok (.aload_n 1, 1) := by decide +kernel
theorem dX1_read_118 : decode cX1_read 118 = .ok (.iload 4, 2) := by decide +kernel
theorem dX1_read_120 : decode cX1_read 120 = .ok (.invokevirtual 62, 3) := by decide +kernel
theorem dX1_read_123 : decode cX1_read 123 = .ok (.invokevirtual 32, 3) := by decide +kernel
theorem dX1_read_126 : decode cX1_read 126 = .ok (.istore 4, 2) := by decide +kernel
theorem dX1_read_128 : decode cX1_read 128 = .ok (.aload_n 1, 1) := by decide +kernel
theorem dX1_read_129 : decode cX1_read 129 = .ok (.iload 4, 2) := by decide +kernel
theorem dX1_read_131 : decode cX1_read 131 = .ok (.invokevirtual 65, 3) := by decide +kernel
theorem dX1_read_134 : decode cX1_read 134 = .ok (.bipush 59, 2) := by decide +kernel
theorem dX1_read_136 : decode cX1_read 136 = .ok (.if_icmp .eq 9, 3) := by decide +kernel
theorem dX1_read_139 : decode cX1_read 139 = .ok (.bipush (-10), 2) := by decide +kernel
theorem dX1_read_141 : decode cX1_read 141 = .ok (.iload 4, 2) := by decide +kernel
theorem dX1_read_143 : decode cX1_read 143 = .ok (.isub, 1) := by decide +kernel
theorem dX1_read_144 : decode cX1_read 144 = .ok (.ireturn, 1) := by decide +kernel
theorem dX1_read_145 : decode cX1_read 145 = .ok (.aload_n 1, 1) := by decide +kernel
theorem dX1_read_146 : decode cX1_read 146 = .ok (.iload 4, 2) := by decide +kernel
theorem dX1_read_148 : decode cX1_read 148 = .ok (.iconst 1, 1) := by decide +kernel
theorem dX1_read_149 : decode cX1_read 149 = .ok (.iadd, 1) := by decide +kernel
theorem dX1_read_150 : decode cX1_read 150 = .ok (.invokevirtual 32, 3) := by decide +kernel
theorem dX1_read_153 : decode cX1_read 153 = .ok (.istore 4, 2) := by decide +kernel
theorem dX1_read_155 : decode cX1_read 155 = .ok (.aload_n 0, 1) := by decide +kernel
theorem dX1_read_156 : decode cX1_read 156 = .ok (.getfield 23, 3) := by decide +kernel
theorem dX1_read_159 : decode cX1_read 159 = .ok (.iload 5, 2) := by decide +kernel
theorem dX1_read_161 : decode cX1_read 161 = .ok (.iload 6, 2) := by decide +kernel
theorem dX1_read_163 : decode cX1_read 163 = .ok (.iastore, 1) := by decide +kernel
theorem dX1_read_164 : decode cX1_read 164 = .ok (.iload_n 2, 1) := by decide +kernel
theorem dX1_read_165 : decode cX1_read 165 = .ok (.iconst 1, 1) := by decide +kernel
theorem dX1_read_166 : decode cX1_read 166 = .ok (.iload 5, 2) := by decide +kernel
theorem dX1_read_168 : decode cX1_read 168 = .ok (.ishl, 1) := by decide +kernel
theorem dX1_read_169 : decode cX1_read 169 = .ok (.ior, 1) := by decide +kernel
theorem dX1_read_170 : decode cX1_read 170 = .ok (.istore_n 2, 1) := by decide +kernel
theorem dX1_read_171 : decode cX1_read 171 = .ok (.iinc 3 1, 3) := by decide +kernel
theorem dX1_read_174 : decode cX1_read 174 = .ok (.goto (-150), 3) := by decide +kernel
theorem dX1_read_177 : decode cX1_read 177 = .ok (.iload 4, 2) := by decide +kernel
theorem dX1_read_179 : decode cX1_read 179 = .ok (.aload_n 1, 1) := by decide +kernel
theorem dX1_read_180 : decode cX1_read 180 = .ok (.getfield 38, 3) := by decide +kernel
theorem dX1_read_183 : decode cX1_read 183 = .ok (.if_icmp .ge 9, 3) := by decide +kernel
theorem dX1_read_186 : decode cX1_read 186 = .ok (.bipush (-10), 2) := by decide +kernel
theorem dX1_read_188 : decode cX1_read 188 = .ok (.iload 4, 2) := by decide +kernel
theorem dX1_read_190 : decode cX1_read 190 = .ok (.isub, 1) := by decide +kernel
theorem dX1_read_191 : decode cX1_read 191 = .ok (.ireturn, 1) := by decide +kernel
theorem dX1_read_192 : decode cX1_read 192 = .ok (.aload_n 0, 1) := by decide +kernel
theorem dX1_read_193 : decode cX1_read 193 = .ok (.getfield 23, 3) := by decide +kernel
theorem dX1_read_196 : decode cX1_read 196 = .ok (.iconst 0, 1) := by decide +kernel
theorem dX1_read_197 : decode cX1_read 197 = .ok (.aload_n 0, 1) := by decide +kernel
theorem dX1_read_198 : decode cX1_read 198 = .ok (.getfield 18, 3) := by decide +kernel
theorem dX1_read_201 : decode cX1_read 201 = .ok (.iconst 0, 1) := by decide +kernel
theorem dX1_read_202 : decode cX1_read 202 = .ok (.iconst 5, 1) := by decide +kernel
theorem dX1_read_203 : decode cX1_read 203 = .ok (.invokestatic 26, 3) := by decide +kernel
theorem dX1_read_206 : decode cX1_read 206 = .ok (.iload_n 3, 1) := by decide +kernel
theorem dX1_read_207 : decode cX1_read 207 = .ok (.ireturn, 1) := by decide +kernel
theorem dX1_itemAt_0 : decode cX1_itemAt 0 = .ok (.iconst 0, 1) := by decide +kernel
theorem dX1_itemAt_1 : decode cX1_itemAt 1 = .ok (.istore_n 2, 1) := by decide +kernel
theorem dX1_itemAt_2 : decode cX1_itemAt 2 = .ok (.iload_n 2, 1) := by decide +kernel
theorem dX1_itemAt_3 : decode cX1_itemAt 3 = .ok (.iconst 5, 1) := by decide +kernel
theorem dX1_itemAt_4 : decode cX1_itemAt 4 = .ok (.if_icmp .ge 23, 3) := by decide +kernel
theorem dX1_itemAt_7 : decode cX1_itemAt 7 = .ok (.aload_n 0, 1) := by decide +kernel
theorem dX1_itemAt_8 : decode cX1_itemAt 8 = .ok (.iload_n 1, 1) := by decide +kernel
theorem dX1_itemAt_9 : decode cX1_itemAt 9 = .ok (.iload_n 2, 1) := by decide +kernel
theorem dX1_itemAt_10 : decode cX1_itemAt 10 = .ok (.invokestatic 68, 3) := by decide +kernel
theorem dX1_itemAt_13 : decode cX1_itemAt 13 = .ok (.invokevirtual 72, 3) := by decide +kernel
theorem dX1_itemAt_16 : decode cX1_itemAt 16 = .ok (.ifCond .eq 5, 3) := by decide +kernel
theorem dX1_itemAt_19 : decode cX1_itemAt 19 = .ok (.iload_n 2, 1) := by decide +kernel
theorem dX1_itemAt_20 : decode cX1_itemAt 20 = .ok (.ireturn, 1) := by decide +kernel
theorem dX1_itemAt_21 : decode cX1_itemAt 21 = .ok (.iinc 2 1, 3) := by decide +kernel
theorem dX1_itemAt_24 : decode cX1_itemAt 24 = .ok (.goto (-22), 3) := by decide +kernel
theorem dX1_itemAt_27 : decode cX1_itemAt 27 = .ok (.bipush (-9), 2) := by decide +kernel
theorem dX1_itemAt_29 : decode cX1_itemAt 29 = .ok (.ireturn, 1) := by decide +kernel
theorem dX1_wordOf_0 : decode cX1_wordOf 0 = .ok (.iload_n 0, 1) := by decide +kernel
theorem dX1_wordOf_1 : decode cX1_wordOf 1 = .ok (.tableswitch 43 0 3 #[31, 34, 37, 40], 31) := by decide +kernel
theorem dX1_wordOf_32 : decode cX1_wordOf 32 = .ok (.ldc 76, 2) := by decide +kernel
theorem dX1_wordOf_34 : decode cX1_wordOf 34 = .ok (.areturn, 1) := by decide +kernel
theorem dX1_wordOf_35 : decode cX1_wordOf 35 = .ok (.ldc 78, 2) := by decide +kernel
theorem dX1_wordOf_37 : decode cX1_wordOf 37 = .ok (.areturn, 1) := by decide +kernel
theorem dX1_wordOf_38 : decode cX1_wordOf 38 = .ok (.ldc 80, 2) := by decide +kernel
theorem dX1_wordOf_40 : decode cX1_wordOf 40 = .ok (.areturn, 1) := by decide +kernel
theorem dX1_wordOf_41 : decode cX1_wordOf 41 = .ok (.ldc 82, 2) := by decide +kernel
theorem dX1_wordOf_43 : decode cX1_wordOf 43 = .ok (.areturn, 1) := by decide +kernel
theorem dX1_wordOf_44 : decode cX1_wordOf 44 = .ok (.ldc 84, 2) := by decide +kernel
theorem dX1_wordOf_46 : decode cX1_wordOf 46 = .ok (.areturn, 1) := by decide +kernel
theorem dX2_init_0 : decode cX2_init 0 = .ok (.aload_n 0, 1) := by decide +kernel
theorem dX2_init_1 : decode cX2_init 1 = .ok (.invokespecial 3, 3) := by decide +kernel
theorem dX2_init_4 : decode cX2_init 4 = .ok (.aload_n 0, 1) := by decide +kernel
theorem dX2_init_5 : decode cX2_init 5 = .ok (.iconst 4, 1) := by decide +kernel
theorem dX2_init_6 : decode cX2_init 6 = .ok (.anewarray 9, 3) := by decide +kernel
theorem dX2_init_9 : decode cX2_init 9 = .ok (.putfield 11, 3) := by decide +kernel
theorem dX2_init_12 : decode cX2_init 12 = .ok (.aload_n 0, 1) := by decide +kernel
theorem dX2_init_13 : decode cX2_init 13 = .ok (.new 17, 3) := by decide +kernel
theorem dX2_init_16 : decode cX2_init 16 = .ok (.dup, 1) := by decide +kernel
theorem dX2_init_17 : decode cX2_init 17 = .ok (.invokespecial 19, 3) := by decide +kernel
theorem dX2_init_20 : decode cX2_init 20 = .ok (.putfield 20, 3) := by decide +kernel
theorem dX2_init_23 : decode cX2_init 23 = .ok (.aload_n 0, 1) := by decide +kernel
theorem dX2_init_24 : decode cX2_init 24 = .ok (.bipush 26, 2) := by decide +kernel
theorem dX2_init_26 : decode cX2_init 26 = .ok (.newarray .int, 2) := by decide +kernel
theorem dX2_init_28 : decode cX2_init 28 = .ok (.putfield 24, 3) := by decide +kernel
theorem dX2_init_31 : decode cX2_init 31 = .ok (.aload_n 0, 1) := by decide +kernel
theorem dX2_init_32 : decode cX2_init 32 = .ok (.iconst 0, 1) := by decide +kernel
theorem dX2_init_33 : decode cX2_init 33 = .ok (.putfield 28, 3) := by decide +kernel
theorem dX2_init_36 : decode cX2_init 36 = .ok (.iconst 0, 1) := by decide +kernel
theorem dX2_init_37 : decode cX2_init 37 = .ok (.istore_n 1, 1) := by decide +kernel
theorem dX2_init_38 : decode cX2_init 38 = .ok (.iload_n 1, 1) := by decide +kernel
theorem dX2_init_39 : decode cX2_init 39 = .ok (.iconst 4, 1) := by decide +kernel
theorem dX2_init_40 : decode cX2_init 40 = .ok (.if_icmp .ge 24, 3) := by decide +kernel
theorem dX2_init_43 : decode cX2_init 43 = .ok (.aload_n 0, 1) := by decide +kernel
theorem dX2_init_44 : decode cX2_init 44 = .ok (.getfield 11, 3) := by decide +kernel
theorem dX2_init_47 : decode cX2_init 47 = .ok (.iload_n 1, 1) := by decide +kernel
theorem dX2_init_48 : decode cX2_init 48 = .ok (.new 9, 3) := by decide +kernel
theorem dX2_init_51 : decode cX2_init 51 = .ok (.dup, 1) := by decide +kernel
theorem dX2_init_52 : decode cX2_init 52 = .ok (.bipush 12, 2) := by decide +kernel
theorem dX2_init_54 : decode cX2_init 54 = .ok (.invokespecial 32, 3) := by decide +kernel
theorem dX2_init_57 : decode cX2_init 57 = .ok (.aastore, 1) := by decide +kernel
theorem dX2_init_58 : decode cX2_init 58 = .ok (.iinc 1 1, 3) := by decide +kernel
theorem dX2_init_61 : decode cX2_init 61 = .ok (.goto (-23), 3) := by decide +kernel
theorem dX2_init_64 : decode cX2_init 64 = .ok (.aload_n 0, 1) := by decide +kernel
theorem dX2_init_65 : decode cX2_init 65 = .ok (.getfield 24, 3) := by decide +kernel
theorem dX2_init_68 : decode cX2_init 68 = .ok (.bipush (-9), 2) := by decide +kernel
theorem dX2_init_70 : decode cX2_init 70 = .ok (.invokestatic 35, 3) := by decide +kernel
theorem dX2_init_73 : decode cX2_init 73 = .ok (.return_, 1) := by decide +kernel
theorem dX2_become_0 : decode cX2_become 0 = .ok (.iconst 0, 1) := by decide +kernel
theorem dX2_become_1 : decode cX2_become 1 = .ok (.istore_n 2, 1) := by decide +kernel
theorem dX2_become_2 : decode cX2_become 2 = .ok (.iload_n 2, 1) := by decide +kernel
theorem dX2_become_3 : decode cX2_become 3 = .ok (.iconst 4, 1) := by decide +kernel
theorem dX2_become_4 : decode cX2_become 4 = .ok (.if_icmp .ge 24, 3) := by decide +kernel
theorem dX2_become_7 : decode cX2_become 7 = .ok (.aload_n 0, 1) := by decide +kernel
theorem dX2_become_8 : decode cX2_become 8 = .ok (.getfield 11, 3) := by decide +kernel
theorem dX2_become_11 : decode cX2_become 11 = .ok (.iload_n 2, 1) := by decide +kernel
theorem dX2_become_12 : decode cX2_become 12 = .ok (.aaload, 1) := by decide +kernel
theorem dX2_become_13 : decode cX2_become 13 = .ok (.aload_n 1, 1) := by decide +kernel
theorem dX2_become_14 : decode cX2_become 14 = .ok (.getfield 11, 3) := by decide +kernel
theorem dX2_become_17 : decode cX2_become 17 = .ok (.iload_n 2, 1) := by decide +kernel
theorem dX2_become_18 : decode cX2_become 18 = .ok (.aaload, 1) := by decide +kernel
theorem dX2_become_19 : decode cX2_become 19 = .ok (.invokevirtual 41, 3) := by decide +kernel
theorem dX2_become_22 : decode cX2_become 22 = .ok (.iinc 2 1, 3) := by decide +kernel
theorem dX2_become_25 : decode cX2_become 25 = .ok (.goto (-23), 3) := by decide +kernel
theorem dX2_become_28 : decode cX2_become 28 = .ok (.aload_n 0, 1) := by decide +kernel
theorem dX2_become_29 : decode cX2_become 29 = .ok (.getfield 20, 3) := by decide +kernel
theorem dX2_become_32 : decode cX2_become 32 = .ok (.aload_n 1, 1) := by decide +kernel
theorem dX2_become_33 : decode cX2_become 33 = .ok (.getfield 20, 3) := by decide +kernel
theorem dX2_become_36 : decode cX2_become 36 = .ok (.invokevirtual 45, 3) := by decide +kernel
theorem dX2_become_39 : decode cX2_become 39 = .ok (.aload_n 1, 1) := by decide +kernel
theorem dX2_become_40 : decode cX2_become 40 = .ok (.getfield 24, 3) := by decide +kernel
theorem dX2_become_43 : decode cX2_become 43 = .ok (.iconst 0, 1) := by decide +kernel
theorem dX2_become_44 : decode cX2_become 44 = .ok (.aload_n 0, 1) := by decide +kernel
theorem dX2_become_45 : decode cX2_become 45 = .ok (.getfield 24, 3) := by decide +kernel
theorem dX2_become_48 : decode cX2_become 48 = .ok (.iconst 0, 1) := by decide +kernel
theorem dX2_become_49 : decode cX2_become 49 = .ok (.bipush 26, 2) := by decide +kernel
theorem dX2_become_51 : decode cX2_become 51 = .ok (.invokestatic 48, 3) := by decide +kernel
theorem dX2_become_54 : decode cX2_become 54 = .ok (.return_, 1) := by decide +kernel
theorem dX2_countNames_0 : decode cX2_countNames 0 = .ok (.iconst 0, 1) := by decide +kernel
theorem dX2_countNames_1 : decode cX2_countNames 1 = .ok (.istore_n 1, 1) := by decide +kernel
theorem dX2_countNames_2 : decode cX2_countNames 2 = .ok (.iconst 0, 1) := by decide +kernel
theorem dX2_countNames_3 : decode cX2_countNames 3 = .ok (.istore_n 2, 1) := by decide +kernel
theorem dX2_countNames_4 : decode cX2_countNames 4 = .ok (.iload_n 2, 1) := by decide +kernel
theorem dX2_countNames_5 : decode cX2_countNames 5 = .ok (.iconst 4, 1) := by decide +kernel
theorem dX2_countNames_6 : decode cX2_countNames 6 = .ok (.if_icmp .ge 21, 3) := by decide +kernel
theorem dX2_countNames_9 : decode cX2_countNames 9 = .ok (.iload_n 1, 1) := by decide +kernel
theorem dX2_countNames_10 : decode cX2_countNames 10 = .ok (.aload_n 0, 1) := by decide +kernel
theorem dX2_countNames_11 : decode cX2_countNames 11 = .ok (.getfield 11, 3) := by decide +kernel
theorem dX2_countNames_14 : decode cX2_countNames 14 = .ok (.iload_n 2, 1) := by decide +kernel
theorem dX2_countNames_15 : decode cX2_countNames 15 = .ok (.aaload, 1) := by decide +kernel
theorem dX2_countNames_16 : decode cX2_countNames 16 = .ok (.getfield 54, 3) := by decide +kernel
theorem dX2_countNames_19 : decode cX2_countNames 19 = .ok (.iadd, 1) := by decide +kernel
theorem dX2_countNames_20 : decode cX2_countNames 20 = .ok (.istore_n 1, 1) := by decide +kernel
theorem dX2_countNames_21 : decode cX2_countNames 21 = .ok (.iinc 2 1, 3) := by decide +kernel
theorem dX2_countNames_24 : decode cX2_countNames 24 = .ok (.goto (-20), 3) := by decide +kernel
theorem dX2_countNames_27 : decode cX2_countNames 27 = .ok (.iload_n 1, 1) := by decide +kernel
theorem dX2_countNames_28 : decode cX2_countNames 28 = .ok (.ireturn, 1) := by decide +kernel
theorem dX3_init_0 : decode cX3_init 0 = .ok (.aload_n 0, 1) := by decide +kernel
theorem dX3_init_1 : decode cX3_init 1 = .ok (.invokespecial 3, 3) := by decide +kernel
theorem dX3_init_4 : decode cX3_init 4 = .ok (.aload_n 0, 1) := by decide +kernel
theorem dX3_init_5 : decode cX3_init 5 = .ok (.iconst 0, 1) := by decide +kernel
theorem dX3_init_6 : decode cX3_init 6 = .ok (.putfield 9, 3) := by decide +kernel
theorem dX3_init_9 : decode cX3_init 9 = .ok (.aload_n 0, 1) := by decide +kernel
theorem dX3_init_10 : decode cX3_init 10 = .ok (.iload_n 1, 1) := by decide +kernel
theorem dX3_init_11 : decode cX3_init 11 = .ok (.iconst 0, 1) := by decide +kernel
theorem dX3_init_12 : decode cX3_init 12 = .ok (.invokestatic 15, 3) := by decide +kernel
theorem dX3_init_15 : decode cX3_init 15 = .ok (.newarray .int, 2) := by decide +kernel
theorem dX3_init_17 : decode cX3_init 17 = .ok (.putfield 21, 3) := by decide +kernel
theorem dX3_init_20 : decode cX3_init 20 = .ok (.return_, 1) := by decide +kernel
theorem dX3_has_0 : decode cX3_has 0 = .ok (.iload_n 1, 1) := by decide +kernel
theorem dX3_has_1 : decode cX3_has 1 = .ok (.ifCond .lt 15, 3) := by decide +kernel
theorem dX3_has_4 : decode cX3_has 4 = .ok (.iload_n 1, 1) := by decide +kernel
theorem dX3_has_5 : decode cX3_has 5 = .ok (.aload_n 0, 1) := by decide +kernel
theorem dX3_has_6 : decode cX3_has 6 = .ok (.getfield 9, 3) := by decide +kernel
theorem dX3_has_9 : decode cX3_has 9 = .ok (.if_icmp .ge 7, 3) := by decide +kernel
theorem dX3_has_12 : decode cX3_has 12 = .ok (.iconst 1, 1) := by decide +kernel
theorem dX3_has_13 : decode cX3_has 13 = .ok (.goto 4, 3) := by decide +kernel
theorem dX3_has_16 : decode cX3_has 16 = .ok (.iconst 0, 1) := by decide +kernel
theorem dX3_has_17 : decode cX3_has 17 = .ok (.ireturn, 1) := by decide +kernel
theorem dX3_nameAt_0 : decode cX3_nameAt 0 = .ok (.aload_n 0, 1) := by decide +kernel
theorem dX3_nameAt_1 : decode cX3_nameAt 1 = .ok (.iload_n 1, 1) := by decide +kernel
theorem dX3_nameAt_2 : decode cX3_nameAt 2 = .ok (.invokevirtual 25, 3) := by decide +kernel
theorem dX3_nameAt_5 : decode cX3_nameAt 5 = .ok (.ifCond .eq 12, 3) := by decide +kernel
theorem dX3_nameAt_8 : decode cX3_nameAt 8 = .ok (.aload_n 0, 1) := by decide +kernel
theorem dX3_nameAt_9 : decode cX3_nameAt 9 = .ok (.getfield 21, 3) := by decide +kernel
theorem dX3_nameAt_12 : decode cX3_nameAt 12 = .ok (.iload_n 1, 1) := by decide +kernel
theorem dX3_nameAt_13 : decode cX3_nameAt 13 = .ok (.iaload, 1) := by decide +kernel
theorem dX3_nameAt_14 : decode cX3_nameAt 14 = .ok (.goto 5, 3) := by decide +kernel
theorem dX3_nameAt_17 : decode cX3_nameAt 17 = .ok (.bipush (-9), 2) := by decide +kernel
theorem dX3_nameAt_19 : decode cX3_nameAt 19 = .ok (.ireturn, 1) := by decide +kernel
theorem dX3_placeOf_0 : decode cX3_placeOf 0 = .ok (.iconst 0, 1) := by decide +kernel
theorem dX3_placeOf_1 : decode cX3_placeOf 1 = .ok (.istore_n 2, 1) := by decide +kernel
theorem dX3_placeOf_2 : decode cX3_placeOf 2 = .ok (.iload_n 2, 1) := by decide +kernel
theorem dX3_placeOf_3 : decode cX3_placeOf 3 = .ok (.aload_n 0, 1) := by decide +kernel
theorem dX3_placeOf_4 : decode cX3_placeOf 4 = .ok (.getfield 9, 3) := by decide +kernel
theorem dX3_placeOf_7 : decode cX3_placeOf 7 = .ok (.if_icmp .ge 21, 3) := by decide +kernel
theorem dX3_placeOf_10 : decode cX3_placeOf 10 = .ok (.aload_n 0, 1) := by decide +kernel
theorem dX3_placeOf_11 : decode cX3_placeOf 11 = .ok (.getfield 21, 3) := by decide +kernel
theorem dX3_placeOf_14 : decode cX3_placeOf 14 = .ok (.iload_n 2, 1) := by decide +kernel
theorem dX3_placeOf_15 : decode cX3_placeOf 15 = .ok (.iaload, 1) := by decide +kernel
theorem dX3_placeOf_16 : decode cX3_placeOf 16 = .ok (.iload_n 1, 1) := by decide +kernel
theorem dX3_placeOf_17 : decode cX3_placeOf 17 = .ok (.if_icmp .ne 5, 3) := by decide +kernel
theorem dX3_placeOf_20 : decode cX3_placeOf 20 = .ok (.iload_n 2, 1) := by decide +kernel
theorem dX3_placeOf_21 : decode cX3_placeOf 21 = .ok (.ireturn, 1) := by decide +kernel
theorem dX3_placeOf_22 : decode cX3_placeOf 22 = .ok (.iinc 2 1, 3) := by decide +kernel
theorem dX3_placeOf_25 : decode cX3_placeOf 25 = .ok (.goto (-23), 3) := by decide +kernel
theorem dX3_placeOf_28 : decode cX3_placeOf 28 = .ok (.bipush (-9), 2) := by decide +kernel
theorem dX3_placeOf_30 : decode cX3_placeOf 30 = .ok (.ireturn, 1) := by decide +kernel
theorem dX3_placeOrEnd_0 : decode cX3_placeOrEnd 0 = .ok (.aload_n 0, 1) := by decide +kernel
theorem dX3_placeOrEnd_1 : decode cX3_placeOrEnd 1 = .ok (.iload_n 1, 1) := by decide +kernel
theorem dX3_placeOrEnd_2 : decode cX3_placeOrEnd 2 = .ok (.invokevirtual 29, 3) := by decide +kernel
theorem dX3_placeOrEnd_5 : decode cX3_placeOrEnd 5 = .ok (.istore_n 2, 1) := by decide +kernel
theorem dX3_placeOrEnd_6 : decode cX3_placeOrEnd 6 = .ok (.iload_n 2, 1) := by decide +kernel
theorem dX3_placeOrEnd_7 : decode cX3_placeOrEnd 7 = .ok (.bipush (-9), 2) := by decide +kernel
theorem dX3_placeOrEnd_9 : decode cX3_placeOrEnd 9 = .ok (.if_icmp .ne 10, 3) := by decide +kernel
theorem dX3_placeOrEnd_12 : decode cX3_placeOrEnd 12 = .ok (.aload_n 0, 1) := by decide +kernel
theorem dX3_placeOrEnd_13 : decode cX3_placeOrEnd 13 = .ok (.getfield 9, 3) := by decide +kernel
theorem dX3_placeOrEnd_16 : decode cX3_placeOrEnd 16 = .ok (.goto 4, 3) := by decide +kernel
theorem dX3_placeOrEnd_19 : decode cX3_placeOrEnd 19 = .ok (.iload_n 2, 1) := by decide +kernel
theorem dX3_placeOrEnd_20 : decode cX3_placeOrEnd 20 = .ok (.ireturn, 1) := by decide +kernel
theorem dX3_bits_0 : decode cX3_bits 0 = .ok (.iconst 0, 1) := by decide +kernel
theorem dX3_bits_1 : decode cX3_bits 1 = .ok (.istore_n 1, 1) := by decide +kernel
theorem dX3_bits_2 : decode cX3_bits 2 = .ok (.iconst 0, 1) := by decide +kernel
theorem dX3_bits_3 : decode cX3_bits 3 = .ok (.istore_n 2, 1) := by decide +kernel
theorem dX3_bits_4 : decode cX3_bits 4 = .ok (.iload_n 2, 1) := by decide +kernel
theorem dX3_bits_5 : decode cX3_bits 5 = .ok (.aload_n 0, 1) := by decide +kernel
theorem dX3_bits_6 : decode cX3_bits 6 = .ok (.getfield 9, 3) := by decide +kernel
theorem dX3_bits_9 : decode cX3_bits 9 = .ok (.if_icmp .ge 20, 3) := by decide +kernel
theorem dX3_bits_12 : decode cX3_bits 12 = .ok (.iload_n 1, 1) := by decide +kernel
theorem dX3_bits_13 : decode cX3_bits 13 = .ok (.iconst 1, 1) := by decide +kernel
theorem dX3_bits_14 : decode cX3_bits 14 = .ok (.aload_n 0, 1) := by decide +kernel
theorem dX3_bits_15 : decode cX3_bits 15 = .ok (.getfield 21, 3) := by decide +kernel
theorem dX3_bits_18 : decode cX3_bits 18 = .ok (.iload_n 2, 1) := by decide +kernel
theorem dX3_bits_19 : decode cX3_bits 19 = .ok (.iaload, 1) := by decide +kernel
theorem dX3_bits_20 : decode cX3_bits 20 = .ok (.ishl, 1) := by decide +kernel
theorem dX3_bits_21 : decode cX3_bits 21 = .ok (.ior, 1) := by decide +kernel
theorem dX3_bits_22 : decode cX3_bits 22 = .ok (.istore_n 1, 1) := by decide +kernel
theorem dX3_bits_23 : decode cX3_bits 23 = .ok (.iinc 2 1, 3) := by decide +kernel
theorem dX3_bits_26 : decode cX3_bits 26 = .ok (.goto (-22), 3) := by decide +kernel
theorem dX3_bits_29 : decode cX3_bits 29 = .ok (.iload_n 1, 1) := by decide +kernel
theorem dX3_bits_30 : decode cX3_bits 30 = .ok (.ireturn, 1) := by decide +kernel
theorem dX3_read_0 : decode cX3_read 0 = .ok (.aload_n 0, 1) := by decide +kernel
theorem dX3_read_1 : decode cX3_read 1 = .ok (.iconst 0, 1) := by decide +kernel
theorem dX3_read_2 : decode cX3_read 2 = .ok (.putfield 9, 3) := by decide +kernel
theorem dX3_read_5 : decode cX3_read 5 = .ok (.iconst 0, 1) := by decide +kernel
theorem dX3_read_6 : decode cX3_read 6 = .ok (.istore_n 2, 1) := by decide +kernel
theorem dX3_read_7 : decode cX3_read 7 = .ok (.iload_n 2, 1) := by decide +kernel
theorem dX3_read_8 : decode cX3_read 8 = .ok (.aload_n 1, 1) := by decide +kernel
theorem dX3_read_9 : decode cX3_read 9 = .ok (.getfield 33, 3) := by decide +kernel
theorem dX3_read_12 : decode cX3_read 12 = .ok (.if_icmp .ge 22, 3) := by decide +kernel
theorem dX3_read_15 : decode cX3_read 15 = .ok (.aload_n 0, 1) := by decide +kernel
theorem dX3_read_16 : decode cX3_read 16 = .ok (.iload_n 2, 1) := by decide +kernel
theorem dX3_read_17 : decode cX3_read 17 = .ok (.aload_n 1, 1) := by decide +kernel
theorem dX3_read_18 : decode cX3_read 18 = .ok (.iload_n 2, 1) := by decide +kernel
theorem dX3_read_19 : decode cX3_read 19 = .ok (.invokevirtual 36, 3) := by decide +kernel
theorem dX3_read_22 : decode cX3_read 22 = .ok (.bipush 97, 2) := by decide +kernel
theorem dX3_read_24 : decode cX3_read 24 = .ok (.isub, 1) := by decide +kernel
theorem dX3_read_25 : decode cX3_read 25 = .ok (.invokevirtual 39, 3) := by decide +kernel
theorem dX3_read_28 : decode cX3_read 28 = .ok (.iinc 2 1, 3) := by decide +kernel
theorem dX3_read_31 : decode cX3_read 31 = .ok (.goto (-24), 3) := by decide +kernel
theorem dX3_read_34 : decode cX3_read 34 = .ok (.return_, 1) := by decide +kernel
theorem dX3_become_0 : decode cX3_become 0 = .ok (.aload_n 0, 1) := by decide +kernel
theorem dX3_become_1 : decode cX3_become 1 = .ok (.aload_n 1, 1) := by decide +kernel
theorem dX3_become_2 : decode cX3_become 2 = .ok (.getfield 9, 3) := by decide +kernel
theorem dX3_become_5 : decode cX3_become 5 = .ok (.aload_n 0, 1) := by decide +kernel
theorem dX3_become_6 : decode cX3_become 6 = .ok (.getfield 21, 3) := by decide +kernel
theorem dX3_become_9 : decode cX3_become 9 = .ok (.arraylength, 1) := by decide +kernel
theorem dX3_become_10 : decode cX3_become 10 = .ok (.invokestatic 43, 3) := by decide +kernel
theorem dX3_become_13 : decode cX3_become 13 = .ok (.putfield 9, 3) := by decide +kernel
theorem dX3_become_16 : decode cX3_become 16 = .ok (.aload_n 1, 1) := by decide +kernel
theorem dX3_become_17 : decode cX3_become 17 = .ok (.getfield 21, 3) := by decide +kernel
theorem dX3_become_20 : decode cX3_become 20 = .ok (.iconst 0, 1) := by decide +kernel
theorem dX3_become_21 : decode cX3_become 21 = .ok (.aload_n 0, 1) := by decide +kernel
theorem dX3_become_22 : decode cX3_become 22 = .ok (.getfield 21, 3) := by decide +kernel
theorem dX3_become_25 : decode cX3_become 25 = .ok (.iconst 0, 1) := by decide +kernel
theorem dX3_become_26 : decode cX3_become 26 = .ok (.aload_n 0, 1) := by decide +kernel
theorem dX3_become_27 : decode cX3_become 27 = .ok (.getfield 9, 3) := by decide +kernel
theorem dX3_become_30 : decode cX3_become 30 = .ok (.invokestatic 46, 3) := by decide +kernel
theorem dX3_become_33 : decode cX3_become 33 = .ok (.return_, 1) := by decide +kernel
theorem dX3_insert_0 : decode cX3_insert 0 = .ok (.iload_n 1, 1) := by decide +kernel
theorem dX3_insert_1 : decode cX3_insert 1 = .ok (.ifCond .lt 23, 3) := by decide +kernel
theorem dX3_insert_4 : decode cX3_insert 4 = .ok (.iload_n 1, 1) := by decide +kernel
theorem dX3_insert_5 : decode cX3_insert 5 = .ok (.aload_n 0, 1) := by decide +kernel
theorem dX3_insert_6 : decode cX3_insert 6 = .ok (.getfield 9, 3) := by decide +kernel
theorem dX3_insert_9 : decode cX3_insert 9 = .ok (.if_icmp .gt 15, 3) := by decide +kernel
theorem dX3_insert_12 : decode cX3_insert 12 = .ok (.aload_n 0, 1) := by decide +kernel
theorem dX3_insert_13 : decode cX3_insert 13 = .ok (.getfield 9, 3) := by decide +kernel
theorem dX3_insert_16 : decode cX3_insert 16 = .ok (.aload_n 0, 1) := by decide +kernel
theorem dX3_insert_17 : decode cX3_insert 17 = .ok (.getfield 21, 3) := by decide +kernel
theorem dX3_insert_20 : decode cX3_insert 20 = .ok (.arraylength, 1) := by decide +kernel
theorem dX3_insert_21 : decode cX3_insert 21 = .ok (.if_icmp .lt 4, 3) := by decide +kernel
theorem dX3_insert_24 : decode cX3_insert 24 = .ok (.return_, 1) := by decide +kernel
theorem dX3_insert_25 : decode cX3_insert 25 = .ok (.aload_n 0, 1) := by decide +kernel
theorem dX3_insert_26 : decode cX3_insert 26 = .ok (.getfield 21, 3) := by decide +kernel
theorem dX3_insert_29 : decode cX3_insert 29 = .ok (.iload_n 1, 1) := by decide +kernel
theorem dX3_insert_30 : decode cX3_insert 30 = .ok (.aload_n 0, 1) := by decide +kernel
theorem dX3_insert_31 : decode cX3_insert 31 = .ok (.getfield 21, 3) := by decide +kernel
theorem dX3_insert_34 : decode cX3_insert 34 = .ok (.iload_n 1, 1) := by decide +kernel
theorem dX3_insert_35 : decode cX3_insert 35 = .ok (.iconst 1, 1) := by decide +kernel
theorem dX3_insert_36 : decode cX3_insert 36 = .ok (.iadd, 1) := by decide +kernel
theorem dX3_insert_37 : decode cX3_insert 37 = .ok (.aload_n 0, 1) := by decide +kernel
theorem dX3_insert_38 : decode cX3_insert 38 = .ok (.getfield 9, 3) := by decide +kernel
theorem dX3_insert_41 : decode cX3_insert 41 = .ok (.iload_n 1, 1) := by decide +kernel
theorem dX3_insert_42 : decode cX3_insert 42 = .ok (.isub, 1) := by decide +kernel
theorem dX3_insert_43 : decode cX3_insert 43 = .ok (.invokestatic 46, 3) := by decide +kernel
theorem dX3_insert_46 : decode cX3_insert 46 = .ok (.aload_n 0, 1) := by decide +kernel
theorem dX3_insert_47 : decode cX3_insert 47 = .ok (.getfield 21, 3) := by decide +kernel
theorem dX3_insert_50 : decode cX3_insert 50 = .ok (.iload_n 1, 1) := by decide +kernel
theorem dX3_insert_51 : decode cX3_insert 51 = .ok (.iload_n 2, 1) := by decide +kernel
theorem dX3_insert_52 : decode cX3_insert 52 = .ok (.iastore, 1) := by decide +kernel
theorem dX3_insert_53 : decode cX3_insert 53 = .ok (.aload_n 0, 1) := by decide +kernel
theorem dX3_insert_54 : decode cX3_insert 54 = .ok (.dup, 1) := by decide +kernel
theorem dX3_insert_55 : decode cX3_insert 55 = .ok (.getfield 9, 3) := by decide +kernel
theorem dX3_insert_58 : decode cX3_insert 58 = .ok (.iconst 1, 1) := by decide +kernel
theorem dX3_insert_59 : decode cX3_insert 59 = .ok (.iadd, 1) := by decide +kernel
theorem dX3_insert_60 : decode cX3_insert 60 = .ok (.putfield 9, 3) := by decide +kernel
theorem dX3_insert_63 : decode cX3_insert 63 = .ok (.return_, 1) := by decide +kernel
theorem dX3_remove_0 : decode cX3_remove 0 = .ok (.aload_n 0, 1) := by decide +kernel
theorem dX3_remove_1 : decode cX3_remove 1 = .ok (.iload_n 1, 1) := by decide +kernel
theorem dX3_remove_2 : decode cX3_remove 2 = .ok (.invokevirtual 25, 3) := by decide +kernel
theorem dX3_remove_5 : decode cX3_remove 5 = .ok (.ifCond .ne 4, 3) := by decide +kernel
theorem dX3_remove_8 : decode cX3_remove 8 = .ok (.return_, 1) := by decide +kernel
theorem dX3_remove_9 : decode cX3_remove 9 = .ok (.aload_n 0, 1) := by decide +kernel
theorem dX3_remove_10 : decode cX3_remove 10 = .ok (.dup, 1) := by decide +kernel
theorem dX3_remove_11 : decode cX3_remove 11 = .ok (.getfield 9, 3) := by decide +kernel
theorem dX3_remove_14 : decode cX3_remove 14 = .ok (.iconst 1, 1) := by decide +kernel
theorem dX3_remove_15 : decode cX3_remove 15 = .ok (.isub, 1) := by decide +kernel
theorem dX3_remove_16 : decode cX3_remove 16 = .ok (.putfield 9, 3) := by decide +kernel
theorem dX3_remove_19 : decode cX3_remove 19 = .ok (.aload_n 0, 1) := by decide +kernel
theorem dX3_remove_20 : decode cX3_remove 20 = .ok (.getfield 21, 3) := by decide +kernel
theorem dX3_remove_23 : decode cX3_remove 23 = .ok (.iload_n 1, 1) := by decide +kernel
theorem dX3_remove_24 : decode cX3_remove 24 = .ok (.iconst 1, 1) := by decide +kernel
theorem dX3_remove_25 : decode cX3_remove 25 = .ok (.iadd, 1) := by decide +kernel
theorem dX3_remove_26 : decode cX3_remove 26 = .ok (.aload_n 0, 1) := by decide +kernel
theorem dX3_remove_27 : decode cX3_remove 27 = .ok (.getfield 21, 3) := by decide +kernel
theorem dX3_remove_30 : decode cX3_remove 30 = .ok (.iload_n 1, 1) := by decide +kernel
theorem dX3_remove_31 : decode cX3_remove 31 = .ok (.aload_n 0, 1) := by decide +kernel
theorem dX3_remove_32 : decode cX3_remove 32 = .ok (.getfield 9, 3) := by decide +kernel
theorem dX3_remove_35 : decode cX3_remove 35 = .ok (.iload_n 1, 1) := by decide +kernel
theorem dX3_remove_36 : decode cX3_remove 36 = .ok (.isub, 1) := by decide +kernel
theorem dX3_remove_37 : decode cX3_remove 37 = .ok (.invokestatic 46, 3) := by decide +kernel
theorem dX3_remove_40 : decode cX3_remove 40 = .ok (.return_, 1) := by decide +kernel
theorem dX3_swapWithAhead_0 : decode cX3_swapWithAhead 0 = .ok (.iload_n 1, 1) := by decide +kernel
theorem dX3_swapWithAhead_1 : decode cX3_swapWithAhead 1 = .ok (.iconst 1, 1) := by decide +kernel
theorem dX3_swapWithAhead_2 : decode cX3_swapWithAhead 2 = .ok (.if_icmp .lt 41, 3) := by decide +kernel
theorem dX3_swapWithAhead_5 : decode cX3_swapWithAhead 5 = .ok (.iload_n 1, 1) := by decide +kernel
theorem dX3_swapWithAhead_6 : decode cX3_swapWithAhead 6 = .ok (.aload_n 0, 1) := by decide +kernel
theorem dX3_swapWithAhead_7 : decode cX3_swapWithAhead 7 = .ok (.getfield 9, 3) := by decide +kernel
theorem dX3_swapWithAhead_10 : decode cX3_swapWithAhead 10 = .ok (.if_icmp .ge 33, 3) := by decide +kernel
theorem dX3_swapWithAhead_13 : decode cX3_swapWithAhead 13 = .ok (.aload_n 0, 1) := by decide +kernel
theorem dX3_swapWithAhead_14 : decode cX3_swapWithAhead 14 = .ok (.getfield 21, 3) := by decide +kernel
theorem dX3_swapWithAhead_17 : decode cX3_swapWithAhead 17 = .ok (.iload_n 1, 1) := by decide +kernel
theorem dX3_swapWithAhead_18 : decode cX3_swapWithAhead 18 = .ok (.iaload, 1) := by decide +kernel
theorem dX3_swapWithAhead_19 : decode cX3_swapWithAhead 19 = .ok (.istore_n 2, 1) := by decide +kernel
theorem dX3_swapWithAhead_20 : decode cX3_swapWithAhead 20 = .ok (.aload_n 0, 1) := by decide +kernel
theorem dX3_swapWithAhead_21 : decode cX3_swapWithAhead 21 = .ok (.getfield 21, 3) := by decide +kernel
theorem dX3_swapWithAhead_24 : decode cX3_swapWithAhead 24 = .ok (.iload_n 1, 1) := by decide +kernel
theorem dX3_swapWithAhead_25 : decode cX3_swapWithAhead 25 = .ok (.aload_n 0, 1) := by decide +kernel
theorem dX3_swapWithAhead_26 : decode cX3_swapWithAhead 26 = .ok (.getfield 21, 3) := by decide +kernel
theorem dX3_swapWithAhead_29 : decode cX3_swapWithAhead 29 = .ok (.iload_n 1, 1) := by decide +kernel
theorem dX3_swapWithAhead_30 : decode cX3_swapWithAhead 30 = .ok (.iconst 1, 1) := by decide +kernel
theorem dX3_swapWithAhead_31 : decode cX3_swapWithAhead 31 = .ok (.isub, 1) := by decide +kernel
theorem dX3_swapWithAhead_32 : decode cX3_swapWithAhead 32 = .ok (.iaload, 1) := by decide +kernel
theorem dX3_swapWithAhead_33 : decode cX3_swapWithAhead 33 = .ok (.iastore, 1) := by decide +kernel
theorem dX3_swapWithAhead_34 : decode cX3_swapWithAhead 34 = .ok (.aload_n 0, 1) := by decide +kernel
theorem dX3_swapWithAhead_35 : decode cX3_swapWithAhead 35 = .ok (.getfield 21, 3) := by decide +kernel
theorem dX3_swapWithAhead_38 : decode cX3_swapWithAhead 38 = .ok (.iload_n 1, 1) := by decide +kernel
theorem dX3_swapWithAhead_39 : decode cX3_swapWithAhead 39 = .ok (.iconst 1, 1) := by decide +kernel
theorem dX3_swapWithAhead_40 : decode cX3_swapWithAhead 40 = .ok (.isub, 1) := by decide +kernel
theorem dX3_swapWithAhead_41 : decode cX3_swapWithAhead 41 = .ok (.iload_n 2, 1) := by decide +kernel
theorem dX3_swapWithAhead_42 : decode cX3_swapWithAhead 42 = .ok (.iastore, 1) := by decide +kernel
theorem dX3_swapWithAhead_43 : decode cX3_swapWithAhead 43 = .ok (.return_, 1) := by decide +kernel
theorem dX4_init_0 : decode cX4_init 0 = .ok (.aload_n 0, 1) := by decide +kernel
theorem dX4_init_1 : decode cX4_init 1 = .ok (.invokespecial 3, 3) := by decide +kernel
theorem dX4_init_4 : decode cX4_init 4 = .ok (.aload_n 0, 1) := by decide +kernel
theorem dX4_init_5 : decode cX4_init 5 = .ok (.new 9, 3) := by decide +kernel
theorem dX4_init_8 : decode cX4_init 8 = .ok (.dup, 1) := by decide +kernel
theorem dX4_init_9 : decode cX4_init 9 = .ok (.bipush 19, 2) := by decide +kernel
theorem dX4_init_11 : decode cX4_init 11 = .ok (.invokespecial 11, 3) := by decide +kernel
theorem dX4_init_14 : decode cX4_init 14 = .ok (.putfield 14, 3) := by decide +kernel
theorem dX4_init_17 : decode cX4_init 17 = .ok (.aload_n 0, 1) := by decide +kernel
theorem dX4_init_18 : decode cX4_init 18 = .ok (.new 20, 3) := by decide +kernel
theorem dX4_init_21 : decode cX4_init 21 = .ok (.dup, 1) := by decide +kernel
theorem dX4_init_22 : decode cX4_init 22 = .ok (.invokespecial 22, 3) := by decide +kernel
theorem dX4_init_25 : decode cX4_init 25 = .ok (.putfield 23, 3) := by decide +kernel
theorem dX4_init_28 : decode cX4_init 28 = .ok (.aload_n 0, 1) := by decide +kernel
theorem dX4_init_29 : decode cX4_init 29 = .ok (.iconst 0, 1) := by decide +kernel
theorem dX4_init_30 : decode cX4_init 30 = .ok (.putfield 27, 3) := by decide +kernel
theorem dX4_init_33 : decode cX4_init 33 = .ok (.aload_n 0, 1) := by decide +kernel
theorem dX4_init_34 : decode cX4_init 34 = .ok (.iconst 0, 1) := by decide +kernel
theorem dX4_init_35 : decode cX4_init 35 = .ok (.putfield 31, 3) := by decide +kernel
theorem dX4_init_38 : decode cX4_init 38 = .ok (.aload_n 0, 1) := by decide +kernel
theorem dX4_init_39 : decode cX4_init 39 = .ok (.iconst 0, 1) := by decide +kernel
theorem dX4_init_40 : decode cX4_init 40 = .ok (.putfield 34, 3) := by decide +kernel
theorem dX4_init_43 : decode cX4_init 43 = .ok (.return_, 1) := by decide +kernel
theorem dX4_begin_0 : decode cX4_begin 0 = .ok (.aload_n 0, 1) := by decide +kernel
theorem dX4_begin_1 : decode cX4_begin 1 = .ok (.getfield 14, 3) := by decide +kernel
theorem dX4_begin_4 : decode cX4_begin 4 = .ok (.aload_n 1, 1) := by decide +kernel
theorem dX4_begin_5 : decode cX4_begin 5 = .ok (.invokevirtual 37, 3) := by decide +kernel
theorem dX4_begin_8 : decode cX4_begin 8 = .ok (.aload_n 0, 1) := by decide +kernel
theorem dX4_begin_9 : decode cX4_begin 9 = .ok (.getfield 23, 3) := by decide +kernel
theorem dX4_begin_12 : decode cX4_begin 12 = .ok (.aload_n 2, 1) := by decide +kernel
theorem dX4_begin_13 : decode cX4_begin 13 = .ok (.invokevirtual 41, 3) := by decide +kernel
theorem dX4_begin_16 : decode cX4_begin 16 = .ok (.aload_n 0, 1) := by decide +kernel
theorem dX4_begin_17 : decode cX4_begin 17 = .ok (.iconst 0, 1) := by decide +kernel
theorem dX4_begin_18 : decode cX4_begin 18 = .ok (.putfield 27, 3) := by decide +kernel
theorem dX4_begin_21 : decode cX4_begin 21 = .ok (.aload_n 0, 1) := by decide +kernel
theorem dX4_begin_22 : decode cX4_begin 22 = .ok (.iconst 0, 1) := by decide +kernel
theorem dX4_begin_23 : decode cX4_begin 23 = .ok (.putfield 31, 3) := by decide +kernel
theorem dX4_begin_26 : decode cX4_begin 26 = .ok (.aload_n 0, 1) := by decide +kernel
theorem dX4_begin_27 : decode cX4_begin 27 = .ok (.iconst 0, 1) := by decide +kernel
theorem dX4_begin_28 : decode cX4_begin 28 = .ok (.putfield 34, 3) := by decide +kernel
theorem dX4_begin_31 : decode cX4_begin 31 = .ok (.return_, 1) := by decide +kernel
theorem dX4_speak_0 : decode cX4_speak 0 = .ok (.aload_n 1, 1) := by decide +kernel
theorem dX4_speak_1 : decode cX4_speak 1 = .ok (.getfield 44, 3) := by decide +kernel
theorem dX4_speak_4 : decode cX4_speak 4 = .ok (.iconst 1, 1) := by decide +kernel
theorem dX4_speak_5 : decode cX4_speak 5 = .ok (.iaload, 1) := by decide +kernel
theorem dX4_speak_6 : decode cX4_speak 6 = .ok (.istore_n 3, 1) := by decide +kernel
theorem dX4_speak_7 : decode cX4_speak 7 = .ok (.aload_n 0, 1) := by decide +kernel
theorem dX4_speak_8 : decode cX4_speak 8 = .ok (.iload_n 3, 1) := by decide +kernel
theorem dX4_speak_9 : decode cX4_speak 9 = .ok (.aload_n 1, 1) := by decide +kernel
theorem dX4_speak_10 : decode cX4_speak 10 = .ok (.getfield 44, 3) := by decide +kernel
theorem dX4_speak_13 : decode cX4_speak 13 = .ok (.iconst 3, 1) := by decide +kernel
theorem dX4_speak_14 : decode cX4_speak 14 = .ok (.iaload, 1) := by decide +kernel
theorem dX4_speak_15 : decode cX4_speak 15 = .ok (.iload_n 2, 1) := by decide +kernel
theorem dX4_speak_16 : decode cX4_speak 16 = .ok (.invokevirtual 50, 3) := by decide +kernel
theorem dX4_speak_19 : decode cX4_speak 19 = .ok (.aload_n 0, 1) := by decide +kernel
theorem dX4_speak_20 : decode cX4_speak 20 = .ok (.iload_n 3, 1) := by decide +kernel
theorem dX4_speak_21 : decode cX4_speak 21 = .ok (.aload_n 1, 1) := by decide +kernel
theorem dX4_speak_22 : decode cX4_speak 22 = .ok (.getfield 44, 3) := by decide +kernel
theorem dX4_speak_25 : decode cX4_speak 25 = .ok (.iconst 4, 1) := by decide +kernel
theorem dX4_speak_26 : decode cX4_speak 26 = .ok (.iaload, 1) := by decide +kernel
theorem dX4_speak_27 : decode cX4_speak 27 = .ok (.invokevirtual 54, 3) := by decide +kernel
theorem dX4_speak_30 : decode cX4_speak 30 = .ok (.aload_n 0, 1) := by decide +kernel
theorem dX4_speak_31 : decode cX4_speak 31 = .ok (.iload_n 3, 1) := by decide +kernel
theorem dX4_speak_32 : decode cX4_speak 32 = .ok (.aload_n 1, 1) := by decide +kernel
theorem dX4_speak_33 : decode cX4_speak 33 = .ok (.getfield 44, 3) := by decide +kernel
theorem dX4_speak_36 : decode cX4_speak 36 = .ok (.iconst 2, 1) := by decide +kernel
theorem dX4_speak_37 : decode cX4_speak 37 = .ok (.iaload, 1) := by decide +kernel
theorem dX4_speak_38 : decode cX4_speak 38 = .ok (.invokevirtual 58, 3) := by decide +kernel
theorem dX4_speak_41 : decode cX4_speak 41 = .ok (.iload_n 2, 1) := by decide +kernel
theorem dX4_speak_42 : decode cX4_speak 42 = .ok (.bipush (-9), 2) := by decide +kernel
theorem dX4_speak_44 : decode cX4_speak 44 = .ok (.if_icmp .eq 18, 3) := by decide +kernel
theorem dX4_speak_47 : decode cX4_speak 47 = .ok (.aload_n 0, 1) := by decide +kernel
theorem dX4_speak_48 : decode cX4_speak 48 = .ok (.getfield 14, 3) := by decide +kernel
theorem dX4_speak_51 : decode cX4_speak 51 = .ok (.aload_n 0, 1) := by decide +kernel
theorem dX4_speak_52 : decode cX4_speak 52 = .ok (.getfield 14, 3) := by decide +kernel
theorem dX4_speak_55 : decode cX4_speak 55 = .ok (.getfield 61, 3) := by decide +kernel
theorem dX4_speak_58 : decode cX4_speak 58 = .ok (.iload_n 2, 1) := by decide +kernel
theorem dX4_speak_59 : decode cX4_speak 59 = .ok (.invokevirtual 64, 3) := by decide +kernel
theorem dX4_speak_62 : decode cX4_speak 62 = .ok (.aload_n 0, 1) := by decide +kernel
theorem dX4_speak_63 : decode cX4_speak 63 = .ok (.iload_n 3, 1) := by decide +kernel
theorem dX4_speak_64 : decode cX4_speak 64 = .ok (.aload_n 1, 1) := by decide +kernel
theorem dX4_speak_65 : decode cX4_speak 65 = .ok (.getfield 44, 3) := by decide +kernel
theorem dX4_speak_68 : decode cX4_speak 68 = .ok (.iconst 0, 1) := by decide +kernel
theorem dX4_speak_69 : decode cX4_speak 69 = .ok (.iaload, 1) := by decide +kernel
theorem dX4_speak_70 : decode cX4_speak 70 = .ok (.invokevirtual 67, 3) := by decide +kernel
theorem dX4_speak_73 : decode cX4_speak 73 = .ok (.return_, 1) := by decide +kernel
theorem dX4_changed_0 : decode cX4_changed 0 = .ok (.iload_n 1, 1) := by decide +kernel
theorem dX4_changed_1 : decode cX4_changed 1 = .ok (.ifCond .ne 10, 3) := by decide +kernel
theorem dX4_changed_4 : decode cX4_changed 4 = .ok (.aload_n 0, 1) := by decide +kernel
theorem dX4_changed_5 : decode cX4_changed 5 = .ok (.getfield 27, 3) := by decide +kernel
theorem dX4_changed_8 : decode cX4_changed 8 = .ok (.goto 19, 3) := by decide +kernel
theorem dX4_changed_11 : decode cX4_changed 11 = .ok (.iload_n 1, 1) := by decide +kernel
theorem dX4_changed_12 : decode cX4_changed 12 = .ok (.iconst 1, 1) := by decide +kernel
theorem dX4_changed_13 : decode cX4_changed 13 = .ok (.if_icmp .ne 10, 3) := by decide +kernel
theorem dX4_changed_16 : decode cX4_changed 16 = .ok (.aload_n 0, 1) := by decide +kernel
theorem dX4_changed_17 : decode cX4_changed 17 = .ok (.getfield 31, 3) := by decide +kernel
theorem dX4_changed_20 : decode cX4_changed 20 = .ok (.goto 7, 3) := by decide +kernel
theorem dX4_changed_23 : decode cX4_changed 23 = .ok (.aload_n 0, 1) := by decide +kernel
theorem dX4_changed_24 : decode cX4_changed 24 = .ok (.getfield 34, 3) := by decide +kernel
theorem dX4_changed_27 : decode cX4_changed 27 = .ok (.ireturn, 1) := by decide +kernel
theorem dX4_takeStrong_0 : decode cX4_takeStrong 0 = .ok (.iconst 0, 1) := by decide +kernel
theorem dX4_takeStrong_1 : decode cX4_takeStrong 1 = .ok (.istore 4, 2) := by decide +kernel
theorem dX4_takeStrong_3 : decode cX4_takeStrong 3 = .ok (.iload 4, 2) := by decide +kernel
theorem dX4_takeStrong_5 : decode cX4_takeStrong 5 = .ok (.bipush 6, 2) := by decide +kernel
theorem dX4_takeStrong_7 : decode cX4_takeStrong 7 = .ok (.if_icmp .ge 98, 3) := by decide +kernel
theorem dX4_takeStrong_10 : decode cX4_takeStrong 10 = .ok (.aload_n 0, 1) := by decide +kernel
theorem dX4_takeStrong_11 : decode cX4_takeStrong 11 = .ok (.getfield 23, 3) := by decide +kernel
theorem dX4_takeStrong_14 : decode cX4_takeStrong 14 = .ok (.getfield 70, 3) := by decide +kernel
theorem dX4_takeStrong_17 : decode cX4_takeStrong 17 = .ok (.iload 4, 2) := by decide +kernel
theorem dX4_takeStrong_19 : decode cX4_takeStrong 19 = .ok (.iaload, 1) := by decide +kernel
theorem dX4_takeStrong_20 : decode cX4_takeStrong 20 = .ok (.istore 5, 2) := by decide +kernel
theorem dX4_takeStrong_22 : decode cX4_takeStrong 22 = .ok (.iload 5, 2) := by decide +kernel
theorem dX4_takeStrong_24 : decode cX4_takeStrong 24 = .ok (.bipush (-9), 2) := by decide +kernel
theorem dX4_takeStrong_26 : decode cX4_takeStrong 26 = .ok (.if_icmp .eq 73, 3) := by decide +kernel
theorem dX4_takeStrong_29 : decode cX4_takeStrong 29 = .ok (.iload 5, 2) := by decide +kernel
theorem dX4_takeStrong_31 : decode cX4_takeStrong 31 = .ok (.iload_n 3, 1) := by decide +kernel
theorem dX4_takeStrong_32 : decode cX4_takeStrong 32 = .ok (.if_icmp .eq 67, 3) := by decide +kernel
theorem dX4_takeStrong_35 : decode cX4_takeStrong 35 = .ok (.aload_n 0, 1) := by decide +kernel
theorem dX4_takeStrong_36 : decode cX4_takeStrong 36 = .ok (.getfield 23, 3) := by decide +kernel
theorem dX4_takeStrong_39 : decode cX4_takeStrong 39 = .ok (.getfield 73, 3) := by decide +kernel
theorem dX4_takeStrong_42 : decode cX4_takeStrong 42 = .ok (.iload 4, 2) := by decide +kernel
theorem dX4_takeStrong_44 : decode cX4_takeStrong 44 = .ok (.iaload, 1) := by decide +kernel
theorem dX4_takeStrong_45 : decode cX4_takeStrong 45 = .ok (.iload_n 2, 1) := by decide +kernel
theorem dX4_takeStrong_46 : decode cX4_takeStrong 46 = .ok (.if_icmp .ge 6, 3) := by decide +kernel
theorem dX4_takeStrong_49 : decode cX4_takeStrong 49 = .ok (.goto 50, 3) := by decide +kernel
theorem dX4_takeStrong_52 : decode cX4_takeStrong 52 = .ok (.aload_n 0, 1) := by decide +kernel
theorem dX4_takeStrong_53 : decode cX4_takeStrong 53 = .ok (.getfield 14, 3) := by decide +kernel
theorem dX4_takeStrong_56 : decode cX4_takeStrong 56 = .ok (.iload 5, 2) := by decide +kernel
theorem dX4_takeStrong_58 : decode cX4_takeStrong 58 = .ok (.invokevirtual 76, 3) := by decide +kernel
theorem dX4_takeStrong_61 : decode cX4_takeStrong 61 = .ok (.bipush (-9), 2) := by decide +kernel
theorem dX4_takeStrong_63 : decode cX4_takeStrong 63 = .ok (.if_icmp .ne 36, 3) := by decide +kernel
theorem dX4_takeStrong_66 : decode cX4_takeStrong 66 = .ok (.aload_n 0, 1) := by decide +kernel
theorem dX4_takeStrong_67 : decode cX4_takeStrong 67 = .ok (.getfield 14, 3) := by decide +kernel
theorem dX4_takeStrong_70 : decode cX4_takeStrong 70 = .ok (.iload_n 1, 1) := by decide +kernel
theorem dX4_takeStrong_71 : decode cX4_takeStrong 71 = .ok (.aload_n 0, 1) := by decide +kernel
theorem dX4_takeStrong_72 : decode cX4_takeStrong 72 = .ok (.getfield 14, 3) := by decide +kernel
theorem dX4_takeStrong_75 : decode cX4_takeStrong 75 = .ok (.getfield 61, 3) := by decide +kernel
theorem dX4_takeStrong_78 : decode cX4_takeStrong 78 = .ok (.invokestatic 80, 3) := by decide +kernel
theorem dX4_takeStrong_81 : decode cX4_takeStrong 81 = .ok (.iload 5, 2) := by decide +kernel
theorem dX4_takeStrong_83 : decode cX4_takeStrong 83 = .ok (.invokevirtual 64, 3) := by decide +kernel
theorem dX4_takeStrong_86 : decode cX4_takeStrong 86 = .ok (.aload_n 0, 1) := by decide +kernel
theorem dX4_takeStrong_87 : decode cX4_takeStrong 87 = .ok (.dup, 1) := by decide +kernel
theorem dX4_takeStrong_88 : decode cX4_takeStrong 88 = .ok (.getfield 27, 3) := by decide +kernel
theorem dX4_takeStrong_91 : decode cX4_takeStrong 91 = .ok (.iconst 1, 1) := by decide +kernel
theorem dX4_takeStrong_92 : decode cX4_takeStrong 92 = .ok (.iload 5, 2) := by decide +kernel
theorem dX4_takeStrong_94 : decode cX4_takeStrong 94 = .ok (.ishl, 1) := by decide +kernel
theorem dX4_takeStrong_95 : decode cX4_takeStrong 95 = .ok (.ior, 1) := by decide +kernel
theorem dX4_takeStrong_96 : decode cX4_takeStrong 96 = .ok (.putfield 27, 3) := by decide +kernel
theorem dX4_takeStrong_99 : decode cX4_takeStrong 99 = .ok (.iinc 4 1, 3) := by decide +kernel
theorem dX4_takeStrong_102 : decode cX4_takeStrong 102 = .ok (.goto (-99), 3) := by decide +kernel
theorem dX4_takeStrong_105 : decode cX4_takeStrong 105 = .ok (.return_, 1) := by decide +kernel
theorem dX4_moveStrong_0 : decode cX4_moveStrong 0 = .ok (.iconst 0, 1) := by decide +kernel
theorem dX4_moveStrong_1 : decode cX4_moveStrong 1 = .ok (.istore_n 3, 1) := by decide +kernel
theorem dX4_moveStrong_2 : decode cX4_moveStrong 2 = .ok (.iload_n 3, 1) := by decide +kernel
theorem dX4_moveStrong_3 : decode cX4_moveStrong 3 = .ok (.bipush 6, 2) := by decide +kernel
theorem dX4_moveStrong_5 : decode cX4_moveStrong 5 = .ok (.if_icmp .ge 82, 3) := by decide +kernel
theorem dX4_moveStrong_8 : decode cX4_moveStrong 8 = .ok (.aload_n 0, 1) := by decide +kernel
theorem dX4_moveStrong_9 : decode cX4_moveStrong 9 = .ok (.getfield 23, 3) := by decide +kernel
theorem dX4_moveStrong_12 : decode cX4_moveStrong 12 = .ok (.getfield 70, 3) := by decide +kernel
theorem dX4_moveStrong_15 : decode cX4_moveStrong 15 = .ok (.iload_n 3, 1) := by decide +kernel
theorem dX4_moveStrong_16 : decode cX4_moveStrong 16 = .ok (.iaload, 1) := by decide +kernel
theorem dX4_moveStrong_17 : decode cX4_moveStrong 17 = .ok (.istore 4, 2) := by decide +kernel
theorem dX4_moveStrong_19 : decode cX4_moveStrong 19 = .ok (.iload 4, 2) := by decide +kernel
theorem dX4_moveStrong_21 : decode cX4_moveStrong 21 = .ok (.bipush (-9), 2) := by decide +kernel
theorem dX4_moveStrong_23 : decode cX4_moveStrong 23 = .ok (.if_icmp .eq 58, 3) := by decide +kernel
theorem dX4_moveStrong_26 : decode cX4_moveStrong 26 = .ok (.aload_n 0, 1) := by decide +kernel
theorem dX4_moveStrong_27 : decode cX4_moveStrong 27 = .ok (.getfield 23, 3) := by decide +kernel
theorem dX4_moveStrong_30 : decode cX4_moveStrong 30 = .ok (.getfield 73, 3) := by decide +kernel
theorem dX4_moveStrong_33 : decode cX4_moveStrong 33 = .ok (.iload_n 3, 1) := by decide +kernel
theorem dX4_moveStrong_34 : decode cX4_moveStrong 34 = .ok (.iaload, 1) := by decide +kernel
theorem dX4_moveStrong_35 : decode cX4_moveStrong 35 = .ok (.iload_n 2, 1) := by decide +kernel
theorem dX4_moveStrong_36 : decode cX4_moveStrong 36 = .ok (.if_icmp .ge 6, 3) := by decide +kernel
theorem dX4_moveStrong_39 : decode cX4_moveStrong 39 = .ok (.goto 42, 3) := by decide +kernel
theorem dX4_moveStrong_42 : decode cX4_moveStrong 42 = .ok (.aload_n 0, 1) := by decide +kernel
theorem dX4_moveStrong_43 : decode cX4_moveStrong 43 = .ok (.getfield 14, 3) := by decide +kernel
theorem dX4_moveStrong_46 : decode cX4_moveStrong 46 = .ok (.iload 4, 2) := by decide +kernel
theorem dX4_moveStrong_48 : decode cX4_moveStrong 48 = .ok (.invokevirtual 76, 3) := by decide +kernel
theorem dX4_moveStrong_51 : decode cX4_moveStrong 51 = .ok (.istore 5, 2) := by decide +kernel
theorem dX4_moveStrong_53 : decode cX4_moveStrong 53 = .ok (.iload 5, 2) := by decide +kernel
theorem dX4_moveStrong_55 : decode cX4_moveStrong 55 = .ok (.iload_n 1, 1) := by decide +kernel
theorem dX4_moveStrong_56 : decode cX4_moveStrong 56 = .ok (.if_icmp .le 25, 3) := by decide +kernel
theorem dX4_moveStrong_59 : decode cX4_moveStrong 59 = .ok (.aload_n 0, 1) := by decide +kernel
theorem dX4_moveStrong_60 : decode cX4_moveStrong 60 = .ok (.getfield 14, 3) := by decide +kernel
theorem dX4_moveStrong_63 : decode cX4_moveStrong 63 = .ok (.iload 5, 2) := by decide +kernel
theorem dX4_moveStrong_65 : decode cX4_moveStrong 65 = .ok (.invokevirtual 86, 3) := by decide +kernel
theorem dX4_moveStrong_68 : decode cX4_moveStrong 68 = .ok (.aload_n 0, 1) := by decide +kernel
theorem dX4_moveStrong_69 : decode cX4_moveStrong 69 = .ok (.dup, 1) := by decide +kernel
theorem dX4_moveStrong_70 : decode cX4_moveStrong 70 = .ok (.getfield 31, 3) := by decide +kernel
theorem dX4_moveStrong_73 : decode cX4_moveStrong 73 = .ok (.iconst 1, 1) := by decide +kernel
theorem dX4_moveStrong_74 : decode cX4_moveStrong 74 = .ok (.iload 4, 2) := by decide +kernel
theorem dX4_moveStrong_76 : decode cX4_moveStrong 76 = .ok (.ishl, 1) := by decide +kernel
theorem dX4_moveStrong_77 : decode cX4_moveStrong 77 = .ok (.ior, 1) := by decide +kernel
theorem dX4_moveStrong_78 : decode cX4_moveStrong 78 = .ok (.putfield 31, 3) := by decide +kernel
theorem dX4_moveStrong_81 : decode cX4_moveStrong 81 = .ok (.iinc 3 1, 3) := by decide +kernel
theorem dX4_moveStrong_84 : decode cX4_moveStrong 84 = .ok (.goto (-82), 3) := by decide +kernel
theorem dX4_moveStrong_87 : decode cX4_moveStrong 87 = .ok (.return_, 1) := by decide +kernel
theorem dX4_dropWeak_0 : decode cX4_dropWeak 0 = .ok (.aload_n 0, 1) := by decide +kernel
theorem dX4_dropWeak_1 : decode cX4_dropWeak 1 = .ok (.getfield 14, 3) := by decide +kernel
theorem dX4_dropWeak_4 : decode cX4_dropWeak 4 = .ok (.getfield 61, 3) := by decide +kernel
theorem dX4_dropWeak_7 : decode cX4_dropWeak 7 = .ok (.iconst 1, 1) := by decide +kernel
theorem dX4_dropWeak_8 : decode cX4_dropWeak 8 = .ok (.isub, 1) := by decide +kernel
theorem dX4_dropWeak_9 : decode cX4_dropWeak 9 = .ok (.istore_n 3, 1) := by decide +kernel
theorem dX4_dropWeak_10 : decode cX4_dropWeak 10 = .ok (.iload_n 3, 1) := by decide +kernel
theorem dX4_dropWeak_11 : decode cX4_dropWeak 11 = .ok (.iload_n 1, 1) := by decide +kernel
theorem dX4_dropWeak_12 : decode cX4_dropWeak 12 = .ok (.if_icmp .lt 33, 3) := by decide +kernel
theorem dX4_dropWeak_15 : decode cX4_dropWeak 15 = .ok (.aload_n 0, 1) := by decide +kernel
theorem dX4_dropWeak_16 : decode cX4_dropWeak 16 = .ok (.getfield 23, 3) := by decide +kernel
theorem dX4_dropWeak_19 : decode cX4_dropWeak 19 = .ok (.aload_n 0, 1) := by decide +kernel
theorem dX4_dropWeak_20 : decode cX4_dropWeak 20 = .ok (.getfield 14, 3) := by decide +kernel
theorem dX4_dropWeak_23 : decode cX4_dropWeak 23 = .ok (.iload_n 3, 1) := by decide +kernel
theorem dX4_dropWeak_24 : decode cX4_dropWeak 24 = .ok (.invokevirtual 89, 3) := by decide +kernel
theorem dX4_dropWeak_27 : decode cX4_dropWeak 27 = .ok (.iload_n 2, 1) := by decide +kernel
theorem dX4_dropWeak_28 : decode cX4_dropWeak 28 = .ok (.invokevirtual 92, 3) := by decide +kernel
theorem dX4_dropWeak_31 : decode cX4_dropWeak 31 = .ok (.ifCond .eq 8, 3) := by decide +kernel
theorem dX4_dropWeak_34 : decode cX4_dropWeak 34 = .ok (.aload_n 0, 1) := by decide +kernel
theorem dX4_dropWeak_35 : decode cX4_dropWeak 35 = .ok (.iload_n 3, 1) := by decide +kernel
theorem dX4_dropWeak_36 : decode cX4_dropWeak 36 = .ok (.invokevirtual 96, 3) := by decide +kernel
theorem dX4_dropWeak_39 : decode cX4_dropWeak 39 = .ok (.iinc 3 (-1), 3) := by decide +kernel
theorem dX4_dropWeak_42 : decode cX4_dropWeak 42 = .ok (.goto (-32), 3) := by decide +kernel
theorem dX4_dropWeak_45 : decode cX4_dropWeak 45 = .ok (.return_, 1) := by decide +kernel
theorem dX4_dropBeyond_0 : decode cX4_dropBeyond 0 = .ok (.aload_n 0, 1) := by decide +kernel
theorem dX4_dropBeyond_1 : decode cX4_dropBeyond 1 = .ok (.getfield 14, 3) := by decide +kernel
theorem dX4_dropBeyond_4 : decode cX4_dropBeyond 4 = .ok (.getfield 61, 3) := by decide +kernel
theorem dX4_dropBeyond_7 : decode cX4_dropBeyond 7 = .ok (.iload_n 2, 1) := by decide +kernel
theorem dX4_dropBeyond_8 : decode cX4_dropBeyond 8 = .ok (.isub, 1) := by decide +kernel
theorem dX4_dropBeyond_9 : decode cX4_dropBeyond 9 = .ok (.istore_n 3, 1) := by decide +kernel
theorem dX4_dropBeyond_10 : decode cX4_dropBeyond 10 = .ok (.iload_n 3, 1) := by decide +kernel
theorem dX4_dropBeyond_11 : decode cX4_dropBeyond 11 = .ok (.ifCond .le 31, 3) := by decide +kernel
theorem dX4_dropBeyond_14 : decode cX4_dropBeyond 14 = .ok (.aload_n 0, 1) := by decide +kernel
theorem dX4_dropBeyond_15 : decode cX4_dropBeyond 15 = .ok (.getfield 14, 3) := by decide +kernel
theorem dX4_dropBeyond_18 : decode cX4_dropBeyond 18 = .ok (.getfield 61, 3) := by decide +kernel
theorem dX4_dropBeyond_21 : decode cX4_dropBeyond 21 = .ok (.iconst 1, 1) := by decide +kernel
theorem dX4_dropBeyond_22 : decode cX4_dropBeyond 22 = .ok (.isub, 1) := by decide +kernel
theorem dX4_dropBeyond_23 : decode cX4_dropBeyond 23 = .ok (.iload_n 1, 1) := by decide +kernel
theorem dX4_dropBeyond_24 : decode cX4_dropBeyond 24 = .ok (.if_icmp .le 18, 3) := by decide +kernel
theorem dX4_dropBeyond_27 : decode cX4_dropBeyond 27 = .ok (.aload_n 0, 1) := by decide +kernel
theorem dX4_dropBeyond_28 : decode cX4_dropBeyond 28 = .ok (.aload_n 0, 1) := by decide +kernel
theorem dX4_dropBeyond_29 : decode cX4_dropBeyond 29 = .ok (.iload_n 1, 1) := by decide +kernel
theorem dX4_dropBeyond_30 : decode cX4_dropBeyond 30 = .ok (.invokevirtual 99, 3) := by decide +kernel
theorem dX4_dropBeyond_33 : decode cX4_dropBeyond 33 = .ok (.invokevirtual 96, 3) := by decide +kernel
theorem dX4_dropBeyond_36 : decode cX4_dropBeyond 36 = .ok (.iinc 3 (-1), 3) := by decide +kernel
theorem dX4_dropBeyond_39 : decode cX4_dropBeyond 39 = .ok (.goto (-29), 3) := by decide +kernel
theorem dX4_dropBeyond_42 : decode cX4_dropBeyond 42 = .ok (.return_, 1) := by decide +kernel
theorem dX4_leastHeld_0 : decode cX4_leastHeld 0 = .ok (.iload_n 1, 1) := by decide +kernel
theorem dX4_leastHeld_1 : decode cX4_leastHeld 1 = .ok (.istore_n 2, 1) := by decide +kernel
theorem dX4_leastHeld_2 : decode cX4_leastHeld 2 = .ok (.iload_n 1, 1) := by decide +kernel
theorem dX4_leastHeld_3 : decode cX4_leastHeld 3 = .ok (.iconst 1, 1) := by decide +kernel
theorem dX4_leastHeld_4 : decode cX4_leastHeld 4 = .ok (.iadd, 1) := by decide +kernel
theorem dX4_leastHeld_5 : decode cX4_leastHeld 5 = .ok (.istore_n 3, 1) := by decide +kernel
theorem dX4_leastHeld_6 : decode cX4_leastHeld 6 = .ok (.iload_n 3, 1) := by decide +kernel
theorem dX4_leastHeld_7 : decode cX4_leastHeld 7 = .ok (.aload_n 0, 1) := by decide +kernel
theorem dX4_leastHeld_8 : decode cX4_leastHeld 8 = .ok (.getfield 14, 3) := by decide +kernel
theorem dX4_leastHeld_11 : decode cX4_leastHeld 11 = .ok (.getfield 61, 3) := by decide +kernel
theorem dX4_leastHeld_14 : decode cX4_leastHeld 14 = .ok (.iconst 1, 1) := by decide +kernel
theorem dX4_leastHeld_15 : decode cX4_leastHeld 15 = .ok (.isub, 1) := by decide +kernel
theorem dX4_leastHeld_16 : decode cX4_leastHeld 16 = .ok (.if_icmp .ge 44, 3) := by decide +kernel
theorem dX4_leastHeld_19 : decode cX4_leastHeld 19 = .ok (.aload_n 0, 1) := by decide +kernel
theorem dX4_leastHeld_20 : decode cX4_leastHeld 20 = .ok (.getfield 23, 3) := by decide +kernel
theorem dX4_leastHeld_23 : decode cX4_leastHeld 23 = .ok (.aload_n 0, 1) := by decide +kernel
theorem dX4_leastHeld_24 : decode cX4_leastHeld 24 = .ok (.getfield 14, 3) := by decide +kernel
theorem dX4_leastHeld_27 : decode cX4_leastHeld 27 = .ok (.iload_n 3, 1) := by decide +kernel
theorem dX4_leastHeld_28 : decode cX4_leastHeld 28 = .ok (.invokevirtual 89, 3) := by decide +kernel
theorem dX4_leastHeld_31 : decode cX4_leastHeld 31 = .ok (.invokevirtual 102, 3) := by decide +kernel
theorem dX4_leastHeld_34 : decode cX4_leastHeld 34 = .ok (.aload_n 0, 1) := by decide +kernel
theorem dX4_leastHeld_35 : decode cX4_leastHeld 35 = .ok (.getfield 23, 3) := by decide +kernel
theorem dX4_leastHeld_38 : decode cX4_leastHeld 38 = .ok (.aload_n 0, 1) := by decide +kernel
theorem dX4_leastHeld_39 : decode cX4_leastHeld 39 = .ok (.getfield 14, 3) := by decide +kernel
theorem dX4_leastHeld_42 : decode cX4_leastHeld 42 = .ok (.iload_n 2, 1) := by decide +kernel
theorem dX4_leastHeld_43 : decode cX4_leastHeld 43 = .ok (.invokevirtual 89, 3) := by decide +kernel
theorem dX4_leastHeld_46 : decode cX4_leastHeld 46 = .ok (.invokevirtual 102, 3) := by decide +kernel
theorem dX4_leastHeld_49 : decode cX4_leastHeld 49 = .ok (.if_icmp .ge 5, 3) := by decide +kernel
theorem dX4_leastHeld_52 : decode cX4_leastHeld 52 = .ok (.iload_n 3, 1) := by decide +kernel
theorem dX4_leastHeld_53 : decode cX4_leastHeld 53 = .ok (.istore_n 2, 1) := by decide +kernel
theorem dX4_leastHeld_54 : decode cX4_leastHeld 54 = .ok (.iinc 3 1, 3) := by decide +kernel
theorem dX4_leastHeld_57 : decode cX4_leastHeld 57 = .ok (.goto (-51), 3) := by decide +kernel
theorem dX4_leastHeld_60 : decode cX4_leastHeld 60 = .ok (.iload_n 2, 1) := by decide +kernel
theorem dX4_leastHeld_61 : decode cX4_leastHeld 61 = .ok (.ireturn, 1) := by decide +kernel
theorem dX4_drop_0 : decode cX4_drop 0 = .ok (.aload_n 0, 1) := by decide +kernel
theorem dX4_drop_1 : decode cX4_drop 1 = .ok (.getfield 14, 3) := by decide +kernel
theorem dX4_drop_4 : decode cX4_drop 4 = .ok (.iload_n 1, 1) := by decide +kernel
theorem dX4_drop_5 : decode cX4_drop 5 = .ok (.invokevirtual 105, 3) := by decide +kernel
theorem dX4_drop_8 : decode cX4_drop 8 = .ok (.ifCond .eq 30, 3) := by decide +kernel
theorem dX4_drop_11 : decode cX4_drop 11 = .ok (.aload_n 0, 1) := by decide +kernel
theorem dX4_drop_12 : decode cX4_drop 12 = .ok (.dup, 1) := by decide +kernel
theorem dX4_drop_13 : decode cX4_drop 13 = .ok (.getfield 34, 3) := by decide +kernel
theorem dX4_drop_16 : decode cX4_drop 16 = .ok (.iconst 1, 1) := by decide +kernel
theorem dX4_drop_17 : decode cX4_drop 17 = .ok (.aload_n 0, 1) := by decide +kernel
theorem dX4_drop_18 : decode cX4_drop 18 = .ok (.getfield 14, 3) := by decide +kernel
theorem dX4_drop_21 : decode cX4_drop 21 = .ok (.iload_n 1, 1) := by decide +kernel
theorem dX4_drop_22 : decode cX4_drop 22 = .ok (.invokevirtual 89, 3) := by decide +kernel
theorem dX4_drop_25 : decode cX4_drop 25 = .ok (.ishl, 1) := by decide +kernel
theorem dX4_drop_26 : decode cX4_drop 26 = .ok (.ior, 1) := by decide +kernel
theorem dX4_drop_27 : decode cX4_drop 27 = .ok (.putfield 34, 3) := by decide +kernel
theorem dX4_drop_30 : decode cX4_drop 30 = .ok (.aload_n 0, 1) := by decide +kernel
theorem dX4_drop_31 : decode cX4_drop 31 = .ok (.getfield 14, 3) := by decide +kernel
theorem dX4_drop_34 : decode cX4_drop 34 = .ok (.iload_n 1, 1) := by decide +kernel
theorem dX4_drop_35 : decode cX4_drop 35 = .ok (.invokevirtual 109, 3) := by decide +kernel
theorem dX4_drop_38 : decode cX4_drop 38 = .ok (.return_, 1) := by decide +kernel
theorem dX5_init_0 : decode cX5_init 0 = .ok (.aload_n 0, 1) := by decide +kernel
theorem dX5_init_1 : decode cX5_init 1 = .ok (.invokespecial 3, 3) := by decide +kernel
theorem dX5_init_4 : decode cX5_init 4 = .ok (.aload_n 0, 1) := by decide +kernel
theorem dX5_init_5 : decode cX5_init 5 = .ok (.bipush 26, 2) := by decide +kernel
theorem dX5_init_7 : decode cX5_init 7 = .ok (.newarray .int, 2) := by decide +kernel
theorem dX5_init_9 : decode cX5_init 9 = .ok (.putfield 9, 3) := by decide +kernel
theorem dX5_init_12 : decode cX5_init 12 = .ok (.aload_n 0, 1) := by decide +kernel
theorem dX5_init_13 : decode cX5_init 13 = .ok (.bipush 12, 2) := by decide +kernel
theorem dX5_init_15 : decode cX5_init 15 = .ok (.newarray .int, 2) := by decide +kernel
theorem dX5_init_17 : decode cX5_init 17 = .ok (.putfield 15, 3) := by decide +kernel
theorem dX5_init_20 : decode cX5_init 20 = .ok (.aload_n 0, 1) := by decide +kernel
theorem dX5_init_21 : decode cX5_init 21 = .ok (.sipush 4096, 3) := by decide +kernel
theorem dX5_init_24 : decode cX5_init 24 = .ok (.newarray .long, 2) := by decide +kernel
theorem dX5_init_26 : decode cX5_init 26 = .ok (.putfield 18, 3) := by decide +kernel
theorem dX5_init_29 : decode cX5_init 29 = .ok (.aload_n 0, 1) := by decide +kernel
theorem dX5_init_30 : decode cX5_init 30 = .ok (.iconst 0, 1) := by decide +kernel
theorem dX5_init_31 : decode cX5_init 31 = .ok (.putfield 22, 3) := by decide +kernel
theorem dX5_init_34 : decode cX5_init 34 = .ok (.return_, 1) := by decide +kernel
theorem dX5_look_0 : decode cX5_look 0 = .ok (.aload_n 0, 1) := by decide +kernel
theorem dX5_look_1 : decode cX5_look 1 = .ok (.getfield 9, 3) := by decide +kernel
theorem dX5_look_4 : decode cX5_look 4 = .ok (.iconst 0, 1) := by decide +kernel
theorem dX5_look_5 : decode cX5_look 5 = .ok (.invokestatic 26, 3) := by decide +kernel
theorem dX5_look_8 : decode cX5_look 8 = .ok (.aload_n 0, 1) := by decide +kernel
theorem dX5_look_9 : decode cX5_look 9 = .ok (.iconst 0, 1) := by decide +kernel
theorem dX5_look_10 : decode cX5_look 10 = .ok (.putfield 22, 3) := by decide +kernel
theorem dX5_look_13 : decode cX5_look 13 = .ok (.iconst 0, 1) := by decide +kernel
theorem dX5_look_14 : decode cX5_look 14 = .ok (.istore_n 3, 1) := by decide +kernel
theorem dX5_look_15 : decode cX5_look 15 = .ok (.iload_n 3, 1) := by decide +kernel
theorem dX5_look_16 : decode cX5_look 16 = .ok (.iconst 4, 1) := by decide +kernel
theorem dX5_look_17 : decode cX5_look 17 = .ok (.if_icmp .ge 27, 3) := by decide +kernel
theorem dX5_look_20 : decode cX5_look 20 = .ok (.iload_n 2, 1) := by decide +kernel
theorem dX5_look_21 : decode cX5_look 21 = .ok (.iload_n 3, 1) := by decide +kernel
theorem dX5_look_22 : decode cX5_look 22 = .ok (.invokestatic 32, 3) := by decide +kernel
theorem dX5_look_25 : decode cX5_look 25 = .ok (.ifCond .eq 13, 3) := by decide +kernel
theorem dX5_look_28 : decode cX5_look 28 = .ok (.aload_n 0, 1) := by decide +kernel
theorem dX5_look_29 : decode cX5_look 29 = .ok (.aload_n 1, 1) := by decide +kernel
theorem dX5_look_30 : decode cX5_look 30 = .ok (.getfield 36, 3) := by decide +kernel
theorem dX5_look_33 : decode cX5_look 33 = .ok (.iload_n 3, 1) := by decide +kernel
theorem dX5_look_34 : decode cX5_look 34 = .ok (.aaload, 1) := by decide +kernel
theorem dX5_look_35 : decode cX5_look 35 = .ok (.invokevirtual 42, 3) := by decide +kernel
theorem dX5_look_38 : decode cX5_look 38 = .ok (.iinc 3 1, 3) := by decide +kernel
theorem dX5_look_41 : decode cX5_look 41 = .ok (.goto (-26), 3) := by decide +kernel
theorem dX5_look_44 : decode cX5_look 44 = .ok (.return_, 1) := by decide +kernel
theorem dX5_lookAt_0 : decode cX5_lookAt 0 = .ok (.iconst 0, 1) := by decide +kernel
theorem dX5_lookAt_1 : decode cX5_lookAt 1 = .ok (.istore_n 2, 1) := by decide +kernel
theorem dX5_lookAt_2 : decode cX5_lookAt 2 = .ok (.iconst 0, 1) := by decide +kernel
theorem dX5_lookAt_3 : decode cX5_lookAt 3 = .ok (.istore_n 3, 1) := by decide +kernel
theorem dX5_lookAt_4 : decode cX5_lookAt 4 = .ok (.iload_n 3, 1) := by decide +kernel
theorem dX5_lookAt_5 : decode cX5_lookAt 5 = .ok (.aload_n 1, 1) := by decide +kernel
theorem dX5_lookAt_6 : decode cX5_lookAt 6 = .ok (.getfield 46, 3) := by decide +kernel
theorem dX5_lookAt_9 : decode cX5_lookAt 9 = .ok (.if_icmp .ge 42, 3) := by decide +kernel
theorem dX5_lookAt_12 : decode cX5_lookAt 12 = .ok (.aload_n 1, 1) := by decide +kernel
theorem dX5_lookAt_13 : decode cX5_lookAt 13 = .ok (.iload_n 3, 1) := by decide +kernel
theorem dX5_lookAt_14 : decode cX5_lookAt 14 = .ok (.invokevirtual 51, 3) := by decide +kernel
theorem dX5_lookAt_17 : decode cX5_lookAt 17 = .ok (.istore 4, 2) := by decide +kernel
theorem dX5_lookAt_19 : decode cX5_lookAt 19 = .ok (.iload 4, 2) := by decide +kernel
theorem dX5_lookAt_21 : decode cX5_lookAt 21 = .ok (.invokestatic 55, 3) := by decide +kernel
theorem dX5_lookAt_24 : decode cX5_lookAt 24 = .ok (.ifCond .eq 21, 3) := by decide +kernel
theorem dX5_lookAt_27 : decode cX5_lookAt 27 = .ok (.aload_n 0, 1) := by decide +kernel
theorem dX5_lookAt_28 : decode cX5_lookAt 28 = .ok (.getfield 9, 3) := by decide +kernel
theorem dX5_lookAt_31 : decode cX5_lookAt 31 = .ok (.iload 4, 2) := by decide +kernel
theorem dX5_lookAt_33 : decode cX5_lookAt 33 = .ok (.dup2, 1) := by decide +kernel
theorem dX5_lookAt_34 : decode cX5_lookAt 34 = .ok (.iaload, 1) := by decide +kernel
theorem dX5_lookAt_35 : decode cX5_lookAt 35 = .ok (.iload_n 2, 1) := by decide +kernel
theorem dX5_lookAt_36 : decode cX5_lookAt 36 = .ok (.ior, 1) := by decide +kernel
theorem dX5_lookAt_37 : decode cX5_lookAt 37 = .ok (.iastore, 1) := by decide +kernel
theorem dX5_lookAt_38 : decode cX5_lookAt 38 = .ok (.iload_n 2, 1) := by decide +kernel
theorem dX5_lookAt_39 : decode cX5_lookAt 39 = .ok (.iconst 1, 1) := by decide +kernel
theorem dX5_lookAt_40 : decode cX5_lookAt 40 = .ok (.iload 4, 2) := by decide +kernel
theorem dX5_lookAt_42 : decode cX5_lookAt 42 = .ok (.ishl, 1) := by decide +kernel
theorem dX5_lookAt_43 : decode cX5_lookAt 43 = .ok (.ior, 1) := by decide +kernel
theorem dX5_lookAt_44 : decode cX5_lookAt 44 = .ok (.istore_n 2, 1) := by decide +kernel
theorem dX5_lookAt_45 : decode cX5_lookAt 45 = .ok (.iinc 3 1, 3) := by decide +kernel
theorem dX5_lookAt_48 : decode cX5_lookAt 48 = .ok (.goto (-44), 3) := by decide +kernel
theorem dX5_lookAt_51 : decode cX5_lookAt 51 = .ok (.aload_n 0, 1) := by decide +kernel
theorem dX5_lookAt_52 : decode cX5_lookAt 52 = .ok (.dup, 1) := by decide +kernel
theorem dX5_lookAt_53 : decode cX5_lookAt 53 = .ok (.getfield 22, 3) := by decide +kernel
theorem dX5_lookAt_56 : decode cX5_lookAt 56 = .ok (.iload_n 2, 1) := by decide +kernel
theorem dX5_lookAt_57 : decode cX5_lookAt 57 = .ok (.ior, 1) := by decide +kernel
theorem dX5_lookAt_58 : decode cX5_lookAt 58 = .ok (.putfield 22, 3) := by decide +kernel
theorem dX5_lookAt_61 : decode cX5_lookAt 61 = .ok (.return_, 1) := by decide +kernel
theorem dX5_areTooMany_0 : decode cX5_areTooMany 0 = .ok (.aload_n 0, 1) := by decide +kernel
theorem dX5_areTooMany_1 : decode cX5_areTooMany 1 = .ok (.getfield 22, 3) := by decide +kernel
theorem dX5_areTooMany_4 : decode cX5_areTooMany 4 = .ok (.invokestatic 59, 3) := by decide +kernel
theorem dX5_areTooMany_7 : decode cX5_areTooMany 7 = .ok (.bipush 12, 2) := by decide +kernel
theorem dX5_areTooMany_9 : decode cX5_areTooMany 9 = .ok (.if_icmp .le 7, 3) := by decide +kernel
theorem dX5_areTooMany_12 : decode cX5_areTooMany 12 = .ok (.iconst 1, 1) := by decide +kernel
theorem dX5_areTooMany_13 : decode cX5_areTooMany 13 = .ok (.goto 4, 3) := by decide +kernel
theorem dX5_areTooMany_16 : decode cX5_areTooMany 16 = .ok (.iconst 0, 1) := by decide +kernel
theorem dX5_areTooMany_17 : decode cX5_areTooMany 17 = .ok (.ireturn, 1) := by decide +kernel
theorem dX5_haveOrder_0 : decode cX5_haveOrder 0 = .ok (.iconst 0, 1) := by decide +kernel
theorem dX5_haveOrder_1 : decode cX5_haveOrder 1 = .ok (.istore_n 1, 1) := by decide +kernel
theorem dX5_haveOrder_2 : decode cX5_haveOrder 2 = .ok (.iconst 0, 1) := by decide +kernel
theorem dX5_haveOrder_3 : decode cX5_haveOrder 3 = .ok (.istore_n 2, 1) := by decide +kernel
theorem dX5_haveOrder_4 : decode cX5_haveOrder 4 = .ok (.iload_n 2, 1) := by decide +kernel
theorem dX5_haveOrder_5 : decode cX5_haveOrder 5 = .ok (.bipush 26, 2) := by decide +kernel
theorem dX5_haveOrder_7 : decode cX5_haveOrder 7 = .ok (.if_icmp .ge 32, 3) := by decide +kernel
theorem dX5_haveOrder_10 : decode cX5_haveOrder 10 = .ok (.iload_n 1, 1) := by decide +kernel
theorem dX5_haveOrder_11 : decode cX5_haveOrder 11 = .ok (.aload_n 0, 1) := by decide +kernel
theorem dX5_haveOrder_12 : decode cX5_haveOrder 12 = .ok (.getfield 22, 3) := by decide +kernel
theorem dX5_haveOrder_15 : decode cX5_haveOrder 15 = .ok (.if_icmp .eq 24, 3) := by decide +kernel
theorem dX5_haveOrder_18 : decode cX5_haveOrder 18 = .ok (.aload_n 0, 1) := by decide +kernel
theorem dX5_haveOrder_19 : decode cX5_haveOrder 19 = .ok (.iload_n 1, 1) := by decide +kernel
theorem dX5_haveOrder_20 : decode cX5_haveOrder 20 = .ok (.invokevirtual 64, 3) := by decide +kernel
theorem dX5_haveOrder_23 : decode cX5_haveOrder 23 = .ok (.istore_n 3, 1) := by decide +kernel
theorem dX5_haveOrder_24 : decode cX5_haveOrder 24 = .ok (.iload_n 3, 1) := by decide +kernel
theorem dX5_haveOrder_25 : decode cX5_haveOrder 25 = .ok (.iload_n 1, 1) := by decide +kernel
theorem dX5_haveOrder_26 : decode cX5_haveOrder 26 = .ok (.if_icmp .ne 5, 3) := by decide +kernel
theorem dX5_haveOrder_29 : decode cX5_haveOrder 29 = .ok (.iconst 0, 1) := by decide +kernel
theorem dX5_haveOrder_30 : decode cX5_haveOrder 30 = .ok (.ireturn, 1) := by decide +kernel
theorem dX5_haveOrder_31 : decode cX5_haveOrder 31 = .ok (.iload_n 3, 1) := by decide +kernel
theorem dX5_haveOrder_32 : decode cX5_haveOrder 32 = .ok (.istore_n 1, 1) := by decide +kernel
theorem dX5_haveOrder_33 : decode cX5_haveOrder 33 = .ok (.iinc 2 1, 3) := by decide +kernel
theorem dX5_haveOrder_36 : decode cX5_haveOrder 36 = .ok (.goto (-32), 3) := by decide +kernel
theorem dX5_haveOrder_39 : decode cX5_haveOrder 39 = .ok (.iload_n 1, 1) := by decide +kernel
theorem dX5_haveOrder_40 : decode cX5_haveOrder 40 = .ok (.aload_n 0, 1) := by decide +kernel
theorem dX5_haveOrder_41 : decode cX5_haveOrder 41 = .ok (.getfield 22, 3) := by decide +kernel
theorem dX5_haveOrder_44 : decode cX5_haveOrder 44 = .ok (.if_icmp .ne 7, 3) := by decide +kernel
theorem dX5_haveOrder_47 : decode cX5_haveOrder 47 = .ok (.iconst 1, 1) := by decide +kernel
theorem dX5_haveOrder_48 : decode cX5_haveOrder 48 = .ok (.goto 4, 3) := by decide +kernel
theorem dX5_haveOrder_51 : decode cX5_haveOrder 51 = .ok (.iconst 0, 1) := by decide +kernel
theorem dX5_haveOrder_52 : decode cX5_haveOrder 52 = .ok (.ireturn, 1) := by decide +kernel
theorem dX5_withAllThatCanBeNext_0 : decode cX5_withAllThatCanBeNext 0 = .ok (.iload_n 1, 1) := by decide +kernel
theorem dX5_withAllThatCanBeNext_1 : decode cX5_withAllThatCanBeNext 1 = .ok (.istore_n 2, 1) := by decide +kernel
theorem dX5_withAllThatCanBeNext_2 : decode cX5_withAllThatCanBeNext 2 = .ok (.iconst 0, 1) := by decide +kernel
theorem dX5_withAllThatCanBeNext_3 : decode cX5_withAllThatCanBeNext 3 = .ok (.istore_n 3, 1) := by decide +kernel
theorem dX5_withAllThatCanBeNext_4 : decode cX5_withAllThatCanBeNext 4 = .ok (.iload_n 3, 1) := by decide +kernel
theorem dX5_withAllThatCanBeNext_5 : decode cX5_withAllThatCanBeNext 5 = .ok (.bipush 26, 2) := by decide +kernel
theorem dX5_withAllThatCanBeNext_7 : decode cX5_withAllThatCanBeNext 7 = .ok (.if_icmp .ge 39, 3) := by decide +kernel
theorem dX5_withAllThatCanBeNext_10 : decode cX5_withAllThatCanBeNext 10 = .ok (.aload_n 0, 1) := by decide +kernel
theorem dX5_withAllThatCanBeNext_11 : decode cX5_withAllThatCanBeNext 11 = .ok (.getfield 22, 3) := by decide +kernel
theorem dX5_withAllThatCanBeNext_14 : decode cX5_withAllThatCanBeNext 14 = .ok (.iload_n 3, 1) := by decide +kernel
theorem dX5_withAllThatCanBeNext_15 : decode cX5_withAllThatCanBeNext 15 = .ok (.invokestatic 32, 3) := by decide +kernel
theorem dX5_withAllThatCanBeNext_18 : decode cX5_withAllThatCanBeNext 18 = .ok (.ifCond .eq 22, 3) := by decide +kernel
theorem dX5_withAllThatCanBeNext_21 : decode cX5_withAllThatCanBeNext 21 = .ok (.aload_n 0, 1) := by decide +kernel
theorem dX5_withAllThatCanBeNext_22 : decode cX5_withAllThatCanBeNext 22 = .ok (.getfield 9, 3) := by decide +kernel
theorem dX5_withAllThatCanBeNext_25 : decode cX5_withAllThatCanBeNext 25 = .ok (.iload_n 3, 1) := by decide +kernel
theorem dX5_withAllThatCanBeNext_26 : decode cX5_withAllThatCanBeNext 26 = .ok (.iaload, 1) := by decide +kernel
theorem dX5_withAllThatCanBeNext_27 : decode cX5_withAllThatCanBeNext 27 = .ok (.iload_n 1, 1) := by decide +kernel
theorem dX5_withAllThatCanBeNext_28 : decode cX5_withAllThatCanBeNext 28 = .ok (.iconst (-1), 1) := by decide +kernel
theorem dX5_withAllThatCanBeNext_29 : decode cX5_withAllThatCanBeNext 29 = .ok (.ixor, 1) := by decide +kernel
theorem dX5_withAllThatCanBeNext_30 : decode cX5_withAllThatCanBeNext 30 = .ok (.iand, 1) := by decide +kernel
theorem dX5_withAllThatCanBeNext_31 : decode cX5_withAllThatCanBeNext 31 = .ok (.ifCond .ne 9, 3) := by decide +kernel
theorem dX5_withAllThatCanBeNext_34 : decode cX5_withAllThatCanBeNext 34 = .ok (.iload_n 2, 1) := by decide +kernel
theorem dX5_withAllThatCanBeNext_35 : decode cX5_withAllThatCanBeNext 35 = .ok (.iconst 1, 1) := by decide +kernel
theorem dX5_withAllThatCanBeNext_36 : decode cX5_withAllThatCanBeNext 36 = .ok (.iload_n 3, 1) := by decide +kernel
theorem dX5_withAllThatCanBeNext_37 : decode cX5_withAllThatCanBeNext 37 = .ok (.ishl, 1) := by decide +kernel
theorem dX5_withAllThatCanBeNext_38 : decode cX5_withAllThatCanBeNext 38 = .ok (.ior, 1) := by decide +kernel
theorem dX5_withAllThatCanBeNext_39 : decode cX5_withAllThatCanBeNext 39 = .ok (.istore_n 2, 1) := by decide +kernel
theorem dX5_withAllThatCanBeNext_40 : decode cX5_withAllThatCanBeNext 40 = .ok (.iinc 3 1, 3) := by decide +kernel
theorem dX5_withAllThatCanBeNext_43 : decode cX5_withAllThatCanBeNext 43 = .ok (.goto (-39), 3) := by decide +kernel
theorem dX5_withAllThatCanBeNext_46 : decode cX5_withAllThatCanBeNext 46 = .ok (.iload_n 2, 1) := by decide +kernel
theorem dX5_withAllThatCanBeNext_47 : decode cX5_withAllThatCanBeNext 47 = .ok (.ireturn, 1) := by decide +kernel
theorem dX5_allAheadOf_0 : decode cX5_allAheadOf 0 = .ok (.iload_n 1, 1) := by decide +kernel
theorem dX5_allAheadOf_1 : decode cX5_allAheadOf 1 = .ok (.invokestatic 55, 3) := by decide +kernel
theorem dX5_allAheadOf_4 : decode cX5_allAheadOf 4 = .ok (.ifCond .eq 12, 3) := by decide +kernel
theorem dX5_allAheadOf_7 : decode cX5_allAheadOf 7 = .ok (.aload_n 0, 1) := by decide +kernel
theorem dX5_allAheadOf_8 : decode cX5_allAheadOf 8 = .ok (.getfield 9, 3) := by decide +kernel
theorem dX5_allAheadOf_11 : decode cX5_allAheadOf 11 = .ok (.iload_n 1, 1) := by decide +kernel
theorem dX5_allAheadOf_12 : decode cX5_allAheadOf 12 = .ok (.iaload, 1) := by decide +kernel
theorem dX5_allAheadOf_13 : decode cX5_allAheadOf 13 = .ok (.goto 4, 3) := by decide +kernel
theorem dX5_allAheadOf_16 : decode cX5_allAheadOf 16 = .ok (.iconst 0, 1) := by decide +kernel
theorem dX5_allAheadOf_17 : decode cX5_allAheadOf 17 = .ok (.istore_n 2, 1) := by decide +kernel
theorem dX5_allAheadOf_18 : decode cX5_allAheadOf 18 = .ok (.iconst 0, 1) := by decide +kernel
theorem dX5_allAheadOf_19 : decode cX5_allAheadOf 19 = .ok (.istore_n 3, 1) := by decide +kernel
theorem dX5_allAheadOf_20 : decode cX5_allAheadOf 20 = .ok (.iload_n 3, 1) := by decide +kernel
theorem dX5_allAheadOf_21 : decode cX5_allAheadOf 21 = .ok (.bipush 26, 2) := by decide +kernel
theorem dX5_allAheadOf_23 : decode cX5_allAheadOf 23 = .ok (.if_icmp .ge 27, 3) := by decide +kernel
theorem dX5_allAheadOf_26 : decode cX5_allAheadOf 26 = .ok (.aload_n 0, 1) := by decide +kernel
theorem dX5_allAheadOf_27 : decode cX5_allAheadOf 27 = .ok (.iload_n 2, 1) := by decide +kernel
theorem dX5_allAheadOf_28 : decode cX5_allAheadOf 28 = .ok (.invokevirtual 67, 3) := by decide +kernel
theorem dX5_allAheadOf_31 : decode cX5_allAheadOf 31 = .ok (.istore 4, 2) := by decide +kernel
theorem dX5_allAheadOf_33 : decode cX5_allAheadOf 33 = .ok (.iload 4, 2) := by decide +kernel
theorem dX5_allAheadOf_35 : decode cX5_allAheadOf 35 = .ok (.iload_n 2, 1) := by decide +kernel
theorem dX5_allAheadOf_36 : decode cX5_allAheadOf 36 = .ok (.if_icmp .ne 5, 3) := by decide +kernel
theorem dX5_allAheadOf_39 : decode cX5_allAheadOf 39 = .ok (.iload_n 2, 1) := by decide +kernel
theorem dX5_allAheadOf_40 : decode cX5_allAheadOf 40 = .ok (.ireturn, 1) := by decide +kernel
theorem dX5_allAheadOf_41 : decode cX5_allAheadOf 41 = .ok (.iload 4, 2) := by decide +kernel
theorem dX5_allAheadOf_43 : decode cX5_allAheadOf 43 = .ok (.istore_n 2, 1) := by decide +kernel
theorem dX5_allAheadOf_44 : decode cX5_allAheadOf 44 = .ok (.iinc 3 1, 3) := by decide +kernel
theorem dX5_allAheadOf_47 : decode cX5_allAheadOf 47 = .ok (.goto (-27), 3) := by decide +kernel
theorem dX5_allAheadOf_50 : decode cX5_allAheadOf 50 = .ok (.iload_n 2, 1) := by decide +kernel
theorem dX5_allAheadOf_51 : decode cX5_allAheadOf 51 = .ok (.ireturn, 1) := by decide +kernel
theorem dX5_withAllAhead_0 : decode cX5_withAllAhead 0 = .ok (.iload_n 1, 1) := by decide +kernel
theorem dX5_withAllAhead_1 : decode cX5_withAllAhead 1 = .ok (.istore_n 2, 1) := by decide +kernel
theorem dX5_withAllAhead_2 : decode cX5_withAllAhead 2 = .ok (.iconst 0, 1) := by decide +kernel
theorem dX5_withAllAhead_3 : decode cX5_withAllAhead 3 = .ok (.istore_n 3, 1) := by decide +kernel
theorem dX5_withAllAhead_4 : decode cX5_withAllAhead 4 = .ok (.iload_n 3, 1) := by decide +kernel
theorem dX5_withAllAhead_5 : decode cX5_withAllAhead 5 = .ok (.bipush 26, 2) := by decide +kernel
theorem dX5_withAllAhead_7 : decode cX5_withAllAhead 7 = .ok (.if_icmp .ge 26, 3) := by decide +kernel
theorem dX5_withAllAhead_10 : decode cX5_withAllAhead 10 = .ok (.iload_n 1, 1) := by decide +kernel
theorem dX5_withAllAhead_11 : decode cX5_withAllAhead 11 = .ok (.iload_n 3, 1) := by decide +kernel
theorem dX5_withAllAhead_12 : decode cX5_withAllAhead 12 = .ok (.invokestatic 32, 3) := by decide +kernel
theorem dX5_withAllAhead_15 : decode cX5_withAllAhead 15 = .ok (.ifCond .eq 12, 3) := by decide +kernel
theorem dX5_withAllAhead_18 : decode cX5_withAllAhead 18 = .ok (.iload_n 2, 1) := by decide +kernel
theorem dX5_withAllAhead_19 : decode cX5_withAllAhead 19 = .ok (.aload_n 0, 1) := by decide +kernel
theorem dX5_withAllAhead_20 : decode cX5_withAllAhead 20 = .ok (.getfield 9, 3) := by decide +kernel
theorem dX5_withAllAhead_23 : decode cX5_withAllAhead 23 = .ok (.iload_n 3, 1) := by decide +kernel
theorem dX5_withAllAhead_24 : decode cX5_withAllAhead 24 = .ok (.iaload, 1) := by decide +kernel
theorem dX5_withAllAhead_25 : decode cX5_withAllAhead 25 = .ok (.ior, 1) := by decide +kernel
theorem dX5_withAllAhead_26 : decode cX5_withAllAhead 26 = .ok (.istore_n 2, 1) := by decide +kernel
theorem dX5_withAllAhead_27 : decode cX5_withAllAhead 27 = .ok (.iinc 3 1, 3) := by decide +kernel
theorem dX5_withAllAhead_30 : decode cX5_withAllAhead 30 = .ok (.goto (-26), 3) := by decide +kernel
theorem dX5_withAllAhead_33 : decode cX5_withAllAhead 33 = .ok (.iload_n 2, 1) := by decide +kernel
theorem dX5_withAllAhead_34 : decode cX5_withAllAhead 34 = .ok (.ireturn, 1) := by decide +kernel
theorem dX5_fewestWithoutOrder_0 : decode cX5_fewestWithoutOrder 0 = .ok (.iconst 2, 1) := by decide +kernel
theorem dX5_fewestWithoutOrder_1 : decode cX5_fewestWithoutOrder 1 = .ok (.istore_n 3, 1) := by decide +kernel
theorem dX5_fewestWithoutOrder_2 : decode cX5_fewestWithoutOrder 2 = .ok (.iload_n 3, 1) := by decide +kernel
theorem dX5_fewestWithoutOrder_3 : decode cX5_fewestWithoutOrder 3 = .ok (.iconst 4, 1) := by decide +kernel
theorem dX5_fewestWithoutOrder_4 : decode cX5_fewestWithoutOrder 4 = .ok (.if_icmp .gt 59, 3) := by decide +kernel
theorem dX5_fewestWithoutOrder_7 : decode cX5_fewestWithoutOrder 7 = .ok (.iconst 1, 1) := by decide +kernel
theorem dX5_fewestWithoutOrder_8 : decode cX5_fewestWithoutOrder 8 = .ok (.istore 4, 2) := by decide +kernel
theorem dX5_fewestWithoutOrder_10 : decode cX5_fewestWithoutOrder 10 = .ok (.iload 4, 2) := by decide +kernel
theorem dX5_fewestWithoutOrder_12 : decode cX5_fewestWithoutOrder 12 = .ok (.iload_n 2, 1) := by decide +kernel
theorem dX5_fewestWithoutOrder_13 : decode cX5_fewestWithoutOrder 13 = .ok (.if_icmp .gt 44, 3) := by decide +kernel
theorem dX5_fewestWithoutOrder_16 : decode cX5_fewestWithoutOrder 16 = .ok (.iload 4, 2) := by decide +kernel
theorem dX5_fewestWithoutOrder_18 : decode cX5_fewestWithoutOrder 18 = .ok (.iload_n 2, 1) := by decide +kernel
theorem dX5_fewestWithoutOrder_19 : decode cX5_fewestWithoutOrder 19 = .ok (.iconst (-1), 1) := by decide +kernel
theorem dX5_fewestWithoutOrder_20 : decode cX5_fewestWithoutOrder 20 = .ok (.ixor, 1) := by decide +kernel
theorem dX5_fewestWithoutOrder_21 : decode cX5_fewestWithoutOrder 21 = .ok (.iand, 1) := by decide +kernel
theorem dX5_fewestWithoutOrder_22 : decode cX5_fewestWithoutOrder 22 = .ok (.ifCond .ne 29, 3) := by decide +kernel
theorem dX5_fewestWithoutOrder_25 : decode cX5_fewestWithoutOrder 25 = .ok (.iload 4, 2) := by decide +kernel
theorem dX5_fewestWithoutOrder_27 : decode cX5_fewestWithoutOrder 27 = .ok (.invokestatic 59, 3) := by decide +kernel
theorem dX5_fewestWithoutOrder_30 : decode cX5_fewestWithoutOrder 30 = .ok (.iload_n 3, 1) := by decide +kernel
theorem dX5_fewestWithoutOrder_31 : decode cX5_fewestWithoutOrder 31 = .ok (.if_icmp .ne 20, 3) := by decide +kernel
theorem dX5_fewestWithoutOrder_34 : decode cX5_fewestWithoutOrder 34 = .ok (.aload_n 0, 1) := by decide +kernel
theorem dX5_fewestWithoutOrder_35 : decode cX5_fewestWithoutOrder 35 = .ok (.aload_n 1, 1) := by decide +kernel
theorem dX5_fewestWithoutOrder_36 : decode cX5_fewestWithoutOrder 36 = .ok (.iload 4, 2) := by decide +kernel
theorem dX5_fewestWithoutOrder_38 : decode cX5_fewestWithoutOrder 38 = .ok (.invokevirtual 70, 3) := by decide +kernel
theorem dX5_fewestWithoutOrder_41 : decode cX5_fewestWithoutOrder 41 = .ok (.aload_n 0, 1) := by decide +kernel
theorem dX5_fewestWithoutOrder_42 : decode cX5_fewestWithoutOrder 42 = .ok (.invokevirtual 74, 3) := by decide +kernel
theorem dX5_fewestWithoutOrder_45 : decode cX5_fewestWithoutOrder 45 = .ok (.ifCond .ne 6, 3) := by decide +kernel
theorem dX5_fewestWithoutOrder_48 : decode cX5_fewestWithoutOrder 48 = .ok (.iload 4, 2) := by decide +kernel
theorem dX5_fewestWithoutOrder_50 : decode cX5_fewestWithoutOrder 50 = .ok (.ireturn, 1) := by decide +kernel
theorem dX5_fewestWithoutOrder_51 : decode cX5_fewestWithoutOrder 51 = .ok (.iinc 4 1, 3) := by decide +kernel
theorem dX5_fewestWithoutOrder_54 : decode cX5_fewestWithoutOrder 54 = .ok (.goto (-44), 3) := by decide +kernel
theorem dX5_fewestWithoutOrder_57 : decode cX5_fewestWithoutOrder 57 = .ok (.iinc 3 1, 3) := by decide +kernel
theorem dX5_fewestWithoutOrder_60 : decode cX5_fewestWithoutOrder 60 = .ok (.goto (-58), 3) := by decide +kernel
theorem dX5_fewestWithoutOrder_63 : decode cX5_fewestWithoutOrder 63 = .ok (.iconst 0, 1) := by decide +kernel
theorem dX5_fewestWithoutOrder_64 : decode cX5_fewestWithoutOrder 64 = .ok (.ireturn, 1) := by decide +kernel
theorem dX5_countOrders_0 : decode cX5_countOrders 0 = .ok (.aload_n 0, 1) := by decide +kernel
theorem dX5_countOrders_1 : decode cX5_countOrders 1 = .ok (.invokevirtual 78, 3) := by decide +kernel
theorem dX5_countOrders_4 : decode cX5_countOrders 4 = .ok (.istore_n 1, 1) := by decide +kernel
theorem dX5_countOrders_5 : decode cX5_countOrders 5 = .ok (.iconst 1, 1) := by decide +kernel
theorem dX5_countOrders_6 : decode cX5_countOrders 6 = .ok (.iload_n 1, 1) := by decide +kernel
theorem dX5_countOrders_7 : decode cX5_countOrders 7 = .ok (.ishl, 1) := by decide +kernel
theorem dX5_countOrders_8 : decode cX5_countOrders 8 = .ok (.iconst 1, 1) := by decide +kernel
theorem dX5_countOrders_9 : decode cX5_countOrders 9 = .ok (.isub, 1) := by decide +kernel
theorem dX5_countOrders_10 : decode cX5_countOrders 10 = .ok (.istore_n 2, 1) := by decide +kernel
theorem dX5_countOrders_11 : decode cX5_countOrders 11 = .ok (.iconst 0, 1) := by decide +kernel
theorem dX5_countOrders_12 : decode cX5_countOrders 12 = .ok (.istore_n 3, 1) := by decide +kernel
theorem dX5_countOrders_13 : decode cX5_countOrders 13 = .ok (.iload_n 3, 1) := by decide +kernel
theorem dX5_countOrders_14 : decode cX5_countOrders 14 = .ok (.iload_n 2, 1) := by decide +kernel
theorem dX5_countOrders_15 : decode cX5_countOrders 15 = .ok (.if_icmp .gt 16, 3) := by decide +kernel
theorem dX5_countOrders_18 : decode cX5_countOrders 18 = .ok (.aload_n 0, 1) := by decide +kernel
theorem dX5_countOrders_19 : decode cX5_countOrders 19 = .ok (.getfield 18, 3) := by decide +kernel
theorem dX5_countOrders_22 : decode cX5_countOrders 22 = .ok (.iload_n 3, 1) := by decide +kernel
theorem dX5_countOrders_23 : decode cX5_countOrders 23 = .ok (.lconst 0, 1) := by decide +kernel
theorem dX5_countOrders_24 : decode cX5_countOrders 24 = .ok (.lastore, 1) := by decide +kernel
theorem dX5_countOrders_25 : decode cX5_countOrders 25 = .ok (.iinc 3 1, 3) := by decide +kernel
theorem dX5_countOrders_28 : decode cX5_countOrders 28 = .ok (.goto (-15), 3) := by decide +kernel
theorem dX5_countOrders_31 : decode cX5_countOrders 31 = .ok (.aload_n 0, 1) := by decide +kernel
theorem dX5_countOrders_32 : decode cX5_countOrders 32 = .ok (.getfield 18, 3) := by decide +kernel
theorem dX5_countOrders_35 : decode cX5_countOrders 35 = .ok (.iconst 0, 1) := by decide +kernel
theorem dX5_countOrders_36 : decode cX5_countOrders 36 = .ok (.lconst 1, 1) := by decide +kernel
theorem dX5_countOrders_37 : decode cX5_countOrders 37 = .ok (.lastore, 1) := by decide +kernel
theorem dX5_countOrders_38 : decode cX5_countOrders 38 = .ok (.iconst 0, 1) := by decide +kernel
theorem dX5_countOrders_39 : decode cX5_countOrders 39 = .ok (.istore_n 3, 1) := by decide +kernel
theorem dX5_countOrders_40 : decode cX5_countOrders 40 = .ok (.iload_n 3, 1) := by decide +kernel
theorem dX5_countOrders_41 : decode cX5_countOrders 41 = .ok (.iload_n 2, 1) := by decide +kernel
theorem dX5_countOrders_42 : decode cX5_countOrders 42 = .ok (.if_icmp .ge 26, 3) := by decide +kernel
theorem dX5_countOrders_45 : decode cX5_countOrders 45 = .ok (.aload_n 0, 1) := by decide +kernel
theorem dX5_countOrders_46 : decode cX5_countOrders 46 = .ok (.getfield 18, 3) := by decide +kernel
theorem dX5_countOrders_49 : decode cX5_countOrders 49 = .ok (.iload_n 3, 1) := by decide +kernel
theorem dX5_countOrders_50 : decode cX5_countOrders 50 = .ok (.laload, 1) := by decide +kernel
theorem dX5_countOrders_51 : decode cX5_countOrders 51 = .ok (.lconst 0, 1) := by decide +kernel
theorem dX5_countOrders_52 : decode cX5_countOrders 52 = .ok (.lcmp, 1) := by decide +kernel
theorem dX5_countOrders_53 : decode cX5_countOrders 53 = .ok (.ifCond .eq 9, 3) := by decide +kernel
theorem dX5_countOrders_56 : decode cX5_countOrders 56 = .ok (.aload_n 0, 1) := by decide +kernel
theorem dX5_countOrders_57 : decode cX5_countOrders 57 = .ok (.iload_n 3, 1) := by decide +kernel
theorem dX5_countOrders_58 : decode cX5_countOrders 58 = .ok (.iload_n 1, 1) := by decide +kernel
theorem dX5_countOrders_59 : decode cX5_countOrders 59 = .ok (.invokevirtual 82, 3) := by decide +kernel
theorem dX5_countOrders_62 : decode cX5_countOrders 62 = .ok (.iinc 3 1, 3) := by decide +kernel
theorem dX5_countOrders_65 : decode cX5_countOrders 65 = .ok (.goto (-25), 3) := by decide +kernel
theorem dX5_countOrders_68 : decode cX5_countOrders 68 = .ok (.aload_n 0, 1) := by decide +kernel
theorem dX5_countOrders_69 : decode cX5_countOrders 69 = .ok (.getfield 18, 3) := by decide +kernel
theorem dX5_countOrders_72 : decode cX5_countOrders 72 = .ok (.iload_n 2, 1) := by decide +kernel
theorem dX5_countOrders_73 : decode cX5_countOrders 73 = .ok (.laload, 1) := by decide +kernel
theorem dX5_countOrders_74 : decode cX5_countOrders 74 = .ok (.lreturn, 1) := by decide +kernel
theorem dX5_goOnFrom_0 : decode cX5_goOnFrom 0 = .ok (.iconst 0, 1) := by decide +kernel
theorem dX5_goOnFrom_1 : decode cX5_goOnFrom 1 = .ok (.istore_n 3, 1) := by decide +kernel
theorem dX5_goOnFrom_2 : decode cX5_goOnFrom 2 = .ok (.iload_n 3, 1) := by decide +kernel
theorem dX5_goOnFrom_3 : decode cX5_goOnFrom 3 = .ok (.iload_n 2, 1) := by decide +kernel
theorem dX5_goOnFrom_4 : decode cX5_goOnFrom 4 = .ok (.if_icmp .ge 49, 3) := by decide +kernel
theorem dX5_goOnFrom_7 : decode cX5_goOnFrom 7 = .ok (.iload_n 1, 1) := by decide +kernel
theorem dX5_goOnFrom_8 : decode cX5_goOnFrom 8 = .ok (.iload_n 3, 1) := by decide +kernel
theorem dX5_goOnFrom_9 : decode cX5_goOnFrom 9 = .ok (.invokestatic 32, 3) := by decide +kernel
theorem dX5_goOnFrom_12 : decode cX5_goOnFrom 12 = .ok (.ifCond .ne 35, 3) := by decide +kernel
theorem dX5_goOnFrom_15 : decode cX5_goOnFrom 15 = .ok (.aload_n 0, 1) := by decide +kernel
theorem dX5_goOnFrom_16 : decode cX5_goOnFrom 16 = .ok (.getfield 15, 3) := by decide +kernel
theorem dX5_goOnFrom_19 : decode cX5_goOnFrom 19 = .ok (.iload_n 3, 1) := by decide +kernel
theorem dX5_goOnFrom_20 : decode cX5_goOnFrom 20 = .ok (.iaload, 1) := by decide +kernel
theorem dX5_goOnFrom_21 : decode cX5_goOnFrom 21 = .ok (.iload_n 1, 1) := by decide +kernel
theorem dX5_goOnFrom_22 : decode cX5_goOnFrom 22 = .ok (.iconst (-1), 1) := by decide +kernel
theorem dX5_goOnFrom_23 : decode cX5_goOnFrom 23 = .ok (.ixor, 1) := by decide +kernel
theorem dX5_goOnFrom_24 : decode cX5_goOnFrom 24 = .ok (.iand, 1) := by decide +kernel
theorem dX5_goOnFrom_25 : decode cX5_goOnFrom 25 = .ok (.ifCond .ne 22, 3) := by decide +kernel
theorem dX5_goOnFrom_28 : decode cX5_goOnFrom 28 = .ok (.aload_n 0, 1) := by decide +kernel
theorem dX5_goOnFrom_29 : decode cX5_goOnFrom 29 = .ok (.getfield 18, 3) := by decide +kernel
theorem dX5_goOnFrom_32 : decode cX5_goOnFrom 32 = .ok (.iload_n 1, 1) := by decide +kernel
theorem dX5_goOnFrom_33 : decode cX5_goOnFrom 33 = .ok (.iconst 1, 1) := by decide +kernel
theorem dX5_goOnFrom_34 : decode cX5_goOnFrom 34 = .ok (.iload_n 3, 1) := by decide +kernel
theorem dX5_goOnFrom_35 : decode cX5_goOnFrom 35 = .ok (.ishl, 1) := by decide +kernel
theorem dX5_goOnFrom_36 : decode cX5_goOnFrom 36 = .ok (.ior, 1) := by decide +kernel
theorem dX5_goOnFrom_37 : decode cX5_goOnFrom 37 = .ok (.dup2, 1) := by decide +kernel
theorem dX5_goOnFrom_38 : decode cX5_goOnFrom 38 = .ok (.laload, 1) := by decide +kernel
theorem dX5_goOnFrom_39 : decode cX5_goOnFrom 39 = .ok (.aload_n 0, 1) := by decide +kernel
theorem dX5_goOnFrom_40 : decode cX5_goOnFrom 40 = .ok (.getfield 18, 3) := by decide +kernel
theorem dX5_goOnFrom_43 : decode cX5_goOnFrom 43 = .ok (.iload_n 1, 1) := by decide +kernel
theorem dX5_goOnFrom_44 : decode cX5_goOnFrom 44 = .ok (.laload, 1) := by decide +kernel
theorem dX5_goOnFrom_45 : decode cX5_goOnFrom 45 = .ok (.ladd, 1) := by decide +kernel
theorem dX5_goOnFrom_46 : decode cX5_goOnFrom 46 = .ok (.lastore, 1) := by decide +kernel
theorem dX5_goOnFrom_47 : decode cX5_goOnFrom 47 = .ok (.iinc 3 1, 3) := by decide +kernel
theorem dX5_goOnFrom_50 : decode cX5_goOnFrom 50 = .ok (.goto (-48), 3) := by decide +kernel
theorem dX5_goOnFrom_53 : decode cX5_goOnFrom 53 = .ok (.return_, 1) := by decide +kernel
theorem dX5_fillNeeded_0 : decode cX5_fillNeeded 0 = .ok (.iconst 0, 1) := by decide +kernel
theorem dX5_fillNeeded_1 : decode cX5_fillNeeded 1 = .ok (.istore_n 1, 1) := by decide +kernel
theorem dX5_fillNeeded_2 : decode cX5_fillNeeded 2 = .ok (.iconst 0, 1) := by decide +kernel
theorem dX5_fillNeeded_3 : decode cX5_fillNeeded 3 = .ok (.istore_n 2, 1) := by decide +kernel
theorem dX5_fillNeeded_4 : decode cX5_fillNeeded 4 = .ok (.iload_n 2, 1) := by decide +kernel
theorem dX5_fillNeeded_5 : decode cX5_fillNeeded 5 = .ok (.bipush 26, 2) := by decide +kernel
theorem dX5_fillNeeded_7 : decode cX5_fillNeeded 7 = .ok (.if_icmp .ge 45, 3) := by decide +kernel
theorem dX5_fillNeeded_10 : decode cX5_fillNeeded 10 = .ok (.iload_n 1, 1) := by decide +kernel
theorem dX5_fillNeeded_11 : decode cX5_fillNeeded 11 = .ok (.bipush 12, 2) := by decide +kernel
theorem dX5_fillNeeded_13 : decode cX5_fillNeeded 13 = .ok (.if_icmp .ge 39, 3) := by decide +kernel
theorem dX5_fillNeeded_16 : decode cX5_fillNeeded 16 = .ok (.aload_n 0, 1) := by decide +kernel
theorem dX5_fillNeeded_17 : decode cX5_fillNeeded 17 = .ok (.getfield 22, 3) := by decide +kernel
theorem dX5_fillNeeded_20 : decode cX5_fillNeeded 20 = .ok (.iload_n 2, 1) := by decide +kernel
theorem dX5_fillNeeded_21 : decode cX5_fillNeeded 21 = .ok (.invokestatic 32, 3) := by decide +kernel
theorem dX5_fillNeeded_24 : decode cX5_fillNeeded 24 = .ok (.ifCond .eq 22, 3) := by decide +kernel
theorem dX5_fillNeeded_27 : decode cX5_fillNeeded 27 = .ok (.aload_n 0, 1) := by decide +kernel
theorem dX5_fillNeeded_28 : decode cX5_fillNeeded 28 = .ok (.getfield 15, 3) := by decide +kernel
theorem dX5_fillNeeded_31 : decode cX5_fillNeeded 31 = .ok (.iload_n 1, 1) := by decide +kernel
theorem dX5_fillNeeded_32 : decode cX5_fillNeeded 32 = .ok (.aload_n 0, 1) := by decide +kernel
theorem dX5_fillNeeded_33 : decode cX5_fillNeeded 33 = .ok (.aload_n 0, 1) := by decide +kernel
theorem dX5_fillNeeded_34 : decode cX5_fillNeeded 34 = .ok (.getfield 9, 3) := by decide +kernel
theorem dX5_fillNeeded_37 : decode cX5_fillNeeded 37 = .ok (.iload_n 2, 1) := by decide +kernel
theorem dX5_fillNeeded_38 : decode cX5_fillNeeded 38 = .ok (.iaload, 1) := by decide +kernel
theorem dX5_fillNeeded_39 : decode cX5_fillNeeded 39 = .ok (.invokevirtual 86, 3) := by decide +kernel
theorem dX5_fillNeeded_42 : decode cX5_fillNeeded 42 = .ok (.iastore, 1) := by decide +kernel
theorem dX5_fillNeeded_43 : decode cX5_fillNeeded 43 = .ok (.iinc 1 1, 3) := by decide +kernel
theorem dX5_fillNeeded_46 : decode cX5_fillNeeded 46 = .ok (.iinc 2 1, 3) := by decide +kernel
theorem dX5_fillNeeded_49 : decode cX5_fillNeeded 49 = .ok (.goto (-45), 3) := by decide +kernel
theorem dX5_fillNeeded_52 : decode cX5_fillNeeded 52 = .ok (.iload_n 1, 1) := by decide +kernel
theorem dX5_fillNeeded_53 : decode cX5_fillNeeded 53 = .ok (.ireturn, 1) := by decide +kernel
theorem dX5_withoutGaps_0 : decode cX5_withoutGaps 0 = .ok (.iconst 0, 1) := by decide +kernel
theorem dX5_withoutGaps_1 : decode cX5_withoutGaps 1 = .ok (.istore_n 2, 1) := by decide +kernel
theorem dX5_withoutGaps_2 : decode cX5_withoutGaps 2 = .ok (.iconst 0, 1) := by decide +kernel
theorem dX5_withoutGaps_3 : decode cX5_withoutGaps 3 = .ok (.istore_n 3, 1) := by decide +kernel
theorem dX5_withoutGaps_4 : decode cX5_withoutGaps 4 = .ok (.iconst 0, 1) := by decide +kernel
theorem dX5_withoutGaps_5 : decode cX5_withoutGaps 5 = .ok (.istore 4, 2) := by decide +kernel
theorem dX5_withoutGaps_7 : decode cX5_withoutGaps 7 = .ok (.iload 4, 2) := by decide +kernel
theorem dX5_withoutGaps_9 : decode cX5_withoutGaps 9 = .ok (.bipush 26, 2) := by decide +kernel
theorem dX5_withoutGaps_11 : decode cX5_withoutGaps 11 = .ok (.if_icmp .ge 43, 3) := by decide +kernel
theorem dX5_withoutGaps_14 : decode cX5_withoutGaps 14 = .ok (.aload_n 0, 1) := by decide +kernel
theorem dX5_withoutGaps_15 : decode cX5_withoutGaps 15 = .ok (.getfield 22, 3) := by decide +kernel
theorem dX5_withoutGaps_18 : decode cX5_withoutGaps 18 = .ok (.iload 4, 2) := by decide +kernel
theorem dX5_withoutGaps_20 : decode cX5_withoutGaps 20 = .ok (.invokestatic 32, 3) := by decide +kernel
theorem dX5_withoutGaps_23 : decode cX5_withoutGaps 23 = .ok (.ifCond .eq 25, 3) := by decide +kernel
theorem dX5_withoutGaps_26 : decode cX5_withoutGaps 26 = .ok (.iload_n 2, 1) := by decide +kernel
theorem dX5_withoutGaps_27 : decode cX5_withoutGaps 27 = .ok (.iload_n 1, 1) := by decide +kernel
theorem dX5_withoutGaps_28 : decode cX5_withoutGaps 28 = .ok (.iload 4, 2) := by decide +kernel
theorem dX5_withoutGaps_30 : decode cX5_withoutGaps 30 = .ok (.invokestatic 32, 3) := by decide +kernel
theorem dX5_withoutGaps_33 : decode cX5_withoutGaps 33 = .ok (.ifCond .eq 9, 3) := by decide +kernel
theorem dX5_withoutGaps_36 : decode cX5_withoutGaps 36 = .ok (.iconst 1, 1) := by decide +kernel
theorem dX5_withoutGaps_37 : decode cX5_withoutGaps 37 = .ok (.iload_n 3, 1) := by decide +kernel
theorem dX5_withoutGaps_38 : decode cX5_withoutGaps 38 = .ok (.ishl, 1) := by decide +kernel
theorem dX5_withoutGaps_39 : decode cX5_withoutGaps 39 = .ok (.goto 4, 3) := by decide +kernel
theorem dX5_withoutGaps_42 : decode cX5_withoutGaps 42 = .ok (.iconst 0, 1) := by decide +kernel
theorem dX5_withoutGaps_43 : decode cX5_withoutGaps 43 = .ok (.ior, 1) := by decide +kernel
theorem dX5_withoutGaps_44 : decode cX5_withoutGaps 44 = .ok (.istore_n 2, 1) := by decide +kernel
theorem dX5_withoutGaps_45 : decode cX5_withoutGaps 45 = .ok (.iinc 3 1, 3) := by decide +kernel
theorem dX5_withoutGaps_48 : decode cX5_withoutGaps 48 = .ok (.iinc 4 1, 3) := by decide +kernel
theorem dX5_withoutGaps_51 : decode cX5_withoutGaps 51 = .ok (.goto (-44), 3) := by decide +kernel
theorem dX5_withoutGaps_54 : decode cX5_withoutGaps 54 = .ok (.iload_n 2, 1) := by decide +kernel
theorem dX5_withoutGaps_55 : decode cX5_withoutGaps 55 = .ok (.ireturn, 1) := by decide +kernel
theorem dX6_init_0 : decode cX6_init 0 = .ok (.aload_n 0, 1) := by decide +kernel
theorem dX6_init_1 : decode cX6_init 1 = .ok (.invokespecial 3, 3) := by decide +kernel
theorem dX6_init_4 : decode cX6_init 4 = .ok (.aload_n 0, 1) := by decide +kernel
theorem dX6_init_5 : decode cX6_init 5 = .ok (.sipush 200, 3) := by decide +kernel
theorem dX6_init_8 : decode cX6_init 8 = .ok (.newarray .int, 2) := by decide +kernel
theorem dX6_init_10 : decode cX6_init 10 = .ok (.putfield 9, 3) := by decide +kernel
theorem dX6_init_13 : decode cX6_init 13 = .ok (.aload_n 0, 1) := by decide +kernel
theorem dX6_init_14 : decode cX6_init 14 = .ok (.iconst 0, 1) := by decide +kernel
theorem dX6_init_15 : decode cX6_init 15 = .ok (.putfield 15, 3) := by decide +kernel
theorem dX6_init_18 : decode cX6_init 18 = .ok (.return_, 1) := by decide +kernel
theorem dX6_add_0 : decode cX6_add 0 = .ok (.aload_n 0, 1) := by decide +kernel
theorem dX6_add_1 : decode cX6_add 1 = .ok (.getfield 15, 3) := by decide +kernel
theorem dX6_add_4 : decode cX6_add 4 = .ok (.aload_n 0, 1) := by decide +kernel
theorem dX6_add_5 : decode cX6_add 5 = .ok (.getfield 9, 3) := by decide +kernel
theorem dX6_add_8 : decode cX6_add 8 = .ok (.arraylength, 1) := by decide +kernel
theorem dX6_add_9 : decode cX6_add 9 = .ok (.if_icmp .ge 23, 3) := by decide +kernel
theorem dX6_add_12 : decode cX6_add 12 = .ok (.aload_n 0, 1) := by decide +kernel
theorem dX6_add_13 : decode cX6_add 13 = .ok (.getfield 9, 3) := by decide +kernel
theorem dX6_add_16 : decode cX6_add 16 = .ok (.aload_n 0, 1) := by decide +kernel
theorem dX6_add_17 : decode cX6_add 17 = .ok (.getfield 15, 3) := by decide +kernel
theorem dX6_add_20 : decode cX6_add 20 = .ok (.iload_n 1, 1) := by decide +kernel
theorem dX6_add_21 : decode cX6_add 21 = .ok (.iastore, 1) := by decide +kernel
theorem dX6_add_22 : decode cX6_add 22 = .ok (.aload_n 0, 1) := by decide +kernel
theorem dX6_add_23 : decode cX6_add 23 = .ok (.dup, 1) := by decide +kernel
theorem dX6_add_24 : decode cX6_add 24 = .ok (.getfield 15, 3) := by decide +kernel
theorem dX6_add_27 : decode cX6_add 27 = .ok (.iconst 1, 1) := by decide +kernel
theorem dX6_add_28 : decode cX6_add 28 = .ok (.iadd, 1) := by decide +kernel
theorem dX6_add_29 : decode cX6_add 29 = .ok (.putfield 15, 3) := by decide +kernel
theorem dX6_add_32 : decode cX6_add 32 = .ok (.return_, 1) := by decide +kernel
theorem dX6_empty_0 : decode cX6_empty 0 = .ok (.aload_n 0, 1) := by decide +kernel
theorem dX6_empty_1 : decode cX6_empty 1 = .ok (.getfield 15, 3) := by decide +kernel
theorem dX6_empty_4 : decode cX6_empty 4 = .ok (.istore_n 1, 1) := by decide +kernel
theorem dX6_empty_5 : decode cX6_empty 5 = .ok (.aload_n 0, 1) := by decide +kernel
theorem dX6_empty_6 : decode cX6_empty 6 = .ok (.iconst 0, 1) := by decide +kernel
theorem dX6_empty_7 : decode cX6_empty 7 = .ok (.putfield 15, 3) := by decide +kernel
theorem dX6_empty_10 : decode cX6_empty 10 = .ok (.iload_n 1, 1) := by decide +kernel
theorem dX6_empty_11 : decode cX6_empty 11 = .ok (.ireturn, 1) := by decide +kernel
theorem dX6_byteAt_0 : decode cX6_byteAt 0 = .ok (.iload_n 1, 1) := by decide +kernel
theorem dX6_byteAt_1 : decode cX6_byteAt 1 = .ok (.ifCond .lt 20, 3) := by decide +kernel
theorem dX6_byteAt_4 : decode cX6_byteAt 4 = .ok (.iload_n 1, 1) := by decide +kernel
theorem dX6_byteAt_5 : decode cX6_byteAt 5 = .ok (.aload_n 0, 1) := by decide +kernel
theorem dX6_byteAt_6 : decode cX6_byteAt 6 = .ok (.getfield 15, 3) := by decide +kernel
theorem dX6_byteAt_9 : decode cX6_byteAt 9 = .ok (.if_icmp .ge 12, 3) := by decide +kernel
theorem dX6_byteAt_12 : decode cX6_byteAt 12 = .ok (.aload_n 0, 1) := by decide +kernel
theorem dX6_byteAt_13 : decode cX6_byteAt 13 = .ok (.getfield 9, 3) := by decide +kernel
theorem dX6_byteAt_16 : decode cX6_byteAt 16 = .ok (.iload_n 1, 1) := by decide +kernel
theorem dX6_byteAt_17 : decode cX6_byteAt 17 = .ok (.iaload, 1) := by decide +kernel
theorem dX6_byteAt_18 : decode cX6_byteAt 18 = .ok (.goto 5, 3) := by decide +kernel
theorem dX6_byteAt_21 : decode cX6_byteAt 21 = .ok (.bipush (-9), 2) := by decide +kernel
theorem dX6_byteAt_23 : decode cX6_byteAt 23 = .ok (.ireturn, 1) := by decide +kernel
theorem dX6_afterBlanks_0 : decode cX6_afterBlanks 0 = .ok (.iload_n 1, 1) := by decide +kernel
theorem dX6_afterBlanks_1 : decode cX6_afterBlanks 1 = .ok (.istore_n 2, 1) := by decide +kernel
theorem dX6_afterBlanks_2 : decode cX6_afterBlanks 2 = .ok (.iload_n 2, 1) := by decide +kernel
theorem dX6_afterBlanks_3 : decode cX6_afterBlanks 3 = .ok (.aload_n 0, 1) := by decide +kernel
theorem dX6_afterBlanks_4 : decode cX6_afterBlanks 4 = .ok (.getfield 15, 3) := by decide +kernel
theorem dX6_afterBlanks_7 : decode cX6_afterBlanks 7 = .ok (.if_icmp .ge 19, 3) := by decide +kernel
theorem dX6_afterBlanks_10 : decode cX6_afterBlanks 10 = .ok (.aload_n 0, 1) := by decide +kernel
theorem dX6_afterBlanks_11 : decode cX6_afterBlanks 11 = .ok (.iload_n 2, 1) := by decide +kernel
theorem dX6_afterBlanks_12 : decode cX6_afterBlanks 12 = .ok (.invokevirtual 19, 3) := by decide +kernel
theorem dX6_afterBlanks_15 : decode cX6_afterBlanks 15 = .ok (.bipush 32, 2) := by decide +kernel
theorem dX6_afterBlanks_17 : decode cX6_afterBlanks 17 = .ok (.if_icmp .ne 9, 3) := by decide +kernel
theorem dX6_afterBlanks_20 : decode cX6_afterBlanks 20 = .ok (.iinc 2 1, 3) := by decide +kernel
theorem dX6_afterBlanks_23 : decode cX6_afterBlanks 23 = .ok (.goto (-21), 3) := by decide +kernel
theorem dX6_afterBlanks_26 : decode cX6_afterBlanks 26 = .ok (.iload_n 2, 1) := by decide +kernel
theorem dX6_afterBlanks_27 : decode cX6_afterBlanks 27 = .ok (.ireturn, 1) := by decide +kernel
theorem dX6_afterLetters_0 : decode cX6_afterLetters 0 = .ok (.iload_n 1, 1) := by decide +kernel
theorem dX6_afterLetters_1 : decode cX6_afterLetters 1 = .ok (.istore_n 2, 1) := by decide +kernel
theorem dX6_afterLetters_2 : decode cX6_afterLetters 2 = .ok (.iload_n 2, 1) := by decide +kernel
theorem dX6_afterLetters_3 : decode cX6_afterLetters 3 = .ok (.aload_n 0, 1) := by decide +kernel
theorem dX6_afterLetters_4 : decode cX6_afterLetters 4 = .ok (.getfield 15, 3) := by decide +kernel
theorem dX6_afterLetters_7 : decode cX6_afterLetters 7 = .ok (.if_icmp .ge 20, 3) := by decide +kernel
theorem dX6_afterLetters_10 : decode cX6_afterLetters 10 = .ok (.aload_n 0, 1) := by decide +kernel
theorem dX6_afterLetters_11 : decode cX6_afterLetters 11 = .ok (.iload_n 2, 1) := by decide +kernel
theorem dX6_afterLetters_12 : decode cX6_afterLetters 12 = .ok (.invokevirtual 19, 3) := by decide +kernel
theorem dX6_afterLetters_15 : decode cX6_afterLetters 15 = .ok (.invokestatic 23, 3) := by decide +kernel
theorem dX6_afterLetters_18 : decode cX6_afterLetters 18 = .ok (.ifCond .eq 9, 3) := by decide +kernel
theorem dX6_afterLetters_21 : decode cX6_afterLetters 21 = .ok (.iinc 2 1, 3) := by decide +kernel
theorem dX6_afterLetters_24 : decode cX6_afterLetters 24 = .ok (.goto (-22), 3) := by decide +kernel
theorem dX6_afterLetters_27 : decode cX6_afterLetters 27 = .ok (.iload_n 2, 1) := by decide +kernel
theorem dX6_afterLetters_28 : decode cX6_afterLetters 28 = .ok (.ireturn, 1) := by decide +kernel
theorem dX6_afterDigits_0 : decode cX6_afterDigits 0 = .ok (.iload_n 1, 1) := by decide +kernel
theorem dX6_afterDigits_1 : decode cX6_afterDigits 1 = .ok (.istore_n 2, 1) := by decide +kernel
theorem dX6_afterDigits_2 : decode cX6_afterDigits 2 = .ok (.iload_n 2, 1) := by decide +kernel
theorem dX6_afterDigits_3 : decode cX6_afterDigits 3 = .ok (.aload_n 0, 1) := by decide +kernel
theorem dX6_afterDigits_4 : decode cX6_afterDigits 4 = .ok (.getfield 15, 3) := by decide +kernel
theorem dX6_afterDigits_7 : decode cX6_afterDigits 7 = .ok (.if_icmp .ge 20, 3) := by decide +kernel
theorem dX6_afterDigits_10 : decode cX6_afterDigits 10 = .ok (.aload_n 0, 1) := by decide +kernel
theorem dX6_afterDigits_11 : decode cX6_afterDigits 11 = .ok (.iload_n 2, 1) := by decide +kernel
theorem dX6_afterDigits_12 : decode cX6_afterDigits 12 = .ok (.invokevirtual 19, 3) := by decide +kernel
theorem dX6_afterDigits_15 : decode cX6_afterDigits 15 = .ok (.invokestatic 27, 3) := by decide +kernel
theorem dX6_afterDigits_18 : decode cX6_afterDigits 18 = .ok (.ifCond .eq 9, 3) := by decide +kernel
theorem dX6_afterDigits_21 : decode cX6_afterDigits 21 = .ok (.iinc 2 1, 3) := by decide +kernel
theorem dX6_afterDigits_24 : decode cX6_afterDigits 24 = .ok (.goto (-22), 3) := by decide +kernel
theorem dX6_afterDigits_27 : decode cX6_afterDigits 27 = .ok (.iload_n 2, 1) := by decide +kernel
theorem dX6_afterDigits_28 : decode cX6_afterDigits 28 = .ok (.ireturn, 1) := by decide +kernel
theorem dX6_numberAt_0 : decode cX6_numberAt 0 = .ok (.aload_n 0, 1) := by decide +kernel
theorem dX6_numberAt_1 : decode cX6_numberAt 1 = .ok (.iload_n 1, 1) := by decide +kernel
theorem dX6_numberAt_2 : decode cX6_numberAt 2 = .ok (.invokevirtual 30, 3) := by decide +kernel
theorem dX6_numberAt_5 : decode cX6_numberAt 5 = .ok (.iload_n 1, 1) := by decide +kernel
theorem dX6_numberAt_6 : decode cX6_numberAt 6 = .ok (.isub, 1) := by decide +kernel
theorem dX6_numberAt_7 : decode cX6_numberAt 7 = .ok (.istore_n 2, 1) := by decide +kernel
theorem dX6_numberAt_8 : decode cX6_numberAt 8 = .ok (.iload_n 2, 1) := by decide +kernel
theorem dX6_numberAt_9 : decode cX6_numberAt 9 = .ok (.iconst 1, 1) := by decide +kernel
theorem dX6_numberAt_10 : decode cX6_numberAt 10 = .ok (.if_icmp .ne 12, 3) := by decide +kernel
theorem dX6_numberAt_13 : decode cX6_numberAt 13 = .ok (.aload_n 0, 1) := by decide +kernel
theorem dX6_numberAt_14 : decode cX6_numberAt 14 = .ok (.iload_n 1, 1) := by decide +kernel
theorem dX6_numberAt_15 : decode cX6_numberAt 15 = .ok (.invokevirtual 19, 3) := by decide +kernel
theorem dX6_numberAt_18 : decode cX6_numberAt 18 = .ok (.bipush 48, 2) := by decide +kernel
theorem dX6_numberAt_20 : decode cX6_numberAt 20 = .ok (.isub, 1) := by decide +kernel
theorem dX6_numberAt_21 : decode cX6_numberAt 21 = .ok (.ireturn, 1) := by decide +kernel
theorem dX6_numberAt_22 : decode cX6_numberAt 22 = .ok (.iload_n 2, 1) := by decide +kernel
theorem dX6_numberAt_23 : decode cX6_numberAt 23 = .ok (.iconst 2, 1) := by decide +kernel
theorem dX6_numberAt_24 : decode cX6_numberAt 24 = .ok (.if_icmp .ne 36, 3) := by decide +kernel
theorem dX6_numberAt_27 : decode cX6_numberAt 27 = .ok (.aload_n 0, 1) := by decide +kernel
theorem dX6_numberAt_28 : decode cX6_numberAt 28 = .ok (.iload_n 1, 1) := by decide +kernel
theorem dX6_numberAt_29 : decode cX6_numberAt 29 = .ok (.invokevirtual 19, 3) := by decide +kernel
theorem dX6_numberAt_32 : decode cX6_numberAt 32 = .ok (.bipush 48, 2) := by decide +kernel
theorem dX6_numberAt_34 : decode cX6_numberAt 34 = .ok (.if_icmp .eq 26, 3) := by decide +kernel
theorem dX6_numberAt_37 : decode cX6_numberAt 37 = .ok (.bipush 10, 2) := by decide +kernel
theorem dX6_numberAt_39 : decode cX6_numberAt 39 = .ok (.aload_n 0, 1) := by decide +kernel
theorem dX6_numberAt_40 : decode cX6_numberAt 40 = .ok (.iload_n 1, 1) := by decide +kernel
theorem dX6_numberAt_41 : decode cX6_numberAt 41 = .ok (.invokevirtual 19, 3) := by decide +kernel
theorem dX6_numberAt_44 : decode cX6_numberAt 44 = .ok (.bipush 48, 2) := by decide +kernel
theorem dX6_numberAt_46 : decode cX6_numberAt 46 = .ok (.isub, 1) := by decide +kernel
theorem dX6_numberAt_47 : decode cX6_numberAt 47 = .ok (.imul, 1) := by decide +kernel
theorem dX6_numberAt_48 : decode cX6_numberAt 48 = .ok (.aload_n 0, 1) := by decide +kernel
theorem dX6_numberAt_49 : decode cX6_numberAt 49 = .ok (.iload_n 1, 1) := by decide +kernel
theorem dX6_numberAt_50 : decode cX6_numberAt 50 = .ok (.iconst 1, 1) := by decide +kernel
theorem dX6_numberAt_51 : decode cX6_numberAt 51 = .ok (.iadd, 1) := by decide +kernel
theorem dX6_numberAt_52 : decode cX6_numberAt 52 = .ok (.invokevirtual 19, 3) := by decide +kernel
theorem dX6_numberAt_55 : decode cX6_numberAt 55 = .ok (.iadd, 1) := by decide +kernel
theorem dX6_numberAt_56 : decode cX6_numberAt 56 = .ok (.bipush 48, 2) := by decide +kernel
theorem dX6_numberAt_58 : decode cX6_numberAt 58 = .ok (.isub, 1) := by decide +kernel
theorem dX6_numberAt_59 : decode cX6_numberAt 59 = .ok (.ireturn, 1) := by decide +kernel
theorem dX6_numberAt_60 : decode cX6_numberAt 60 = .ok (.bipush (-9), 2) := by decide +kernel
theorem dX6_numberAt_62 : decode cX6_numberAt 62 = .ok (.ireturn, 1) := by decide +kernel
theorem dX6_isWordAt_0 : decode cX6_isWordAt 0 = .ok (.aload_n 0, 1) := by decide +kernel
theorem dX6_isWordAt_1 : decode cX6_isWordAt 1 = .ok (.iload_n 1, 1) := by decide +kernel
theorem dX6_isWordAt_2 : decode cX6_isWordAt 2 = .ok (.invokevirtual 33, 3) := by decide +kernel
theorem dX6_isWordAt_5 : decode cX6_isWordAt 5 = .ok (.iload_n 1, 1) := by decide +kernel
theorem dX6_isWordAt_6 : decode cX6_isWordAt 6 = .ok (.isub, 1) := by decide +kernel
theorem dX6_isWordAt_7 : decode cX6_isWordAt 7 = .ok (.aload_n 2, 1) := by decide +kernel
theorem dX6_isWordAt_8 : decode cX6_isWordAt 8 = .ok (.invokevirtual 36, 3) := by decide +kernel
theorem dX6_isWordAt_11 : decode cX6_isWordAt 11 = .ok (.if_icmp .eq 5, 3) := by decide +kernel
theorem dX6_isWordAt_14 : decode cX6_isWordAt 14 = .ok (.iconst 0, 1) := by decide +kernel
theorem dX6_isWordAt_15 : decode cX6_isWordAt 15 = .ok (.ireturn, 1) := by decide +kernel
theorem dX6_isWordAt_16 : decode cX6_isWordAt 16 = .ok (.iconst 0, 1) := by decide +kernel
theorem dX6_isWordAt_17 : decode cX6_isWordAt 17 = .ok (.istore_n 3, 1) := by decide +kernel
theorem dX6_isWordAt_18 : decode cX6_isWordAt 18 = .ok (.iload_n 3, 1) := by decide +kernel
theorem dX6_isWordAt_19 : decode cX6_isWordAt 19 = .ok (.aload_n 2, 1) := by decide +kernel
theorem dX6_isWordAt_20 : decode cX6_isWordAt 20 = .ok (.invokevirtual 36, 3) := by decide +kernel
theorem dX6_isWordAt_23 : decode cX6_isWordAt 23 = .ok (.if_icmp .ge 26, 3) := by decide +kernel
theorem dX6_isWordAt_26 : decode cX6_isWordAt 26 = .ok (.aload_n 0, 1) := by decide +kernel
theorem dX6_isWordAt_27 : decode cX6_isWordAt 27 = .ok (.iload_n 1, 1) := by decide +kernel
theorem dX6_isWordAt_28 : decode cX6_isWordAt 28 = .ok (.iload_n 3, 1) := by decide +kernel
theorem dX6_isWordAt_29 : decode cX6_isWordAt 29 = .ok (.iadd, 1) := by decide +kernel
theorem dX6_isWordAt_30 : decode cX6_isWordAt 30 = .ok (.invokevirtual 19, 3) := by decide +kernel
theorem dX6_isWordAt_33 : decode cX6_isWordAt 33 = .ok (.aload_n 2, 1) := by decide +kernel
theorem dX6_isWordAt_34 : decode cX6_isWordAt 34 = .ok (.iload_n 3, 1) := by decide +kernel
theorem dX6_isWordAt_35 : decode cX6_isWordAt 35 = .ok (.invokevirtual 42, 3) := by decide +kernel
theorem dX6_isWordAt_38 : decode cX6_isWordAt 38 = .ok (.if_icmp .eq 5, 3) := by decide +kernel
theorem dX6_isWordAt_41 : decode cX6_isWordAt 41 = .ok (.iconst 0, 1) := by decide +kernel
theorem dX6_isWordAt_42 : decode cX6_isWordAt 42 = .ok (.ireturn, 1) := by decide +kernel
theorem dX6_isWordAt_43 : decode cX6_isWordAt 43 = .ok (.iinc 3 1, 3) := by decide +kernel
theorem dX6_isWordAt_46 : decode cX6_isWordAt 46 = .ok (.goto (-28), 3) := by decide +kernel
theorem dX6_isWordAt_49 : decode cX6_isWordAt 49 = .ok (.iconst 1, 1) := by decide +kernel
theorem dX6_isWordAt_50 : decode cX6_isWordAt 50 = .ok (.ireturn, 1) := by decide +kernel
theorem dX6_faultAsList_0 : decode cX6_faultAsList 0 = .ok (.iconst 0, 1) := by decide +kernel
theorem dX6_faultAsList_1 : decode cX6_faultAsList 1 = .ok (.istore_n 1, 1) := by decide +kernel
theorem dX6_faultAsList_2 : decode cX6_faultAsList 2 = .ok (.iconst 0, 1) := by decide +kernel
theorem dX6_faultAsList_3 : decode cX6_faultAsList 3 = .ok (.istore_n 2, 1) := by decide +kernel
theorem dX6_faultAsList_4 : decode cX6_faultAsList 4 = .ok (.iload_n 2, 1) := by decide +kernel
theorem dX6_faultAsList_5 : decode cX6_faultAsList 5 = .ok (.aload_n 0, 1) := by decide +kernel
theorem dX6_faultAsList_6 : decode cX6_faultAsList 6 = .ok (.getfield 15, 3) := by decide +kernel
theorem dX6_faultAsList_9 : decode cX6_faultAsList 9 = .ok (.if_icmp .ge 50, 3) := by decide +kernel
theorem dX6_faultAsList_12 : decode cX6_faultAsList 12 = .ok (.aload_n 0, 1) := by decide +kernel
theorem dX6_faultAsList_13 : decode cX6_faultAsList 13 = .ok (.iload_n 2, 1) := by decide +kernel
theorem dX6_faultAsList_14 : decode cX6_faultAsList 14 = .ok (.invokevirtual 19, 3) := by decide +kernel
theorem dX6_faultAsList_17 : decode cX6_faultAsList 17 = .ok (.istore_n 3, 1) := by decide +kernel
theorem dX6_faultAsList_18 : decode cX6_faultAsList 18 = .ok (.iload_n 3, 1) := by decide +kernel
theorem dX6_faultAsList_19 : decode cX6_faultAsList 19 = .ok (.invokestatic 23, 3) := by decide +kernel
theorem dX6_faultAsList_22 : decode cX6_faultAsList 22 = .ok (.ifCond .eq 20, 3) := by decide +kernel
theorem dX6_faultAsList_25 : decode cX6_faultAsList 25 = .ok (.iload_n 1, 1) := by decide +kernel
theorem dX6_faultAsList_26 : decode cX6_faultAsList 26 = .ok (.iload_n 3, 1) := by decide +kernel
theorem dX6_faultAsList_27 : decode cX6_faultAsList 27 = .ok (.bipush 97, 2) := by decide +kernel
theorem dX6_faultAsList_29 : decode cX6_faultAsList 29 = .ok (.isub, 1) := by decide +kernel
theorem dX6_faultAsList_30 : decode cX6_faultAsList 30 = .ok (.invokestatic 46, 3) := by decide +kernel
theorem dX6_faultAsList_33 : decode cX6_faultAsList 33 = .ok (.ifCond .ne 9, 3) := by decide +kernel
theorem dX6_faultAsList_36 : decode cX6_faultAsList 36 = .ok (.iload_n 2, 1) := by decide +kernel
theorem dX6_faultAsList_37 : decode cX6_faultAsList 37 = .ok (.bipush 12, 2) := by decide +kernel
theorem dX6_faultAsList_39 : decode cX6_faultAsList 39 = .ok (.if_icmp .lt 5, 3) := by decide +kernel
theorem dX6_faultAsList_42 : decode cX6_faultAsList 42 = .ok (.iload_n 2, 1) := by decide +kernel
theorem dX6_faultAsList_43 : decode cX6_faultAsList 43 = .ok (.ireturn, 1) := by decide +kernel
theorem dX6_faultAsList_44 : decode cX6_faultAsList 44 = .ok (.iload_n 1, 1) := by decide +kernel
theorem dX6_faultAsList_45 : decode cX6_faultAsList 45 = .ok (.iconst 1, 1) := by decide +kernel
theorem dX6_faultAsList_46 : decode cX6_faultAsList 46 = .ok (.iload_n 3, 1) := by decide +kernel
theorem dX6_faultAsList_47 : decode cX6_faultAsList 47 = .ok (.bipush 97, 2) := by decide +kernel
theorem dX6_faultAsList_49 : decode cX6_faultAsList 49 = .ok (.isub, 1) := by decide +kernel
theorem dX6_faultAsList_50 : decode cX6_faultAsList 50 = .ok (.ishl, 1) := by decide +kernel
theorem dX6_faultAsList_51 : decode cX6_faultAsList 51 = .ok (.ior, 1) := by decide +kernel
theorem dX6_faultAsList_52 : decode cX6_faultAsList 52 = .ok (.istore_n 1, 1) := by decide +kernel
theorem dX6_faultAsList_53 : decode cX6_faultAsList 53 = .ok (.iinc 2 1, 3) := by decide +kernel
theorem dX6_faultAsList_56 : decode cX6_faultAsList 56 = .ok (.goto (-52), 3) := by decide +kernel
theorem dX6_faultAsList_59 : decode cX6_faultAsList 59 = .ok (.bipush (-9), 2) := by decide +kernel
theorem dX6_faultAsList_61 : decode cX6_faultAsList 61 = .ok (.ireturn, 1) := by decide +kernel
theorem dX7_init_0 : decode cX7_init 0 = .ok (.aload_n 0, 1) := by decide +kernel
theorem dX7_init_1 : decode cX7_init 1 = .ok (.invokespecial 3, 3) := by decide +kernel
theorem dX7_init_4 : decode cX7_init 4 = .ok (.aload_n 0, 1) := by decide +kernel
theorem dX7_init_5 : decode cX7_init 5 = .ok (.new 9, 3) := by decide +kernel
theorem dX7_init_8 : decode cX7_init 8 = .ok (.dup, 1) := by decide +kernel
theorem dX7_init_9 : decode cX7_init 9 = .ok (.invokespecial 11, 3) := by decide +kernel
theorem dX7_init_12 : decode cX7_init 12 = .ok (.putfield 12, 3) := by decide +kernel
theorem dX7_init_15 : decode cX7_init 15 = .ok (.aload_n 0, 1) := by decide +kernel
theorem dX7_init_16 : decode cX7_init 16 = .ok (.new 16, 3) := by decide +kernel
theorem dX7_init_19 : decode cX7_init 19 = .ok (.dup, 1) := by decide +kernel
theorem dX7_init_20 : decode cX7_init 20 = .ok (.invokespecial 18, 3) := by decide +kernel
theorem dX7_init_23 : decode cX7_init 23 = .ok (.putfield 19, 3) := by decide +kernel
theorem dX7_init_26 : decode cX7_init 26 = .ok (.aload_n 0, 1) := by decide +kernel
theorem dX7_init_27 : decode cX7_init 27 = .ok (.new 23, 3) := by decide +kernel
theorem dX7_init_30 : decode cX7_init 30 = .ok (.dup, 1) := by decide +kernel
theorem dX7_init_31 : decode cX7_init 31 = .ok (.invokespecial 25, 3) := by decide +kernel
theorem dX7_init_34 : decode cX7_init 34 = .ok (.putfield 26, 3) := by decide +kernel
theorem dX7_init_37 : decode cX7_init 37 = .ok (.aload_n 0, 1) := by decide +kernel
theorem dX7_init_38 : decode cX7_init 38 = .ok (.new 23, 3) := by decide +kernel
theorem dX7_init_41 : decode cX7_init 41 = .ok (.dup, 1) := by decide +kernel
theorem dX7_init_42 : decode cX7_init 42 = .ok (.invokespecial 25, 3) := by decide +kernel
theorem dX7_init_45 : decode cX7_init 45 = .ok (.putfield 30, 3) := by decide +kernel
theorem dX7_init_48 : decode cX7_init 48 = .ok (.aload_n 0, 1) := by decide +kernel
theorem dX7_init_49 : decode cX7_init 49 = .ok (.new 23, 3) := by decide +kernel
theorem dX7_init_52 : decode cX7_init 52 = .ok (.dup, 1) := by decide +kernel
theorem dX7_init_53 : decode cX7_init 53 = .ok (.invokespecial 25, 3) := by decide +kernel
theorem dX7_init_56 : decode cX7_init 56 = .ok (.putfield 33, 3) := by decide +kernel
theorem dX7_init_59 : decode cX7_init 59 = .ok (.aload_n 0, 1) := by decide +kernel
theorem dX7_init_60 : decode cX7_init 60 = .ok (.new 36, 3) := by decide +kernel
theorem dX7_init_63 : decode cX7_init 63 = .ok (.dup, 1) := by decide +kernel
theorem dX7_init_64 : decode cX7_init 64 = .ok (.invokespecial 38, 3) := by decide +kernel
theorem dX7_init_67 : decode cX7_init 67 = .ok (.putfield 39, 3) := by decide +kernel
theorem dX7_init_70 : decode cX7_init 70 = .ok (.aload_n 0, 1) := by decide +kernel
theorem dX7_init_71 : decode cX7_init 71 = .ok (.new 36, 3) := by decide +kernel
theorem dX7_init_74 : decode cX7_init 74 = .ok (.dup, 1) := by decide +kernel
theorem dX7_init_75 : decode cX7_init 75 = .ok (.invokespecial 38, 3) := by decide +kernel
theorem dX7_init_78 : decode cX7_init 78 = .ok (.putfield 43, 3) := by decide +kernel
theorem dX7_init_81 : decode cX7_init 81 = .ok (.aload_n 0, 1) := by decide +kernel
theorem dX7_init_82 : decode cX7_init 82 = .ok (.new 46, 3) := by decide +kernel
theorem dX7_init_85 : decode cX7_init 85 = .ok (.dup, 1) := by decide +kernel
theorem dX7_init_86 : decode cX7_init 86 = .ok (.invokespecial 48, 3) := by decide +kernel
theorem dX7_init_89 : decode cX7_init 89 = .ok (.putfield 49, 3) := by decide +kernel
theorem dX7_init_92 : decode cX7_init 92 = .ok (.aload_n 0, 1) := by decide +kernel
theorem dX7_init_93 : decode cX7_init 93 = .ok (.bipush 12, 2) := by decide +kernel
theorem dX7_init_95 : decode cX7_init 95 = .ok (.newarray .int, 2) := by decide +kernel
theorem dX7_init_97 : decode cX7_init 97 = .ok (.putfield 53, 3) := by decide +kernel
theorem dX7_init_100 : decode cX7_init 100 = .ok (.aload_n 0, 1) := by decide +kernel
theorem dX7_init_101 : decode cX7_init 101 = .ok (.bipush 20, 2) := by decide +kernel
theorem dX7_init_103 : decode cX7_init 103 = .ok (.putfield 57, 3) := by decide +kernel
theorem dX7_init_106 : decode cX7_init 106 = .ok (.aload_n 0, 1) := by decide +kernel
theorem dX7_init_107 : decode cX7_init 107 = .ok (.bipush 35, 2) := by decide +kernel
theorem dX7_init_109 : decode cX7_init 109 = .ok (.putfield 61, 3) := by decide +kernel
theorem dX7_init_112 : decode cX7_init 112 = .ok (.aload_n 0, 1) := by decide +kernel
theorem dX7_init_113 : decode cX7_init 113 = .ok (.lconst 0, 1) := by decide +kernel
theorem dX7_init_114 : decode cX7_init 114 = .ok (.putfield 64, 3) := by decide +kernel
theorem dX7_init_117 : decode cX7_init 117 = .ok (.return_, 1) := by decide +kernel
theorem dX7_type_0 : decode cX7_type 0 = .ok (.iload_n 3, 1) := by decide +kernel
theorem dX7_type_1 : decode cX7_type 1 = .ok (.iconst 1, 1) := by decide +kernel
theorem dX7_type_2 : decode cX7_type 2 = .ok (.if_icmp .lt 9, 3) := by decide +kernel
theorem dX7_type_5 : decode cX7_type 5 = .ok (.iload_n 3, 1) := by decide +kernel
theorem dX7_type_6 : decode cX7_type 6 = .ok (.bipush 8, 2) := by decide +kernel
theorem dX7_type_8 : decode cX7_type 8 = .ok (.if_icmp .le 5, 3) := by decide +kernel
theorem dX7_type_11 : decode cX7_type 11 = .ok (.iconst (-1), 1) := by decide +kernel
theorem dX7_type_12 : decode cX7_type 12 = .ok (.ireturn, 1) := by decide +kernel
theorem dX7_type_13 : decode cX7_type 13 = .ok (.aload_n 0, 1) := by decide +kernel
theorem dX7_type_14 : decode cX7_type 14 = .ok (.getfield 12, 3) := by decide +kernel
theorem dX7_type_17 : decode cX7_type 17 = .ok (.getfield 68, 3) := by decide +kernel
theorem dX7_type_20 : decode cX7_type 20 = .ok (.iload_n 3, 1) := by decide +kernel
theorem dX7_type_21 : decode cX7_type 21 = .ok (.iadd, 1) := by decide +kernel
theorem dX7_type_22 : decode cX7_type 22 = .ok (.sipush 200, 3) := by decide +kernel
theorem dX7_type_25 : decode cX7_type 25 = .ok (.if_icmp .le 6, 3) := by decide +kernel
theorem dX7_type_28 : decode cX7_type 28 = .ok (.bipush (-3), 2) := by decide +kernel
theorem dX7_type_30 : decode cX7_type 30 = .ok (.ireturn, 1) := by decide +kernel
theorem dX7_type_31 : decode cX7_type 31 = .ok (.iload_n 3, 1) := by decide +kernel
theorem dX7_type_32 : decode cX7_type 32 = .ok (.iconst 1, 1) := by decide +kernel
theorem dX7_type_33 : decode cX7_type 33 = .ok (.isub, 1) := by decide +kernel
theorem dX7_type_34 : decode cX7_type 34 = .ok (.istore 4, 2) := by decide +kernel
theorem dX7_type_36 : decode cX7_type 36 = .ok (.iload 4, 2) := by decide +kernel
theorem dX7_type_38 : decode cX7_type 38 = .ok (.ifCond .lt 28, 3) := by decide +kernel
theorem dX7_type_41 : decode cX7_type 41 = .ok (.aload_n 0, 1) := by decide +kernel
theorem dX7_type_42 : decode cX7_type 42 = .ok (.getfield 12, 3) := by decide +kernel
theorem dX7_type_45 : decode cX7_type 45 = .ok (.lload_n 1, 1) := by decide +kernel
theorem dX7_type_46 : decode cX7_type 46 = .ok (.bipush 8, 2) := by decide +kernel
theorem dX7_type_48 : decode cX7_type 48 = .ok (.iload 4, 2) := by decide +kernel
theorem dX7_type_50 : decode cX7_type 50 = .ok (.imul, 1) := by decide +kernel
theorem dX7_type_51 : decode cX7_type 51 = .ok (.lushr, 1) := by decide +kernel
theorem dX7_type_52 : decode cX7_type 52 = .ok (.l2i, 1) := by decide +kernel
theorem dX7_type_53 : decode cX7_type 53 = .ok (.sipush 255, 3) := by decide +kernel
theorem dX7_type_56 : decode cX7_type 56 = .ok (.iand, 1) := by decide +kernel
theorem dX7_type_57 : decode cX7_type 57 = .ok (.invokevirtual 71, 3) := by decide +kernel
theorem dX7_type_60 : decode cX7_type 60 = .ok (.iinc 4 (-1), 3) := by decide +kernel
theorem dX7_type_63 : decode cX7_type 63 = .ok (.goto (-27), 3) := by decide +kernel
theorem dX7_type_66 : decode cX7_type 66 = .ok (.aload_n 0, 1) := by decide +kernel
theorem dX7_type_67 : decode cX7_type 67 = .ok (.getfield 12, 3) := by decide +kernel
theorem dX7_type_70 : decode cX7_type 70 = .ok (.getfield 68, 3) := by decide +kernel
theorem dX7_type_73 : decode cX7_type 73 = .ok (.ireturn, 1) := by decide +kernel
theorem dX7_clear_0 : decode cX7_clear 0 = .ok (.aload_n 0, 1) := by decide +kernel
theorem dX7_clear_1 : decode cX7_clear 1 = .ok (.getfield 12, 3) := by decide +kernel
theorem dX7_clear_4 : decode cX7_clear 4 = .ok (.invokevirtual 75, 3) := by decide +kernel
theorem dX7_clear_7 : decode cX7_clear 7 = .ok (.ireturn, 1) := by decide +kernel
theorem dX7_law_0 : decode cX7_law 0 = .ok (.aload_n 0, 1) := by decide +kernel
theorem dX7_law_1 : decode cX7_law 1 = .ok (.getfield 19, 3) := by decide +kernel
theorem dX7_law_4 : decode cX7_law 4 = .ok (.aload_n 0, 1) := by decide +kernel
theorem dX7_law_5 : decode cX7_law 5 = .ok (.getfield 12, 3) := by decide +kernel
theorem dX7_law_8 : decode cX7_law 8 = .ok (.invokevirtual 79, 3) := by decide +kernel
theorem dX7_law_11 : decode cX7_law 11 = .ok (.istore_n 1, 1) := by decide +kernel
theorem dX7_law_12 : decode cX7_law 12 = .ok (.iload_n 1, 1) := by decide +kernel
theorem dX7_law_13 : decode cX7_law 13 = .ok (.ifCond .lt 11, 3) := by decide +kernel
theorem dX7_law_16 : decode cX7_law 16 = .ok (.aload_n 0, 1) := by decide +kernel
theorem dX7_law_17 : decode cX7_law 17 = .ok (.getfield 12, 3) := by decide +kernel
theorem dX7_law_20 : decode cX7_law 20 = .ok (.invokevirtual 75, 3) := by decide +kernel
theorem dX7_law_23 : decode cX7_law 23 = .ok (.pop, 1) := by decide +kernel
theorem dX7_law_24 : decode cX7_law 24 = .ok (.iload_n 1, 1) := by decide +kernel
theorem dX7_law_25 : decode cX7_law 25 = .ok (.ireturn, 1) := by decide +kernel
theorem dX7_list_0 : decode cX7_list 0 = .ok (.iload_n 1, 1) := by decide +kernel
theorem dX7_list_1 : decode cX7_list 1 = .ok (.invokestatic 83, 3) := by decide +kernel
theorem dX7_list_4 : decode cX7_list 4 = .ok (.ifCond .ne 5, 3) := by decide +kernel
theorem dX7_list_7 : decode cX7_list 7 = .ok (.iconst (-1), 1) := by decide +kernel
theorem dX7_list_8 : decode cX7_list 8 = .ok (.ireturn, 1) := by decide +kernel
theorem dX7_list_9 : decode cX7_list 9 = .ok (.aload_n 0, 1) := by decide +kernel
theorem dX7_list_10 : decode cX7_list 10 = .ok (.getfield 12, 3) := by decide +kernel
theorem dX7_list_13 : decode cX7_list 13 = .ok (.invokevirtual 87, 3) := by decide +kernel
theorem dX7_list_16 : decode cX7_list 16 = .ok (.istore_n 2, 1) := by decide +kernel
theorem dX7_list_17 : decode cX7_list 17 = .ok (.iload_n 2, 1) := by decide +kernel
theorem dX7_list_18 : decode cX7_list 18 = .ok (.bipush (-9), 2) := by decide +kernel
theorem dX7_list_20 : decode cX7_list 20 = .ok (.if_icmp .eq 8, 3) := by decide +kernel
theorem dX7_list_23 : decode cX7_list 23 = .ok (.bipush (-10), 2) := by decide +kernel
theorem dX7_list_25 : decode cX7_list 25 = .ok (.iload_n 2, 1) := by decide +kernel
theorem dX7_list_26 : decode cX7_list 26 = .ok (.isub, 1) := by decide +kernel
theorem dX7_list_27 : decode cX7_list 27 = .ok (.ireturn, 1) := by decide +kernel
theorem dX7_list_28 : decode cX7_list 28 = .ok (.aload_n 0, 1) := by decide +kernel
theorem dX7_list_29 : decode cX7_list 29 = .ok (.getfield 26, 3) := by decide +kernel
theorem dX7_list_32 : decode cX7_list 32 = .ok (.getfield 90, 3) := by decide +kernel
theorem dX7_list_35 : decode cX7_list 35 = .ok (.iload_n 1, 1) := by decide +kernel
theorem dX7_list_36 : decode cX7_list 36 = .ok (.aaload, 1) := by decide +kernel
theorem dX7_list_37 : decode cX7_list 37 = .ok (.astore_n 3, 1) := by decide +kernel
theorem dX7_list_38 : decode cX7_list 38 = .ok (.aload_n 3, 1) := by decide +kernel
theorem dX7_list_39 : decode cX7_list 39 = .ok (.aload_n 0, 1) := by decide +kernel
theorem dX7_list_40 : decode cX7_list 40 = .ok (.getfield 12, 3) := by decide +kernel
theorem dX7_list_43 : decode cX7_list 43 = .ok (.invokevirtual 94, 3) := by decide +kernel
theorem dX7_list_46 : decode cX7_list 46 = .ok (.aload_n 0, 1) := by decide +kernel
theorem dX7_list_47 : decode cX7_list 47 = .ok (.getfield 12, 3) := by decide +kernel
theorem dX7_list_50 : decode cX7_list 50 = .ok (.invokevirtual 75, 3) := by decide +kernel
theorem dX7_list_53 : decode cX7_list 53 = .ok (.pop, 1) := by decide +kernel
theorem dX7_list_54 : decode cX7_list 54 = .ok (.aload_n 3, 1) := by decide +kernel
theorem dX7_list_55 : decode cX7_list 55 = .ok (.getfield 99, 3) := by decide +kernel
theorem dX7_list_58 : decode cX7_list 58 = .ok (.ireturn, 1) := by decide +kernel
theorem dX7_told_0 : decode cX7_told 0 = .ok (.iload_n 1, 1) := by decide +kernel
theorem dX7_told_1 : decode cX7_told 1 = .ok (.ifCond .lt 8, 3) := by decide +kernel
theorem dX7_told_4 : decode cX7_told 4 = .ok (.iload_n 1, 1) := by decide +kernel
theorem dX7_told_5 : decode cX7_told 5 = .ok (.iconst 5, 1) := by decide +kernel
end
section
theorem dX7_told_6 : decode cX7_told 6 = .ok (.if_icmp .lt 7, 3) := by decide +kernel
theorem dX7_told_9 : decode cX7_told 9 = .ok (.iconst (-1), 1) := by decide +kernel
theorem dX7_told_10 : decode cX7_told 10 = .ok (.goto 12, 3) := by decide +kernel
theorem dX7_told_13 : decode cX7_told 13 = .ok (.aload_n 0, 1) := by decide +kernel
theorem dX7_told_14 : decode cX7_told 14 = .ok (.getfield 19, 3) := by decide +kernel
theorem dX7_told_17 : decode cX7_told 17 = .ok (.getfield 100, 3) := by decide +kernel
theorem dX7_told_20 : decode cX7_told 20 = .ok (.iload_n 1, 1) := by decide +kernel
theorem dX7_told_21 : decode cX7_told 21 = .ok (.iaload, 1) := by decide +kernel
theorem dX7_told_22 : decode cX7_told 22 = .ok (.ireturn, 1) := by decide +kernel
theorem dX7_name_0 : decode cX7_name 0 = .ok (.iload_n 1, 1) := by decide +kernel
theorem dX7_name_1 : decode cX7_name 1 = .ok (.invokestatic 83, 3) := by decide +kernel
theorem dX7_name_4 : decode cX7_name 4 = .ok (.ifCond .ne 5, 3) := by decide +kernel
theorem dX7_name_7 : decode cX7_name 7 = .ok (.iconst (-1), 1) := by decide +kernel
theorem dX7_name_8 : decode cX7_name 8 = .ok (.ireturn, 1) := by decide +kernel
theorem dX7_name_9 : decode cX7_name 9 = .ok (.aload_n 0, 1) := by decide +kernel
theorem dX7_name_10 : decode cX7_name 10 = .ok (.getfield 26, 3) := by decide +kernel
theorem dX7_name_13 : decode cX7_name 13 = .ok (.getfield 90, 3) := by decide +kernel
theorem dX7_name_16 : decode cX7_name 16 = .ok (.iload_n 1, 1) := by decide +kernel
theorem dX7_name_17 : decode cX7_name 17 = .ok (.aaload, 1) := by decide +kernel
theorem dX7_name_18 : decode cX7_name 18 = .ok (.astore_n 3, 1) := by decide +kernel
theorem dX7_name_19 : decode cX7_name 19 = .ok (.iload_n 2, 1) := by decide +kernel
theorem dX7_name_20 : decode cX7_name 20 = .ok (.iconst (-1), 1) := by decide +kernel
theorem dX7_name_21 : decode cX7_name 21 = .ok (.if_icmp .ne 8, 3) := by decide +kernel
theorem dX7_name_24 : decode cX7_name 24 = .ok (.aload_n 3, 1) := by decide +kernel
theorem dX7_name_25 : decode cX7_name 25 = .ok (.getfield 99, 3) := by decide +kernel
theorem dX7_name_28 : decode cX7_name 28 = .ok (.ireturn, 1) := by decide +kernel
theorem dX7_name_29 : decode cX7_name 29 = .ok (.aload_n 3, 1) := by decide +kernel
theorem dX7_name_30 : decode cX7_name 30 = .ok (.iload_n 2, 1) := by decide +kernel
theorem dX7_name_31 : decode cX7_name 31 = .ok (.invokevirtual 103, 3) := by decide +kernel
theorem dX7_name_34 : decode cX7_name 34 = .ok (.ifCond .eq 11, 3) := by decide +kernel
theorem dX7_name_37 : decode cX7_name 37 = .ok (.aload_n 3, 1) := by decide +kernel
theorem dX7_name_38 : decode cX7_name 38 = .ok (.iload_n 2, 1) := by decide +kernel
theorem dX7_name_39 : decode cX7_name 39 = .ok (.invokevirtual 106, 3) := by decide +kernel
theorem dX7_name_42 : decode cX7_name 42 = .ok (.goto 4, 3) := by decide +kernel
theorem dX7_name_45 : decode cX7_name 45 = .ok (.iconst (-1), 1) := by decide +kernel
theorem dX7_name_46 : decode cX7_name 46 = .ok (.ireturn, 1) := by decide +kernel
theorem dX7_place_0 : decode cX7_place 0 = .ok (.iload_n 1, 1) := by decide +kernel
theorem dX7_place_1 : decode cX7_place 1 = .ok (.invokestatic 83, 3) := by decide +kernel
theorem dX7_place_4 : decode cX7_place 4 = .ok (.ifCond .eq 26, 3) := by decide +kernel
theorem dX7_place_7 : decode cX7_place 7 = .ok (.iload_n 2, 1) := by decide +kernel
theorem dX7_place_8 : decode cX7_place 8 = .ok (.invokestatic 110, 3) := by decide +kernel
theorem dX7_place_11 : decode cX7_place 11 = .ok (.ifCond .eq 19, 3) := by decide +kernel
theorem dX7_place_14 : decode cX7_place 14 = .ok (.aload_n 0, 1) := by decide +kernel
theorem dX7_place_15 : decode cX7_place 15 = .ok (.getfield 26, 3) := by decide +kernel
theorem dX7_place_18 : decode cX7_place 18 = .ok (.getfield 90, 3) := by decide +kernel
theorem dX7_place_21 : decode cX7_place 21 = .ok (.iload_n 1, 1) := by decide +kernel
theorem dX7_place_22 : decode cX7_place 22 = .ok (.aaload, 1) := by decide +kernel
theorem dX7_place_23 : decode cX7_place 23 = .ok (.iload_n 2, 1) := by decide +kernel
theorem dX7_place_24 : decode cX7_place 24 = .ok (.invokevirtual 113, 3) := by decide +kernel
theorem dX7_place_27 : decode cX7_place 27 = .ok (.goto 4, 3) := by decide +kernel
theorem dX7_place_30 : decode cX7_place 30 = .ok (.iconst (-1), 1) := by decide +kernel
theorem dX7_place_31 : decode cX7_place 31 = .ok (.ireturn, 1) := by decide +kernel
theorem dX7_house_0 : decode cX7_house 0 = .ok (.iload_n 1, 1) := by decide +kernel
theorem dX7_house_1 : decode cX7_house 1 = .ok (.invokestatic 116, 3) := by decide +kernel
theorem dX7_house_4 : decode cX7_house 4 = .ok (.ifCond .ne 5, 3) := by decide +kernel
theorem dX7_house_7 : decode cX7_house 7 = .ok (.iconst (-1), 1) := by decide +kernel
theorem dX7_house_8 : decode cX7_house 8 = .ok (.ireturn, 1) := by decide +kernel
theorem dX7_house_9 : decode cX7_house 9 = .ok (.iload_n 2, 1) := by decide +kernel
theorem dX7_house_10 : decode cX7_house 10 = .ok (.ifCond .ne 26, 3) := by decide +kernel
theorem dX7_house_13 : decode cX7_house 13 = .ok (.iload_n 3, 1) := by decide +kernel
theorem dX7_house_14 : decode cX7_house 14 = .ok (.invokestatic 119, 3) := by decide +kernel
theorem dX7_house_17 : decode cX7_house 17 = .ok (.ifCond .eq 19, 3) := by decide +kernel
theorem dX7_house_20 : decode cX7_house 20 = .ok (.aload_n 0, 1) := by decide +kernel
theorem dX7_house_21 : decode cX7_house 21 = .ok (.getfield 26, 3) := by decide +kernel
theorem dX7_house_24 : decode cX7_house 24 = .ok (.getfield 122, 3) := by decide +kernel
theorem dX7_house_27 : decode cX7_house 27 = .ok (.getfield 126, 3) := by decide +kernel
theorem dX7_house_30 : decode cX7_house 30 = .ok (.iload_n 1, 1) := by decide +kernel
theorem dX7_house_31 : decode cX7_house 31 = .ok (.iload_n 3, 1) := by decide +kernel
theorem dX7_house_32 : decode cX7_house 32 = .ok (.invokestatic 131, 3) := by decide +kernel
theorem dX7_house_35 : decode cX7_house 35 = .ok (.ireturn, 1) := by decide +kernel
theorem dX7_house_36 : decode cX7_house 36 = .ok (.iload_n 2, 1) := by decide +kernel
theorem dX7_house_37 : decode cX7_house 37 = .ok (.iconst 1, 1) := by decide +kernel
theorem dX7_house_38 : decode cX7_house 38 = .ok (.if_icmp .ne 26, 3) := by decide +kernel
theorem dX7_house_41 : decode cX7_house 41 = .ok (.iload_n 3, 1) := by decide +kernel
theorem dX7_house_42 : decode cX7_house 42 = .ok (.invokestatic 135, 3) := by decide +kernel
theorem dX7_house_45 : decode cX7_house 45 = .ok (.ifCond .eq 19, 3) := by decide +kernel
theorem dX7_house_48 : decode cX7_house 48 = .ok (.aload_n 0, 1) := by decide +kernel
theorem dX7_house_49 : decode cX7_house 49 = .ok (.getfield 26, 3) := by decide +kernel
theorem dX7_house_52 : decode cX7_house 52 = .ok (.getfield 122, 3) := by decide +kernel
theorem dX7_house_55 : decode cX7_house 55 = .ok (.getfield 138, 3) := by decide +kernel
theorem dX7_house_58 : decode cX7_house 58 = .ok (.iload_n 1, 1) := by decide +kernel
theorem dX7_house_59 : decode cX7_house 59 = .ok (.iload_n 3, 1) := by decide +kernel
theorem dX7_house_60 : decode cX7_house 60 = .ok (.invokestatic 131, 3) := by decide +kernel
theorem dX7_house_63 : decode cX7_house 63 = .ok (.ireturn, 1) := by decide +kernel
theorem dX7_house_64 : decode cX7_house 64 = .ok (.iconst (-1), 1) := by decide +kernel
theorem dX7_house_65 : decode cX7_house 65 = .ok (.ireturn, 1) := by decide +kernel
theorem dX7_held_0 : decode cX7_held 0 = .ok (.iload_n 1, 1) := by decide +kernel
theorem dX7_held_1 : decode cX7_held 1 = .ok (.invokestatic 110, 3) := by decide +kernel
theorem dX7_held_4 : decode cX7_held 4 = .ok (.ifCond .eq 17, 3) := by decide +kernel
theorem dX7_held_7 : decode cX7_held 7 = .ok (.aload_n 0, 1) := by decide +kernel
theorem dX7_held_8 : decode cX7_held 8 = .ok (.getfield 26, 3) := by decide +kernel
theorem dX7_held_11 : decode cX7_held 11 = .ok (.getfield 122, 3) := by decide +kernel
theorem dX7_held_14 : decode cX7_held 14 = .ok (.iload_n 1, 1) := by decide +kernel
theorem dX7_held_15 : decode cX7_held 15 = .ok (.invokevirtual 141, 3) := by decide +kernel
theorem dX7_held_18 : decode cX7_held 18 = .ok (.goto 4, 3) := by decide +kernel
theorem dX7_held_21 : decode cX7_held 21 = .ok (.iconst (-1), 1) := by decide +kernel
theorem dX7_held_22 : decode cX7_held 22 = .ok (.ireturn, 1) := by decide +kernel
theorem dX7_say_0 : decode cX7_say 0 = .ok (.iload_n 1, 1) := by decide +kernel
theorem dX7_say_1 : decode cX7_say 1 = .ok (.invokestatic 83, 3) := by decide +kernel
theorem dX7_say_4 : decode cX7_say 4 = .ok (.ifCond .eq 10, 3) := by decide +kernel
theorem dX7_say_7 : decode cX7_say 7 = .ok (.iload_n 2, 1) := by decide +kernel
theorem dX7_say_8 : decode cX7_say 8 = .ok (.invokestatic 135, 3) := by decide +kernel
theorem dX7_say_11 : decode cX7_say 11 = .ok (.ifCond .ne 5, 3) := by decide +kernel
theorem dX7_say_14 : decode cX7_say 14 = .ok (.iconst (-1), 1) := by decide +kernel
theorem dX7_say_15 : decode cX7_say 15 = .ok (.ireturn, 1) := by decide +kernel
theorem dX7_say_16 : decode cX7_say 16 = .ok (.aload_n 0, 1) := by decide +kernel
theorem dX7_say_17 : decode cX7_say 17 = .ok (.getfield 26, 3) := by decide +kernel
theorem dX7_say_20 : decode cX7_say 20 = .ok (.getfield 90, 3) := by decide +kernel
theorem dX7_say_23 : decode cX7_say 23 = .ok (.iload_n 1, 1) := by decide +kernel
theorem dX7_say_24 : decode cX7_say 24 = .ok (.aaload, 1) := by decide +kernel
theorem dX7_say_25 : decode cX7_say 25 = .ok (.astore_n 3, 1) := by decide +kernel
theorem dX7_say_26 : decode cX7_say 26 = .ok (.iload_n 2, 1) := by decide +kernel
theorem dX7_say_27 : decode cX7_say 27 = .ok (.bipush (-9), 2) := by decide +kernel
theorem dX7_say_29 : decode cX7_say 29 = .ok (.if_icmp .eq 16, 3) := by decide +kernel
theorem dX7_say_32 : decode cX7_say 32 = .ok (.aload_n 3, 1) := by decide +kernel
theorem dX7_say_33 : decode cX7_say 33 = .ok (.iload_n 2, 1) := by decide +kernel
theorem dX7_say_34 : decode cX7_say 34 = .ok (.invokevirtual 113, 3) := by decide +kernel
theorem dX7_say_37 : decode cX7_say 37 = .ok (.bipush (-9), 2) := by decide +kernel
theorem dX7_say_39 : decode cX7_say 39 = .ok (.if_icmp .eq 6, 3) := by decide +kernel
theorem dX7_say_42 : decode cX7_say 42 = .ok (.bipush (-2), 2) := by decide +kernel
theorem dX7_say_44 : decode cX7_say 44 = .ok (.ireturn, 1) := by decide +kernel
theorem dX7_say_45 : decode cX7_say 45 = .ok (.aload_n 0, 1) := by decide +kernel
theorem dX7_say_46 : decode cX7_say 46 = .ok (.getfield 39, 3) := by decide +kernel
theorem dX7_say_49 : decode cX7_say 49 = .ok (.aload_n 3, 1) := by decide +kernel
theorem dX7_say_50 : decode cX7_say 50 = .ok (.aload_n 0, 1) := by decide +kernel
theorem dX7_say_51 : decode cX7_say 51 = .ok (.getfield 26, 3) := by decide +kernel
theorem dX7_say_54 : decode cX7_say 54 = .ok (.getfield 122, 3) := by decide +kernel
theorem dX7_say_57 : decode cX7_say 57 = .ok (.invokevirtual 144, 3) := by decide +kernel
theorem dX7_say_60 : decode cX7_say 60 = .ok (.aload_n 0, 1) := by decide +kernel
theorem dX7_say_61 : decode cX7_say 61 = .ok (.getfield 39, 3) := by decide +kernel
theorem dX7_say_64 : decode cX7_say 64 = .ok (.aload_n 0, 1) := by decide +kernel
theorem dX7_say_65 : decode cX7_say 65 = .ok (.getfield 19, 3) := by decide +kernel
theorem dX7_say_68 : decode cX7_say 68 = .ok (.iload_n 2, 1) := by decide +kernel
theorem dX7_say_69 : decode cX7_say 69 = .ok (.invokevirtual 148, 3) := by decide +kernel
theorem dX7_say_72 : decode cX7_say 72 = .ok (.aload_n 3, 1) := by decide +kernel
theorem dX7_say_73 : decode cX7_say 73 = .ok (.aload_n 0, 1) := by decide +kernel
theorem dX7_say_74 : decode cX7_say 74 = .ok (.getfield 39, 3) := by decide +kernel
theorem dX7_say_77 : decode cX7_say 77 = .ok (.getfield 152, 3) := by decide +kernel
theorem dX7_say_80 : decode cX7_say 80 = .ok (.invokevirtual 156, 3) := by decide +kernel
theorem dX7_say_83 : decode cX7_say 83 = .ok (.aload_n 3, 1) := by decide +kernel
theorem dX7_say_84 : decode cX7_say 84 = .ok (.getfield 99, 3) := by decide +kernel
theorem dX7_say_87 : decode cX7_say 87 = .ok (.ireturn, 1) := by decide +kernel
theorem dX7_said_0 : decode cX7_said 0 = .ok (.iload_n 1, 1) := by decide +kernel
theorem dX7_said_1 : decode cX7_said 1 = .ok (.ifCond .lt 8, 3) := by decide +kernel
theorem dX7_said_4 : decode cX7_said 4 = .ok (.iload_n 1, 1) := by decide +kernel
theorem dX7_said_5 : decode cX7_said 5 = .ok (.iconst 2, 1) := by decide +kernel
theorem dX7_said_6 : decode cX7_said 6 = .ok (.if_icmp .le 7, 3) := by decide +kernel
theorem dX7_said_9 : decode cX7_said 9 = .ok (.iconst (-1), 1) := by decide +kernel
theorem dX7_said_10 : decode cX7_said 10 = .ok (.goto 11, 3) := by decide +kernel
theorem dX7_said_13 : decode cX7_said 13 = .ok (.aload_n 0, 1) := by decide +kernel
theorem dX7_said_14 : decode cX7_said 14 = .ok (.getfield 39, 3) := by decide +kernel
theorem dX7_said_17 : decode cX7_said 17 = .ok (.iload_n 1, 1) := by decide +kernel
theorem dX7_said_18 : decode cX7_said 18 = .ok (.invokevirtual 160, 3) := by decide +kernel
theorem dX7_said_21 : decode cX7_said 21 = .ok (.ireturn, 1) := by decide +kernel
theorem dX7_foretold_0 : decode cX7_foretold 0 = .ok (.iload_n 1, 1) := by decide +kernel
theorem dX7_foretold_1 : decode cX7_foretold 1 = .ok (.invokestatic 83, 3) := by decide +kernel
theorem dX7_foretold_4 : decode cX7_foretold 4 = .ok (.ifCond .eq 28, 3) := by decide +kernel
theorem dX7_foretold_7 : decode cX7_foretold 7 = .ok (.iload_n 2, 1) := by decide +kernel
theorem dX7_foretold_8 : decode cX7_foretold 8 = .ok (.invokestatic 116, 3) := by decide +kernel
theorem dX7_foretold_11 : decode cX7_foretold 11 = .ok (.ifCond .eq 21, 3) := by decide +kernel
theorem dX7_foretold_14 : decode cX7_foretold 14 = .ok (.iload_n 3, 1) := by decide +kernel
theorem dX7_foretold_15 : decode cX7_foretold 15 = .ok (.invokestatic 119, 3) := by decide +kernel
theorem dX7_foretold_18 : decode cX7_foretold 18 = .ok (.ifCond .eq 14, 3) := by decide +kernel
theorem dX7_foretold_21 : decode cX7_foretold 21 = .ok (.iload 4, 2) := by decide +kernel
theorem dX7_foretold_23 : decode cX7_foretold 23 = .ok (.ifCond .lt 9, 3) := by decide +kernel
theorem dX7_foretold_26 : decode cX7_foretold 26 = .ok (.iload 4, 2) := by decide +kernel
theorem dX7_foretold_28 : decode cX7_foretold 28 = .ok (.iconst 2, 1) := by decide +kernel
theorem dX7_foretold_29 : decode cX7_foretold 29 = .ok (.if_icmp .le 5, 3) := by decide +kernel
theorem dX7_foretold_32 : decode cX7_foretold 32 = .ok (.iconst (-1), 1) := by decide +kernel
theorem dX7_foretold_33 : decode cX7_foretold 33 = .ok (.ireturn, 1) := by decide +kernel
theorem dX7_foretold_34 : decode cX7_foretold 34 = .ok (.aload_n 0, 1) := by decide +kernel
theorem dX7_foretold_35 : decode cX7_foretold 35 = .ok (.getfield 43, 3) := by decide +kernel
theorem dX7_foretold_38 : decode cX7_foretold 38 = .ok (.aload_n 0, 1) := by decide +kernel
theorem dX7_foretold_39 : decode cX7_foretold 39 = .ok (.getfield 26, 3) := by decide +kernel
theorem dX7_foretold_42 : decode cX7_foretold 42 = .ok (.getfield 90, 3) := by decide +kernel
theorem dX7_foretold_45 : decode cX7_foretold 45 = .ok (.iload_n 1, 1) := by decide +kernel
theorem dX7_foretold_46 : decode cX7_foretold 46 = .ok (.aaload, 1) := by decide +kernel
theorem dX7_foretold_47 : decode cX7_foretold 47 = .ok (.aload_n 0, 1) := by decide +kernel
theorem dX7_foretold_48 : decode cX7_foretold 48 = .ok (.getfield 26, 3) := by decide +kernel
theorem dX7_foretold_51 : decode cX7_foretold 51 = .ok (.getfield 122, 3) := by decide +kernel
theorem dX7_foretold_54 : decode cX7_foretold 54 = .ok (.invokevirtual 144, 3) := by decide +kernel
theorem dX7_foretold_57 : decode cX7_foretold 57 = .ok (.aload_n 0, 1) := by decide +kernel
theorem dX7_foretold_58 : decode cX7_foretold 58 = .ok (.getfield 43, 3) := by decide +kernel
theorem dX7_foretold_61 : decode cX7_foretold 61 = .ok (.getfield 163, 3) := by decide +kernel
theorem dX7_foretold_64 : decode cX7_foretold 64 = .ok (.getfield 126, 3) := by decide +kernel
theorem dX7_foretold_67 : decode cX7_foretold 67 = .ok (.iload_n 2, 1) := by decide +kernel
theorem dX7_foretold_68 : decode cX7_foretold 68 = .ok (.iload_n 3, 1) := by decide +kernel
theorem dX7_foretold_69 : decode cX7_foretold 69 = .ok (.iastore, 1) := by decide +kernel
theorem dX7_foretold_70 : decode cX7_foretold 70 = .ok (.aload_n 0, 1) := by decide +kernel
theorem dX7_foretold_71 : decode cX7_foretold 71 = .ok (.getfield 43, 3) := by decide +kernel
theorem dX7_foretold_74 : decode cX7_foretold 74 = .ok (.aload_n 0, 1) := by decide +kernel
theorem dX7_foretold_75 : decode cX7_foretold 75 = .ok (.getfield 19, 3) := by decide +kernel
theorem dX7_foretold_78 : decode cX7_foretold 78 = .ok (.bipush (-9), 2) := by decide +kernel
theorem dX7_foretold_80 : decode cX7_foretold 80 = .ok (.invokevirtual 148, 3) := by decide +kernel
theorem dX7_foretold_83 : decode cX7_foretold 83 = .ok (.aload_n 0, 1) := by decide +kernel
theorem dX7_foretold_84 : decode cX7_foretold 84 = .ok (.getfield 43, 3) := by decide +kernel
theorem dX7_foretold_87 : decode cX7_foretold 87 = .ok (.iload 4, 2) := by decide +kernel
theorem dX7_foretold_89 : decode cX7_foretold 89 = .ok (.invokevirtual 160, 3) := by decide +kernel
theorem dX7_foretold_92 : decode cX7_foretold 92 = .ok (.ireturn, 1) := by decide +kernel
theorem dX7_both_0 : decode cX7_both 0 = .ok (.iload_n 1, 1) := by decide +kernel
theorem dX7_both_1 : decode cX7_both 1 = .ok (.invokestatic 83, 3) := by decide +kernel
theorem dX7_both_4 : decode cX7_both 4 = .ok (.ifCond .eq 10, 3) := by decide +kernel
theorem dX7_both_7 : decode cX7_both 7 = .ok (.iload_n 2, 1) := by decide +kernel
theorem dX7_both_8 : decode cX7_both 8 = .ok (.invokestatic 83, 3) := by decide +kernel
theorem dX7_both_11 : decode cX7_both 11 = .ok (.ifCond .ne 5, 3) := by decide +kernel
theorem dX7_both_14 : decode cX7_both 14 = .ok (.iconst (-1), 1) := by decide +kernel
theorem dX7_both_15 : decode cX7_both 15 = .ok (.ireturn, 1) := by decide +kernel
theorem dX7_both_16 : decode cX7_both 16 = .ok (.aload_n 0, 1) := by decide +kernel
theorem dX7_both_17 : decode cX7_both 17 = .ok (.getfield 26, 3) := by decide +kernel
theorem dX7_both_20 : decode cX7_both 20 = .ok (.getfield 90, 3) := by decide +kernel
theorem dX7_both_23 : decode cX7_both 23 = .ok (.iload_n 1, 1) := by decide +kernel
theorem dX7_both_24 : decode cX7_both 24 = .ok (.aaload, 1) := by decide +kernel
theorem dX7_both_25 : decode cX7_both 25 = .ok (.astore 4, 2) := by decide +kernel
theorem dX7_both_27 : decode cX7_both 27 = .ok (.aload_n 0, 1) := by decide +kernel
theorem dX7_both_28 : decode cX7_both 28 = .ok (.getfield 26, 3) := by decide +kernel
theorem dX7_both_31 : decode cX7_both 31 = .ok (.getfield 90, 3) := by decide +kernel
theorem dX7_both_34 : decode cX7_both 34 = .ok (.iload_n 2, 1) := by decide +kernel
theorem dX7_both_35 : decode cX7_both 35 = .ok (.aaload, 1) := by decide +kernel
theorem dX7_both_36 : decode cX7_both 36 = .ok (.astore 5, 2) := by decide +kernel
theorem dX7_both_38 : decode cX7_both 38 = .ok (.aload 4, 2) := by decide +kernel
theorem dX7_both_40 : decode cX7_both 40 = .ok (.invokevirtual 164, 3) := by decide +kernel
theorem dX7_both_43 : decode cX7_both 43 = .ok (.istore 6, 2) := by decide +kernel
theorem dX7_both_45 : decode cX7_both 45 = .ok (.aload 5, 2) := by decide +kernel
theorem dX7_both_47 : decode cX7_both 47 = .ok (.invokevirtual 164, 3) := by decide +kernel
theorem dX7_both_50 : decode cX7_both 50 = .ok (.istore 7, 2) := by decide +kernel
theorem dX7_both_52 : decode cX7_both 52 = .ok (.iload_n 3, 1) := by decide +kernel
theorem dX7_both_53 : decode cX7_both 53 = .ok (.tableswitch 74 0 3 #[31, 39, 47, 56], 31) := by decide +kernel
theorem dX7_both_84 : decode cX7_both 84 = .ok (.iload 6, 2) := by decide +kernel
theorem dX7_both_86 : decode cX7_both 86 = .ok (.iload 7, 2) := by decide +kernel
theorem dX7_both_88 : decode cX7_both 88 = .ok (.iconst (-1), 1) := by decide +kernel
theorem dX7_both_89 : decode cX7_both 89 = .ok (.ixor, 1) := by decide +kernel
theorem dX7_both_90 : decode cX7_both 90 = .ok (.iand, 1) := by decide +kernel
theorem dX7_both_91 : decode cX7_both 91 = .ok (.ireturn, 1) := by decide +kernel
theorem dX7_both_92 : decode cX7_both 92 = .ok (.iload 7, 2) := by decide +kernel
theorem dX7_both_94 : decode cX7_both 94 = .ok (.iload 6, 2) := by decide +kernel
theorem dX7_both_96 : decode cX7_both 96 = .ok (.iconst (-1), 1) := by decide +kernel
theorem dX7_both_97 : decode cX7_both 97 = .ok (.ixor, 1) := by decide +kernel
theorem dX7_both_98 : decode cX7_both 98 = .ok (.iand, 1) := by decide +kernel
theorem dX7_both_99 : decode cX7_both 99 = .ok (.ireturn, 1) := by decide +kernel
theorem dX7_both_100 : decode cX7_both 100 = .ok (.aload_n 0, 1) := by decide +kernel
theorem dX7_both_101 : decode cX7_both 101 = .ok (.aload 4, 2) := by decide +kernel
theorem dX7_both_103 : decode cX7_both 103 = .ok (.aload 5, 2) := by decide +kernel
theorem dX7_both_105 : decode cX7_both 105 = .ok (.invokevirtual 167, 3) := by decide +kernel
theorem dX7_both_108 : decode cX7_both 108 = .ok (.ireturn, 1) := by decide +kernel
theorem dX7_both_109 : decode cX7_both 109 = .ok (.iload 6, 2) := by decide +kernel
theorem dX7_both_111 : decode cX7_both 111 = .ok (.iload 7, 2) := by decide +kernel
theorem dX7_both_113 : decode cX7_both 113 = .ok (.iand, 1) := by decide +kernel
theorem dX7_both_114 : decode cX7_both 114 = .ok (.invokestatic 171, 3) := by decide +kernel
theorem dX7_both_117 : decode cX7_both 117 = .ok (.aload_n 0, 1) := by decide +kernel
theorem dX7_both_118 : decode cX7_both 118 = .ok (.aload 4, 2) := by decide +kernel
theorem dX7_both_120 : decode cX7_both 120 = .ok (.aload 5, 2) := by decide +kernel
theorem dX7_both_122 : decode cX7_both 122 = .ok (.invokevirtual 167, 3) := by decide +kernel
theorem dX7_both_125 : decode cX7_both 125 = .ok (.isub, 1) := by decide +kernel
theorem dX7_both_126 : decode cX7_both 126 = .ok (.ireturn, 1) := by decide +kernel
theorem dX7_both_127 : decode cX7_both 127 = .ok (.iconst (-1), 1) := by decide +kernel
theorem dX7_both_128 : decode cX7_both 128 = .ok (.ireturn, 1) := by decide +kernel
theorem dX7_orders_0 : decode cX7_orders 0 = .ok (.iload_n 1, 1) := by decide +kernel
theorem dX7_orders_1 : decode cX7_orders 1 = .ok (.invokestatic 176, 3) := by decide +kernel
theorem dX7_orders_4 : decode cX7_orders 4 = .ok (.ifCond .ne 7, 3) := by decide +kernel
theorem dX7_orders_7 : decode cX7_orders 7 = .ok (.ldc2_w 179, 3) := by decide +kernel
theorem dX7_orders_10 : decode cX7_orders 10 = .ok (.lreturn, 1) := by decide +kernel
theorem dX7_orders_11 : decode cX7_orders 11 = .ok (.aload_n 0, 1) := by decide +kernel
theorem dX7_orders_12 : decode cX7_orders 12 = .ok (.getfield 49, 3) := by decide +kernel
theorem dX7_orders_15 : decode cX7_orders 15 = .ok (.aload_n 0, 1) := by decide +kernel
theorem dX7_orders_16 : decode cX7_orders 16 = .ok (.getfield 26, 3) := by decide +kernel
theorem dX7_orders_19 : decode cX7_orders 19 = .ok (.iload_n 1, 1) := by decide +kernel
theorem dX7_orders_20 : decode cX7_orders 20 = .ok (.invokevirtual 181, 3) := by decide +kernel
theorem dX7_orders_23 : decode cX7_orders 23 = .ok (.aload_n 0, 1) := by decide +kernel
theorem dX7_orders_24 : decode cX7_orders 24 = .ok (.getfield 49, 3) := by decide +kernel
theorem dX7_orders_27 : decode cX7_orders 27 = .ok (.invokevirtual 185, 3) := by decide +kernel
theorem dX7_orders_30 : decode cX7_orders 30 = .ok (.ifCond .eq 9, 3) := by decide +kernel
theorem dX7_orders_33 : decode cX7_orders 33 = .ok (.ldc2_w 189, 3) := by decide +kernel
theorem dX7_orders_36 : decode cX7_orders 36 = .ok (.goto 10, 3) := by decide +kernel
theorem dX7_orders_39 : decode cX7_orders 39 = .ok (.aload_n 0, 1) := by decide +kernel
theorem dX7_orders_40 : decode cX7_orders 40 = .ok (.getfield 49, 3) := by decide +kernel
theorem dX7_orders_43 : decode cX7_orders 43 = .ok (.invokevirtual 191, 3) := by decide +kernel
theorem dX7_orders_46 : decode cX7_orders 46 = .ok (.lreturn, 1) := by decide +kernel
theorem dX7_quarrel_0 : decode cX7_quarrel 0 = .ok (.iload_n 1, 1) := by decide +kernel
theorem dX7_quarrel_1 : decode cX7_quarrel 1 = .ok (.invokestatic 176, 3) := by decide +kernel
theorem dX7_quarrel_4 : decode cX7_quarrel 4 = .ok (.ifCond .eq 12, 3) := by decide +kernel
theorem dX7_quarrel_7 : decode cX7_quarrel 7 = .ok (.iload_n 2, 1) := by decide +kernel
theorem dX7_quarrel_8 : decode cX7_quarrel 8 = .ok (.ifCond .lt 8, 3) := by decide +kernel
theorem dX7_quarrel_11 : decode cX7_quarrel 11 = .ok (.iload_n 2, 1) := by decide +kernel
theorem dX7_quarrel_12 : decode cX7_quarrel 12 = .ok (.iconst 1, 1) := by decide +kernel
theorem dX7_quarrel_13 : decode cX7_quarrel 13 = .ok (.if_icmp .le 5, 3) := by decide +kernel
theorem dX7_quarrel_16 : decode cX7_quarrel 16 = .ok (.iconst (-1), 1) := by decide +kernel
theorem dX7_quarrel_17 : decode cX7_quarrel 17 = .ok (.ireturn, 1) := by decide +kernel
theorem dX7_quarrel_18 : decode cX7_quarrel 18 = .ok (.aload_n 0, 1) := by decide +kernel
theorem dX7_quarrel_19 : decode cX7_quarrel 19 = .ok (.getfield 49, 3) := by decide +kernel
theorem dX7_quarrel_22 : decode cX7_quarrel 22 = .ok (.aload_n 0, 1) := by decide +kernel
theorem dX7_quarrel_23 : decode cX7_quarrel 23 = .ok (.getfield 26, 3) := by decide +kernel
theorem dX7_quarrel_26 : decode cX7_quarrel 26 = .ok (.iload_n 1, 1) := by decide +kernel
theorem dX7_quarrel_27 : decode cX7_quarrel 27 = .ok (.invokevirtual 181, 3) := by decide +kernel
theorem dX7_quarrel_30 : decode cX7_quarrel 30 = .ok (.aload_n 0, 1) := by decide +kernel
theorem dX7_quarrel_31 : decode cX7_quarrel 31 = .ok (.getfield 49, 3) := by decide +kernel
theorem dX7_quarrel_34 : decode cX7_quarrel 34 = .ok (.invokevirtual 185, 3) := by decide +kernel
theorem dX7_quarrel_37 : decode cX7_quarrel 37 = .ok (.ifCond .eq 6, 3) := by decide +kernel
theorem dX7_quarrel_40 : decode cX7_quarrel 40 = .ok (.bipush (-2), 2) := by decide +kernel
theorem dX7_quarrel_42 : decode cX7_quarrel 42 = .ok (.ireturn, 1) := by decide +kernel
theorem dX7_quarrel_43 : decode cX7_quarrel 43 = .ok (.aload_n 0, 1) := by decide +kernel
theorem dX7_quarrel_44 : decode cX7_quarrel 44 = .ok (.getfield 49, 3) := by decide +kernel
theorem dX7_quarrel_47 : decode cX7_quarrel 47 = .ok (.aload_n 0, 1) := by decide +kernel
theorem dX7_quarrel_48 : decode cX7_quarrel 48 = .ok (.getfield 26, 3) := by decide +kernel
theorem dX7_quarrel_51 : decode cX7_quarrel 51 = .ok (.iload_n 1, 1) := by decide +kernel
theorem dX7_quarrel_52 : decode cX7_quarrel 52 = .ok (.invokevirtual 195, 3) := by decide +kernel
theorem dX7_quarrel_55 : decode cX7_quarrel 55 = .ok (.istore_n 3, 1) := by decide +kernel
theorem dX7_quarrel_56 : decode cX7_quarrel 56 = .ok (.iload_n 3, 1) := by decide +kernel
theorem dX7_quarrel_57 : decode cX7_quarrel 57 = .ok (.ifCond .ne 6, 3) := by decide +kernel
theorem dX7_quarrel_60 : decode cX7_quarrel 60 = .ok (.bipush (-9), 2) := by decide +kernel
theorem dX7_quarrel_62 : decode cX7_quarrel 62 = .ok (.ireturn, 1) := by decide +kernel
theorem dX7_quarrel_63 : decode cX7_quarrel 63 = .ok (.iload_n 2, 1) := by decide +kernel
theorem dX7_quarrel_64 : decode cX7_quarrel 64 = .ok (.ifCond .ne 10, 3) := by decide +kernel
theorem dX7_quarrel_67 : decode cX7_quarrel 67 = .ok (.iload_n 3, 1) := by decide +kernel
theorem dX7_quarrel_68 : decode cX7_quarrel 68 = .ok (.invokestatic 171, 3) := by decide +kernel
theorem dX7_quarrel_71 : decode cX7_quarrel 71 = .ok (.goto 4, 3) := by decide +kernel
theorem dX7_quarrel_74 : decode cX7_quarrel 74 = .ok (.iload_n 3, 1) := by decide +kernel
theorem dX7_quarrel_75 : decode cX7_quarrel 75 = .ok (.ireturn, 1) := by decide +kernel
theorem dX7_ahead_0 : decode cX7_ahead 0 = .ok (.iload_n 1, 1) := by decide +kernel
theorem dX7_ahead_1 : decode cX7_ahead 1 = .ok (.invokestatic 176, 3) := by decide +kernel
theorem dX7_ahead_4 : decode cX7_ahead 4 = .ok (.ifCond .eq 22, 3) := by decide +kernel
theorem dX7_ahead_7 : decode cX7_ahead 7 = .ok (.iload_n 2, 1) := by decide +kernel
theorem dX7_ahead_8 : decode cX7_ahead 8 = .ok (.invokestatic 110, 3) := by decide +kernel
theorem dX7_ahead_11 : decode cX7_ahead 11 = .ok (.ifCond .eq 15, 3) := by decide +kernel
theorem dX7_ahead_14 : decode cX7_ahead 14 = .ok (.iload_n 3, 1) := by decide +kernel
theorem dX7_ahead_15 : decode cX7_ahead 15 = .ok (.invokestatic 110, 3) := by decide +kernel
theorem dX7_ahead_18 : decode cX7_ahead 18 = .ok (.ifCond .eq 8, 3) := by decide +kernel
theorem dX7_ahead_21 : decode cX7_ahead 21 = .ok (.iload_n 2, 1) := by decide +kernel
theorem dX7_ahead_22 : decode cX7_ahead 22 = .ok (.iload_n 3, 1) := by decide +kernel
theorem dX7_ahead_23 : decode cX7_ahead 23 = .ok (.if_icmp .ne 5, 3) := by decide +kernel
theorem dX7_ahead_26 : decode cX7_ahead 26 = .ok (.iconst (-1), 1) := by decide +kernel
theorem dX7_ahead_27 : decode cX7_ahead 27 = .ok (.ireturn, 1) := by decide +kernel
theorem dX7_ahead_28 : decode cX7_ahead 28 = .ok (.aload_n 0, 1) := by decide +kernel
theorem dX7_ahead_29 : decode cX7_ahead 29 = .ok (.getfield 49, 3) := by decide +kernel
theorem dX7_ahead_32 : decode cX7_ahead 32 = .ok (.aload_n 0, 1) := by decide +kernel
theorem dX7_ahead_33 : decode cX7_ahead 33 = .ok (.getfield 26, 3) := by decide +kernel
theorem dX7_ahead_36 : decode cX7_ahead 36 = .ok (.iload_n 1, 1) := by decide +kernel
theorem dX7_ahead_37 : decode cX7_ahead 37 = .ok (.invokevirtual 181, 3) := by decide +kernel
theorem dX7_ahead_40 : decode cX7_ahead 40 = .ok (.aload_n 0, 1) := by decide +kernel
theorem dX7_ahead_41 : decode cX7_ahead 41 = .ok (.getfield 49, 3) := by decide +kernel
theorem dX7_ahead_44 : decode cX7_ahead 44 = .ok (.getfield 199, 3) := by decide +kernel
theorem dX7_ahead_47 : decode cX7_ahead 47 = .ok (.iload_n 2, 1) := by decide +kernel
theorem dX7_ahead_48 : decode cX7_ahead 48 = .ok (.invokestatic 202, 3) := by decide +kernel
theorem dX7_ahead_51 : decode cX7_ahead 51 = .ok (.ifCond .eq 17, 3) := by decide +kernel
theorem dX7_ahead_54 : decode cX7_ahead 54 = .ok (.aload_n 0, 1) := by decide +kernel
theorem dX7_ahead_55 : decode cX7_ahead 55 = .ok (.getfield 49, 3) := by decide +kernel
theorem dX7_ahead_58 : decode cX7_ahead 58 = .ok (.getfield 199, 3) := by decide +kernel
theorem dX7_ahead_61 : decode cX7_ahead 61 = .ok (.iload_n 3, 1) := by decide +kernel
theorem dX7_ahead_62 : decode cX7_ahead 62 = .ok (.invokestatic 202, 3) := by decide +kernel
theorem dX7_ahead_65 : decode cX7_ahead 65 = .ok (.ifCond .ne 5, 3) := by decide +kernel
theorem dX7_ahead_68 : decode cX7_ahead 68 = .ok (.iconst (-1), 1) := by decide +kernel
theorem dX7_ahead_69 : decode cX7_ahead 69 = .ok (.ireturn, 1) := by decide +kernel
theorem dX7_ahead_70 : decode cX7_ahead 70 = .ok (.aload_n 0, 1) := by decide +kernel
theorem dX7_ahead_71 : decode cX7_ahead 71 = .ok (.getfield 49, 3) := by decide +kernel
theorem dX7_ahead_74 : decode cX7_ahead 74 = .ok (.invokevirtual 185, 3) := by decide +kernel
theorem dX7_ahead_77 : decode cX7_ahead 77 = .ok (.ifCond .ne 13, 3) := by decide +kernel
theorem dX7_ahead_80 : decode cX7_ahead 80 = .ok (.aload_n 0, 1) := by decide +kernel
theorem dX7_ahead_81 : decode cX7_ahead 81 = .ok (.getfield 49, 3) := by decide +kernel
theorem dX7_ahead_84 : decode cX7_ahead 84 = .ok (.invokevirtual 206, 3) := by decide +kernel
theorem dX7_ahead_87 : decode cX7_ahead 87 = .ok (.ifCond .ne 6, 3) := by decide +kernel
theorem dX7_ahead_90 : decode cX7_ahead 90 = .ok (.bipush (-2), 2) := by decide +kernel
theorem dX7_ahead_92 : decode cX7_ahead 92 = .ok (.ireturn, 1) := by decide +kernel
theorem dX7_ahead_93 : decode cX7_ahead 93 = .ok (.aload_n 0, 1) := by decide +kernel
theorem dX7_ahead_94 : decode cX7_ahead 94 = .ok (.getfield 49, 3) := by decide +kernel
theorem dX7_ahead_97 : decode cX7_ahead 97 = .ok (.iload_n 3, 1) := by decide +kernel
theorem dX7_ahead_98 : decode cX7_ahead 98 = .ok (.invokevirtual 209, 3) := by decide +kernel
theorem dX7_ahead_101 : decode cX7_ahead 101 = .ok (.iload_n 2, 1) := by decide +kernel
theorem dX7_ahead_102 : decode cX7_ahead 102 = .ok (.invokestatic 202, 3) := by decide +kernel
theorem dX7_ahead_105 : decode cX7_ahead 105 = .ok (.ifCond .eq 5, 3) := by decide +kernel
theorem dX7_ahead_108 : decode cX7_ahead 108 = .ok (.iconst 1, 1) := by decide +kernel
theorem dX7_ahead_109 : decode cX7_ahead 109 = .ok (.ireturn, 1) := by decide +kernel
theorem dX7_ahead_110 : decode cX7_ahead 110 = .ok (.aload_n 0, 1) := by decide +kernel
theorem dX7_ahead_111 : decode cX7_ahead 111 = .ok (.getfield 49, 3) := by decide +kernel
theorem dX7_ahead_114 : decode cX7_ahead 114 = .ok (.iload_n 2, 1) := by decide +kernel
theorem dX7_ahead_115 : decode cX7_ahead 115 = .ok (.invokevirtual 209, 3) := by decide +kernel
theorem dX7_ahead_118 : decode cX7_ahead 118 = .ok (.iload_n 3, 1) := by decide +kernel
theorem dX7_ahead_119 : decode cX7_ahead 119 = .ok (.invokestatic 202, 3) := by decide +kernel
theorem dX7_ahead_122 : decode cX7_ahead 122 = .ok (.ifCond .eq 7, 3) := by decide +kernel
theorem dX7_ahead_125 : decode cX7_ahead 125 = .ok (.iconst 0, 1) := by decide +kernel
theorem dX7_ahead_126 : decode cX7_ahead 126 = .ok (.goto 4, 3) := by decide +kernel
theorem dX7_ahead_129 : decode cX7_ahead 129 = .ok (.iconst 2, 1) := by decide +kernel
theorem dX7_ahead_130 : decode cX7_ahead 130 = .ok (.ireturn, 1) := by decide +kernel
theorem dX7_date_0 : decode cX7_date 0 = .ok (.iload_n 1, 1) := by decide +kernel
theorem dX7_date_1 : decode cX7_date 1 = .ok (.invokestatic 110, 3) := by decide +kernel
theorem dX7_date_4 : decode cX7_date 4 = .ok (.ifCond .eq 20, 3) := by decide +kernel
theorem dX7_date_7 : decode cX7_date 7 = .ok (.iload_n 2, 1) := by decide +kernel
theorem dX7_date_8 : decode cX7_date 8 = .ok (.bipush (-9), 2) := by decide +kernel
theorem dX7_date_10 : decode cX7_date 10 = .ok (.if_icmp .eq 16, 3) := by decide +kernel
theorem dX7_date_13 : decode cX7_date 13 = .ok (.iload_n 2, 1) := by decide +kernel
theorem dX7_date_14 : decode cX7_date 14 = .ok (.ifCond .lt 10, 3) := by decide +kernel
theorem dX7_date_17 : decode cX7_date 17 = .ok (.iload_n 2, 1) := by decide +kernel
theorem dX7_date_18 : decode cX7_date 18 = .ok (.sipush 2000, 3) := by decide +kernel
theorem dX7_date_21 : decode cX7_date 21 = .ok (.if_icmp .le 5, 3) := by decide +kernel
theorem dX7_date_24 : decode cX7_date 24 = .ok (.iconst (-1), 1) := by decide +kernel
theorem dX7_date_25 : decode cX7_date 25 = .ok (.ireturn, 1) := by decide +kernel
theorem dX7_date_26 : decode cX7_date 26 = .ok (.aload_n 0, 1) := by decide +kernel
theorem dX7_date_27 : decode cX7_date 27 = .ok (.getfield 26, 3) := by decide +kernel
theorem dX7_date_30 : decode cX7_date 30 = .ok (.getfield 212, 3) := by decide +kernel
theorem dX7_date_33 : decode cX7_date 33 = .ok (.iload_n 1, 1) := by decide +kernel
theorem dX7_date_34 : decode cX7_date 34 = .ok (.iload_n 2, 1) := by decide +kernel
theorem dX7_date_35 : decode cX7_date 35 = .ok (.invokestatic 131, 3) := by decide +kernel
theorem dX7_date_38 : decode cX7_date 38 = .ok (.ireturn, 1) := by decide +kernel
theorem dX7_link_0 : decode cX7_link 0 = .ok (.iload_n 2, 1) := by decide +kernel
theorem dX7_link_1 : decode cX7_link 1 = .ok (.iconst 1, 1) := by decide +kernel
theorem dX7_link_2 : decode cX7_link 2 = .ok (.if_icmp .lt 9, 3) := by decide +kernel
theorem dX7_link_5 : decode cX7_link 5 = .ok (.iload_n 2, 1) := by decide +kernel
theorem dX7_link_6 : decode cX7_link 6 = .ok (.bipush 60, 2) := by decide +kernel
theorem dX7_link_8 : decode cX7_link 8 = .ok (.if_icmp .le 5, 3) := by decide +kernel
theorem dX7_link_11 : decode cX7_link 11 = .ok (.iconst (-1), 1) := by decide +kernel
theorem dX7_link_12 : decode cX7_link 12 = .ok (.ireturn, 1) := by decide +kernel
theorem dX7_link_13 : decode cX7_link 13 = .ok (.iload_n 1, 1) := by decide +kernel
theorem dX7_link_14 : decode cX7_link 14 = .ok (.ifCond .ne 23, 3) := by decide +kernel
theorem dX7_link_17 : decode cX7_link 17 = .ok (.iload_n 2, 1) := by decide +kernel
theorem dX7_link_18 : decode cX7_link 18 = .ok (.aload_n 0, 1) := by decide +kernel
theorem dX7_link_19 : decode cX7_link 19 = .ok (.getfield 61, 3) := by decide +kernel
theorem dX7_link_22 : decode cX7_link 22 = .ok (.if_icmp .gt 15, 3) := by decide +kernel
theorem dX7_link_25 : decode cX7_link 25 = .ok (.aload_n 0, 1) := by decide +kernel
theorem dX7_link_26 : decode cX7_link 26 = .ok (.getfield 57, 3) := by decide +kernel
theorem dX7_link_29 : decode cX7_link 29 = .ok (.istore_n 3, 1) := by decide +kernel
theorem dX7_link_30 : decode cX7_link 30 = .ok (.aload_n 0, 1) := by decide +kernel
theorem dX7_link_31 : decode cX7_link 31 = .ok (.iload_n 2, 1) := by decide +kernel
theorem dX7_link_32 : decode cX7_link 32 = .ok (.putfield 57, 3) := by decide +kernel
theorem dX7_link_35 : decode cX7_link 35 = .ok (.iload_n 3, 1) := by decide +kernel
theorem dX7_link_36 : decode cX7_link 36 = .ok (.ireturn, 1) := by decide +kernel
theorem dX7_link_37 : decode cX7_link 37 = .ok (.iload_n 1, 1) := by decide +kernel
theorem dX7_link_38 : decode cX7_link 38 = .ok (.iconst 1, 1) := by decide +kernel
theorem dX7_link_39 : decode cX7_link 39 = .ok (.if_icmp .ne 23, 3) := by decide +kernel
theorem dX7_link_42 : decode cX7_link 42 = .ok (.iload_n 2, 1) := by decide +kernel
theorem dX7_link_43 : decode cX7_link 43 = .ok (.aload_n 0, 1) := by decide +kernel
theorem dX7_link_44 : decode cX7_link 44 = .ok (.getfield 57, 3) := by decide +kernel
theorem dX7_link_47 : decode cX7_link 47 = .ok (.if_icmp .lt 15, 3) := by decide +kernel
theorem dX7_link_50 : decode cX7_link 50 = .ok (.aload_n 0, 1) := by decide +kernel
theorem dX7_link_51 : decode cX7_link 51 = .ok (.getfield 61, 3) := by decide +kernel
theorem dX7_link_54 : decode cX7_link 54 = .ok (.istore_n 3, 1) := by decide +kernel
theorem dX7_link_55 : decode cX7_link 55 = .ok (.aload_n 0, 1) := by decide +kernel
theorem dX7_link_56 : decode cX7_link 56 = .ok (.iload_n 2, 1) := by decide +kernel
theorem dX7_link_57 : decode cX7_link 57 = .ok (.putfield 61, 3) := by decide +kernel
theorem dX7_link_60 : decode cX7_link 60 = .ok (.iload_n 3, 1) := by decide +kernel
theorem dX7_link_61 : decode cX7_link 61 = .ok (.ireturn, 1) := by decide +kernel
theorem dX7_link_62 : decode cX7_link 62 = .ok (.iconst (-1), 1) := by decide +kernel
theorem dX7_link_63 : decode cX7_link 63 = .ok (.ireturn, 1) := by decide +kernel
theorem dX7_span_0 : decode cX7_span 0 = .ok (.iload_n 1, 1) := by decide +kernel
theorem dX7_span_1 : decode cX7_span 1 = .ok (.invokestatic 83, 3) := by decide +kernel
theorem dX7_span_4 : decode cX7_span 4 = .ok (.ifCond .eq 12, 3) := by decide +kernel
theorem dX7_span_7 : decode cX7_span 7 = .ok (.iload_n 3, 1) := by decide +kernel
theorem dX7_span_8 : decode cX7_span 8 = .ok (.ifCond .lt 8, 3) := by decide +kernel
theorem dX7_span_11 : decode cX7_span 11 = .ok (.iload_n 3, 1) := by decide +kernel
theorem dX7_span_12 : decode cX7_span 12 = .ok (.iconst 1, 1) := by decide +kernel
theorem dX7_span_13 : decode cX7_span 13 = .ok (.if_icmp .le 6, 3) := by decide +kernel
theorem dX7_span_16 : decode cX7_span 16 = .ok (.ldc 215, 2) := by decide +kernel
theorem dX7_span_18 : decode cX7_span 18 = .ok (.ireturn, 1) := by decide +kernel
theorem dX7_span_19 : decode cX7_span 19 = .ok (.aload_n 0, 1) := by decide +kernel
theorem dX7_span_20 : decode cX7_span 20 = .ok (.getfield 26, 3) := by decide +kernel
theorem dX7_span_23 : decode cX7_span 23 = .ok (.getfield 90, 3) := by decide +kernel
theorem dX7_span_26 : decode cX7_span 26 = .ok (.iload_n 1, 1) := by decide +kernel
theorem dX7_span_27 : decode cX7_span 27 = .ok (.aaload, 1) := by decide +kernel
theorem dX7_span_28 : decode cX7_span 28 = .ok (.astore 4, 2) := by decide +kernel
theorem dX7_span_30 : decode cX7_span 30 = .ok (.aload 4, 2) := by decide +kernel
theorem dX7_span_32 : decode cX7_span 32 = .ok (.iload_n 2, 1) := by decide +kernel
theorem dX7_span_33 : decode cX7_span 33 = .ok (.invokevirtual 103, 3) := by decide +kernel
theorem dX7_span_36 : decode cX7_span 36 = .ok (.ifCond .eq 21, 3) := by decide +kernel
theorem dX7_span_39 : decode cX7_span 39 = .ok (.aload_n 0, 1) := by decide +kernel
theorem dX7_span_40 : decode cX7_span 40 = .ok (.aload 4, 2) := by decide +kernel
theorem dX7_span_42 : decode cX7_span 42 = .ok (.invokevirtual 216, 3) := by decide +kernel
theorem dX7_span_45 : decode cX7_span 45 = .ok (.ifCond .eq 12, 3) := by decide +kernel
theorem dX7_span_48 : decode cX7_span 48 = .ok (.aload_n 0, 1) := by decide +kernel
theorem dX7_span_49 : decode cX7_span 49 = .ok (.aload 4, 2) := by decide +kernel
theorem dX7_span_51 : decode cX7_span 51 = .ok (.invokevirtual 220, 3) := by decide +kernel
theorem dX7_span_54 : decode cX7_span 54 = .ok (.ifCond .ne 6, 3) := by decide +kernel
theorem dX7_span_57 : decode cX7_span 57 = .ok (.ldc 215, 2) := by decide +kernel
theorem dX7_span_59 : decode cX7_span 59 = .ok (.ireturn, 1) := by decide +kernel
theorem dX7_span_60 : decode cX7_span 60 = .ok (.iload_n 3, 1) := by decide +kernel
theorem dX7_span_61 : decode cX7_span 61 = .ok (.ifCond .ne 13, 3) := by decide +kernel
theorem dX7_span_64 : decode cX7_span 64 = .ok (.aload_n 0, 1) := by decide +kernel
theorem dX7_span_65 : decode cX7_span 65 = .ok (.aload 4, 2) := by decide +kernel
theorem dX7_span_67 : decode cX7_span 67 = .ok (.iload_n 2, 1) := by decide +kernel
theorem dX7_span_68 : decode cX7_span 68 = .ok (.invokevirtual 223, 3) := by decide +kernel
theorem dX7_span_71 : decode cX7_span 71 = .ok (.goto 10, 3) := by decide +kernel
theorem dX7_span_74 : decode cX7_span 74 = .ok (.aload_n 0, 1) := by decide +kernel
theorem dX7_span_75 : decode cX7_span 75 = .ok (.aload 4, 2) := by decide +kernel
theorem dX7_span_77 : decode cX7_span 77 = .ok (.iload_n 2, 1) := by decide +kernel
theorem dX7_span_78 : decode cX7_span 78 = .ok (.invokevirtual 227, 3) := by decide +kernel
theorem dX7_span_81 : decode cX7_span 81 = .ok (.ireturn, 1) := by decide +kernel
theorem dX7_lost_0 : decode cX7_lost 0 = .ok (.iload_n 1, 1) := by decide +kernel
theorem dX7_lost_1 : decode cX7_lost 1 = .ok (.invokestatic 83, 3) := by decide +kernel
theorem dX7_lost_4 : decode cX7_lost 4 = .ok (.ifCond .ne 5, 3) := by decide +kernel
theorem dX7_lost_7 : decode cX7_lost 7 = .ok (.iconst (-1), 1) := by decide +kernel
theorem dX7_lost_8 : decode cX7_lost 8 = .ok (.ireturn, 1) := by decide +kernel
theorem dX7_lost_9 : decode cX7_lost 9 = .ok (.aload_n 0, 1) := by decide +kernel
theorem dX7_lost_10 : decode cX7_lost 10 = .ok (.getfield 26, 3) := by decide +kernel
theorem dX7_lost_13 : decode cX7_lost 13 = .ok (.getfield 90, 3) := by decide +kernel
theorem dX7_lost_16 : decode cX7_lost 16 = .ok (.iload_n 1, 1) := by decide +kernel
theorem dX7_lost_17 : decode cX7_lost 17 = .ok (.aaload, 1) := by decide +kernel
theorem dX7_lost_18 : decode cX7_lost 18 = .ok (.astore_n 2, 1) := by decide +kernel
theorem dX7_lost_19 : decode cX7_lost 19 = .ok (.iconst 0, 1) := by decide +kernel
theorem dX7_lost_20 : decode cX7_lost 20 = .ok (.istore_n 3, 1) := by decide +kernel
theorem dX7_lost_21 : decode cX7_lost 21 = .ok (.bipush (-9), 2) := by decide +kernel
theorem dX7_lost_23 : decode cX7_lost 23 = .ok (.istore 4, 2) := by decide +kernel
theorem dX7_lost_25 : decode cX7_lost 25 = .ok (.iconst 0, 1) := by decide +kernel
theorem dX7_lost_26 : decode cX7_lost 26 = .ok (.istore 5, 2) := by decide +kernel
theorem dX7_lost_28 : decode cX7_lost 28 = .ok (.iload 5, 2) := by decide +kernel
theorem dX7_lost_30 : decode cX7_lost 30 = .ok (.aload_n 2, 1) := by decide +kernel
theorem dX7_lost_31 : decode cX7_lost 31 = .ok (.getfield 99, 3) := by decide +kernel
theorem dX7_lost_34 : decode cX7_lost 34 = .ok (.if_icmp .ge 76, 3) := by decide +kernel
theorem dX7_lost_37 : decode cX7_lost 37 = .ok (.aload_n 0, 1) := by decide +kernel
theorem dX7_lost_38 : decode cX7_lost 38 = .ok (.aload_n 2, 1) := by decide +kernel
theorem dX7_lost_39 : decode cX7_lost 39 = .ok (.iload 5, 2) := by decide +kernel
theorem dX7_lost_41 : decode cX7_lost 41 = .ok (.invokevirtual 230, 3) := by decide +kernel
theorem dX7_lost_44 : decode cX7_lost 44 = .ok (.bipush (-9), 2) := by decide +kernel
theorem dX7_lost_46 : decode cX7_lost 46 = .ok (.if_icmp .ne 6, 3) := by decide +kernel
theorem dX7_lost_49 : decode cX7_lost 49 = .ok (.goto 55, 3) := by decide +kernel
theorem dX7_lost_52 : decode cX7_lost 52 = .ok (.iload 4, 2) := by decide +kernel
theorem dX7_lost_54 : decode cX7_lost 54 = .ok (.bipush (-9), 2) := by decide +kernel
theorem dX7_lost_56 : decode cX7_lost 56 = .ok (.if_icmp .eq 44, 3) := by decide +kernel
theorem dX7_lost_59 : decode cX7_lost 59 = .ok (.aload_n 0, 1) := by decide +kernel
theorem dX7_lost_60 : decode cX7_lost 60 = .ok (.iload 5, 2) := by decide +kernel
theorem dX7_lost_62 : decode cX7_lost 62 = .ok (.iload 4, 2) := by decide +kernel
theorem dX7_lost_64 : decode cX7_lost 64 = .ok (.isub, 1) := by decide +kernel
theorem dX7_lost_65 : decode cX7_lost 65 = .ok (.aload_n 0, 1) := by decide +kernel
theorem dX7_lost_66 : decode cX7_lost 66 = .ok (.aload_n 2, 1) := by decide +kernel
theorem dX7_lost_67 : decode cX7_lost 67 = .ok (.iload 5, 2) := by decide +kernel
theorem dX7_lost_69 : decode cX7_lost 69 = .ok (.invokevirtual 230, 3) := by decide +kernel
theorem dX7_lost_72 : decode cX7_lost 72 = .ok (.aload_n 0, 1) := by decide +kernel
theorem dX7_lost_73 : decode cX7_lost 73 = .ok (.aload_n 2, 1) := by decide +kernel
theorem dX7_lost_74 : decode cX7_lost 74 = .ok (.iload 4, 2) := by decide +kernel
theorem dX7_lost_76 : decode cX7_lost 76 = .ok (.invokevirtual 230, 3) := by decide +kernel
theorem dX7_lost_79 : decode cX7_lost 79 = .ok (.isub, 1) := by decide +kernel
theorem dX7_lost_80 : decode cX7_lost 80 = .ok (.invokevirtual 233, 3) := by decide +kernel
theorem dX7_lost_83 : decode cX7_lost 83 = .ok (.istore 6, 2) := by decide +kernel
theorem dX7_lost_85 : decode cX7_lost 85 = .ok (.iload 6, 2) := by decide +kernel
theorem dX7_lost_87 : decode cX7_lost 87 = .ok (.bipush (-2), 2) := by decide +kernel
theorem dX7_lost_89 : decode cX7_lost 89 = .ok (.if_icmp .ne 6, 3) := by decide +kernel
theorem dX7_lost_92 : decode cX7_lost 92 = .ok (.bipush (-2), 2) := by decide +kernel
theorem dX7_lost_94 : decode cX7_lost 94 = .ok (.ireturn, 1) := by decide +kernel
theorem dX7_lost_95 : decode cX7_lost 95 = .ok (.iload_n 3, 1) := by decide +kernel
theorem dX7_lost_96 : decode cX7_lost 96 = .ok (.iload 6, 2) := by decide +kernel
theorem dX7_lost_98 : decode cX7_lost 98 = .ok (.iadd, 1) := by decide +kernel
theorem dX7_lost_99 : decode cX7_lost 99 = .ok (.istore_n 3, 1) := by decide +kernel
theorem dX7_lost_100 : decode cX7_lost 100 = .ok (.iload 5, 2) := by decide +kernel
theorem dX7_lost_102 : decode cX7_lost 102 = .ok (.istore 4, 2) := by decide +kernel
theorem dX7_lost_104 : decode cX7_lost 104 = .ok (.iinc 5 1, 3) := by decide +kernel
theorem dX7_lost_107 : decode cX7_lost 107 = .ok (.goto (-79), 3) := by decide +kernel
theorem dX7_lost_110 : decode cX7_lost 110 = .ok (.iload_n 3, 1) := by decide +kernel
theorem dX7_lost_111 : decode cX7_lost 111 = .ok (.ireturn, 1) := by decide +kernel
theorem dX7_court_0 : decode cX7_court 0 = .ok (.iload_n 1, 1) := by decide +kernel
theorem dX7_court_1 : decode cX7_court 1 = .ok (.invokestatic 176, 3) := by decide +kernel
theorem dX7_court_4 : decode cX7_court 4 = .ok (.ifCond .eq 17, 3) := by decide +kernel
theorem dX7_court_7 : decode cX7_court 7 = .ok (.iload_n 2, 1) := by decide +kernel
theorem dX7_court_8 : decode cX7_court 8 = .ok (.invokestatic 116, 3) := by decide +kernel
theorem dX7_court_11 : decode cX7_court 11 = .ok (.ifCond .eq 10, 3) := by decide +kernel
theorem dX7_court_14 : decode cX7_court 14 = .ok (.iload_n 3, 1) := by decide +kernel
theorem dX7_court_15 : decode cX7_court 15 = .ok (.invokestatic 116, 3) := by decide +kernel
theorem dX7_court_18 : decode cX7_court 18 = .ok (.ifCond .ne 6, 3) := by decide +kernel
theorem dX7_court_21 : decode cX7_court 21 = .ok (.ldc 215, 2) := by decide +kernel
theorem dX7_court_23 : decode cX7_court 23 = .ok (.ireturn, 1) := by decide +kernel
theorem dX7_court_24 : decode cX7_court 24 = .ok (.aload_n 0, 1) := by decide +kernel
theorem dX7_court_25 : decode cX7_court 25 = .ok (.getfield 26, 3) := by decide +kernel
theorem dX7_court_28 : decode cX7_court 28 = .ok (.getfield 122, 3) := by decide +kernel
theorem dX7_court_31 : decode cX7_court 31 = .ok (.getfield 138, 3) := by decide +kernel
theorem dX7_court_34 : decode cX7_court 34 = .ok (.iload_n 2, 1) := by decide +kernel
theorem dX7_court_35 : decode cX7_court 35 = .ok (.iaload, 1) := by decide +kernel
theorem dX7_court_36 : decode cX7_court 36 = .ok (.istore 4, 2) := by decide +kernel
theorem dX7_court_38 : decode cX7_court 38 = .ok (.aload_n 0, 1) := by decide +kernel
theorem dX7_court_39 : decode cX7_court 39 = .ok (.getfield 26, 3) := by decide +kernel
theorem dX7_court_42 : decode cX7_court 42 = .ok (.getfield 122, 3) := by decide +kernel
theorem dX7_court_45 : decode cX7_court 45 = .ok (.getfield 138, 3) := by decide +kernel
theorem dX7_court_48 : decode cX7_court 48 = .ok (.iload_n 3, 1) := by decide +kernel
theorem dX7_court_49 : decode cX7_court 49 = .ok (.iaload, 1) := by decide +kernel
theorem dX7_court_50 : decode cX7_court 50 = .ok (.istore 5, 2) := by decide +kernel
theorem dX7_court_52 : decode cX7_court 52 = .ok (.iload 4, 2) := by decide +kernel
theorem dX7_court_54 : decode cX7_court 54 = .ok (.bipush (-9), 2) := by decide +kernel
theorem dX7_court_56 : decode cX7_court 56 = .ok (.if_icmp .eq 10, 3) := by decide +kernel
theorem dX7_court_59 : decode cX7_court 59 = .ok (.iload 5, 2) := by decide +kernel
theorem dX7_court_61 : decode cX7_court 61 = .ok (.bipush (-9), 2) := by decide +kernel
theorem dX7_court_63 : decode cX7_court 63 = .ok (.if_icmp .ne 6, 3) := by decide +kernel
theorem dX7_court_66 : decode cX7_court 66 = .ok (.ldc 215, 2) := by decide +kernel
theorem dX7_court_68 : decode cX7_court 68 = .ok (.ireturn, 1) := by decide +kernel
theorem dX7_court_69 : decode cX7_court 69 = .ok (.iconst 0, 1) := by decide +kernel
theorem dX7_court_70 : decode cX7_court 70 = .ok (.istore 6, 2) := by decide +kernel
theorem dX7_court_72 : decode cX7_court 72 = .ok (.iconst 0, 1) := by decide +kernel
theorem dX7_court_73 : decode cX7_court 73 = .ok (.istore 7, 2) := by decide +kernel
theorem dX7_court_75 : decode cX7_court 75 = .ok (.iload 7, 2) := by decide +kernel
theorem dX7_court_77 : decode cX7_court 77 = .ok (.iconst 4, 1) := by decide +kernel
theorem dX7_court_78 : decode cX7_court 78 = .ok (.if_icmp .ge 52, 3) := by decide +kernel
theorem dX7_court_81 : decode cX7_court 81 = .ok (.iload_n 1, 1) := by decide +kernel
theorem dX7_court_82 : decode cX7_court 82 = .ok (.iload 7, 2) := by decide +kernel
theorem dX7_court_84 : decode cX7_court 84 = .ok (.invokestatic 202, 3) := by decide +kernel
theorem dX7_court_87 : decode cX7_court 87 = .ok (.ifCond .eq 37, 3) := by decide +kernel
theorem dX7_court_90 : decode cX7_court 90 = .ok (.aload_n 0, 1) := by decide +kernel
theorem dX7_court_91 : decode cX7_court 91 = .ok (.getfield 26, 3) := by decide +kernel
theorem dX7_court_94 : decode cX7_court 94 = .ok (.getfield 90, 3) := by decide +kernel
theorem dX7_court_97 : decode cX7_court 97 = .ok (.iload 7, 2) := by decide +kernel
theorem dX7_court_99 : decode cX7_court 99 = .ok (.aaload, 1) := by decide +kernel
theorem dX7_court_100 : decode cX7_court 100 = .ok (.astore 8, 2) := by decide +kernel
theorem dX7_court_102 : decode cX7_court 102 = .ok (.iload 6, 2) := by decide +kernel
theorem dX7_court_104 : decode cX7_court 104 = .ok (.aload 8, 2) := by decide +kernel
theorem dX7_court_106 : decode cX7_court 106 = .ok (.iload 5, 2) := by decide +kernel
theorem dX7_court_108 : decode cX7_court 108 = .ok (.invokevirtual 237, 3) := by decide +kernel
theorem dX7_court_111 : decode cX7_court 111 = .ok (.aload 8, 2) := by decide +kernel
theorem dX7_court_113 : decode cX7_court 113 = .ok (.iload 4, 2) := by decide +kernel
theorem dX7_court_115 : decode cX7_court 115 = .ok (.invokevirtual 237, 3) := by decide +kernel
theorem dX7_court_118 : decode cX7_court 118 = .ok (.invokestatic 240, 3) := by decide +kernel
theorem dX7_court_121 : decode cX7_court 121 = .ok (.iadd, 1) := by decide +kernel
theorem dX7_court_122 : decode cX7_court 122 = .ok (.istore 6, 2) := by decide +kernel
theorem dX7_court_124 : decode cX7_court 124 = .ok (.iinc 7 1, 3) := by decide +kernel
theorem dX7_court_127 : decode cX7_court 127 = .ok (.goto (-52), 3) := by decide +kernel
theorem dX7_court_130 : decode cX7_court 130 = .ok (.iload 6, 2) := by decide +kernel
theorem dX7_court_132 : decode cX7_court 132 = .ok (.ireturn, 1) := by decide +kernel
theorem dX7_worth_0 : decode cX7_worth 0 = .ok (.iload_n 2, 1) := by decide +kernel
theorem dX7_worth_1 : decode cX7_worth 1 = .ok (.invokestatic 110, 3) := by decide +kernel
theorem dX7_worth_4 : decode cX7_worth 4 = .ok (.ifCond .ne 5, 3) := by decide +kernel
theorem dX7_worth_7 : decode cX7_worth 7 = .ok (.iconst (-1), 1) := by decide +kernel
theorem dX7_worth_8 : decode cX7_worth 8 = .ok (.ireturn, 1) := by decide +kernel
theorem dX7_worth_9 : decode cX7_worth 9 = .ok (.iload_n 1, 1) := by decide +kernel
theorem dX7_worth_10 : decode cX7_worth 10 = .ok (.tableswitch 74 0 5 #[38, 44, 50, 56, 62, 68], 38) := by decide +kernel
theorem dX7_worth_48 : decode cX7_worth 48 = .ok (.aload_n 0, 1) := by decide +kernel
theorem dX7_worth_49 : decode cX7_worth 49 = .ok (.iload_n 2, 1) := by decide +kernel
theorem dX7_worth_50 : decode cX7_worth 50 = .ok (.invokevirtual 243, 3) := by decide +kernel
theorem dX7_worth_53 : decode cX7_worth 53 = .ok (.ireturn, 1) := by decide +kernel
theorem dX7_worth_54 : decode cX7_worth 54 = .ok (.aload_n 0, 1) := by decide +kernel
theorem dX7_worth_55 : decode cX7_worth 55 = .ok (.iload_n 2, 1) := by decide +kernel
theorem dX7_worth_56 : decode cX7_worth 56 = .ok (.invokevirtual 246, 3) := by decide +kernel
theorem dX7_worth_59 : decode cX7_worth 59 = .ok (.ireturn, 1) := by decide +kernel
theorem dX7_worth_60 : decode cX7_worth 60 = .ok (.aload_n 0, 1) := by decide +kernel
theorem dX7_worth_61 : decode cX7_worth 61 = .ok (.iload_n 2, 1) := by decide +kernel
theorem dX7_worth_62 : decode cX7_worth 62 = .ok (.invokevirtual 249, 3) := by decide +kernel
theorem dX7_worth_65 : decode cX7_worth 65 = .ok (.ireturn, 1) := by decide +kernel
theorem dX7_worth_66 : decode cX7_worth 66 = .ok (.aload_n 0, 1) := by decide +kernel
theorem dX7_worth_67 : decode cX7_worth 67 = .ok (.iload_n 2, 1) := by decide +kernel
theorem dX7_worth_68 : decode cX7_worth 68 = .ok (.invokevirtual 252, 3) := by decide +kernel
theorem dX7_worth_71 : decode cX7_worth 71 = .ok (.ireturn, 1) := by decide +kernel
theorem dX7_worth_72 : decode cX7_worth 72 = .ok (.aload_n 0, 1) := by decide +kernel
theorem dX7_worth_73 : decode cX7_worth 73 = .ok (.iload_n 2, 1) := by decide +kernel
theorem dX7_worth_74 : decode cX7_worth 74 = .ok (.invokevirtual 255, 3) := by decide +kernel
theorem dX7_worth_77 : decode cX7_worth 77 = .ok (.ireturn, 1) := by decide +kernel
theorem dX7_worth_78 : decode cX7_worth 78 = .ok (.aload_n 0, 1) := by decide +kernel
theorem dX7_worth_79 : decode cX7_worth 79 = .ok (.iload_n 2, 1) := by decide +kernel
theorem dX7_worth_80 : decode cX7_worth 80 = .ok (.invokevirtual 258, 3) := by decide +kernel
theorem dX7_worth_83 : decode cX7_worth 83 = .ok (.ireturn, 1) := by decide +kernel
theorem dX7_worth_84 : decode cX7_worth 84 = .ok (.iconst (-1), 1) := by decide +kernel
theorem dX7_worth_85 : decode cX7_worth 85 = .ok (.ireturn, 1) := by decide +kernel
theorem dX7_keep_0 : decode cX7_keep 0 = .ok (.iload_n 1, 1) := by decide +kernel
theorem dX7_keep_1 : decode cX7_keep 1 = .ok (.ifCond .lt 8, 3) := by decide +kernel
theorem dX7_keep_4 : decode cX7_keep 4 = .ok (.iload_n 1, 1) := by decide +kernel
theorem dX7_keep_5 : decode cX7_keep 5 = .ok (.iconst 1, 1) := by decide +kernel
theorem dX7_keep_6 : decode cX7_keep 6 = .ok (.if_icmp .le 5, 3) := by decide +kernel
theorem dX7_keep_9 : decode cX7_keep 9 = .ok (.iconst (-1), 1) := by decide +kernel
theorem dX7_keep_10 : decode cX7_keep 10 = .ok (.ireturn, 1) := by decide +kernel
theorem dX7_keep_11 : decode cX7_keep 11 = .ok (.iload_n 1, 1) := by decide +kernel
theorem dX7_keep_12 : decode cX7_keep 12 = .ok (.ifCond .ne 10, 3) := by decide +kernel
theorem dX7_keep_15 : decode cX7_keep 15 = .ok (.aload_n 0, 1) := by decide +kernel
theorem dX7_keep_16 : decode cX7_keep 16 = .ok (.getfield 30, 3) := by decide +kernel
theorem dX7_keep_19 : decode cX7_keep 19 = .ok (.goto 7, 3) := by decide +kernel
theorem dX7_keep_22 : decode cX7_keep 22 = .ok (.aload_n 0, 1) := by decide +kernel
theorem dX7_keep_23 : decode cX7_keep 23 = .ok (.getfield 33, 3) := by decide +kernel
theorem dX7_keep_26 : decode cX7_keep 26 = .ok (.astore_n 2, 1) := by decide +kernel
theorem dX7_keep_27 : decode cX7_keep 27 = .ok (.aload_n 2, 1) := by decide +kernel
theorem dX7_keep_28 : decode cX7_keep 28 = .ok (.aload_n 0, 1) := by decide +kernel
theorem dX7_keep_29 : decode cX7_keep 29 = .ok (.getfield 26, 3) := by decide +kernel
theorem dX7_keep_32 : decode cX7_keep 32 = .ok (.invokevirtual 261, 3) := by decide +kernel
theorem dX7_keep_35 : decode cX7_keep 35 = .ok (.aload_n 2, 1) := by decide +kernel
theorem dX7_keep_36 : decode cX7_keep 36 = .ok (.iconst 1, 1) := by decide +kernel
theorem dX7_keep_37 : decode cX7_keep 37 = .ok (.putfield 264, 3) := by decide +kernel
theorem dX7_keep_40 : decode cX7_keep 40 = .ok (.aload_n 0, 1) := by decide +kernel
theorem dX7_keep_41 : decode cX7_keep 41 = .ok (.getfield 26, 3) := by decide +kernel
theorem dX7_keep_44 : decode cX7_keep 44 = .ok (.invokevirtual 268, 3) := by decide +kernel
theorem dX7_keep_47 : decode cX7_keep 47 = .ok (.ireturn, 1) := by decide +kernel
theorem dX7_back_0 : decode cX7_back 0 = .ok (.iload_n 1, 1) := by decide +kernel
theorem dX7_back_1 : decode cX7_back 1 = .ok (.ifCond .lt 8, 3) := by decide +kernel
theorem dX7_back_4 : decode cX7_back 4 = .ok (.iload_n 1, 1) := by decide +kernel
theorem dX7_back_5 : decode cX7_back 5 = .ok (.iconst 1, 1) := by decide +kernel
theorem dX7_back_6 : decode cX7_back 6 = .ok (.if_icmp .le 5, 3) := by decide +kernel
theorem dX7_back_9 : decode cX7_back 9 = .ok (.iconst (-1), 1) := by decide +kernel
theorem dX7_back_10 : decode cX7_back 10 = .ok (.ireturn, 1) := by decide +kernel
theorem dX7_back_11 : decode cX7_back 11 = .ok (.iload_n 1, 1) := by decide +kernel
theorem dX7_back_12 : decode cX7_back 12 = .ok (.ifCond .ne 10, 3) := by decide +kernel
theorem dX7_back_15 : decode cX7_back 15 = .ok (.aload_n 0, 1) := by decide +kernel
theorem dX7_back_16 : decode cX7_back 16 = .ok (.getfield 30, 3) := by decide +kernel
theorem dX7_back_19 : decode cX7_back 19 = .ok (.goto 7, 3) := by decide +kernel
theorem dX7_back_22 : decode cX7_back 22 = .ok (.aload_n 0, 1) := by decide +kernel
theorem dX7_back_23 : decode cX7_back 23 = .ok (.getfield 33, 3) := by decide +kernel
theorem dX7_back_26 : decode cX7_back 26 = .ok (.astore_n 2, 1) := by decide +kernel
theorem dX7_back_27 : decode cX7_back 27 = .ok (.aload_n 2, 1) := by decide +kernel
theorem dX7_back_28 : decode cX7_back 28 = .ok (.getfield 264, 3) := by decide +kernel
theorem dX7_back_31 : decode cX7_back 31 = .ok (.ifCond .ne 6, 3) := by decide +kernel
theorem dX7_back_34 : decode cX7_back 34 = .ok (.bipush (-2), 2) := by decide +kernel
theorem dX7_back_36 : decode cX7_back 36 = .ok (.ireturn, 1) := by decide +kernel
theorem dX7_back_37 : decode cX7_back 37 = .ok (.aload_n 0, 1) := by decide +kernel
theorem dX7_back_38 : decode cX7_back 38 = .ok (.getfield 26, 3) := by decide +kernel
theorem dX7_back_41 : decode cX7_back 41 = .ok (.aload_n 2, 1) := by decide +kernel
theorem dX7_back_42 : decode cX7_back 42 = .ok (.invokevirtual 261, 3) := by decide +kernel
theorem dX7_back_45 : decode cX7_back 45 = .ok (.aload_n 0, 1) := by decide +kernel
theorem dX7_back_46 : decode cX7_back 46 = .ok (.getfield 26, 3) := by decide +kernel
theorem dX7_back_49 : decode cX7_back 49 = .ok (.invokevirtual 268, 3) := by decide +kernel
theorem dX7_back_52 : decode cX7_back 52 = .ok (.ireturn, 1) := by decide +kernel
theorem dX7_count_0 : decode cX7_count 0 = .ok (.iload_n 1, 1) := by decide +kernel
theorem dX7_count_1 : decode cX7_count 1 = .ok (.tableswitch 72 0 3 #[31, 39, 47, 61], 31) := by decide +kernel
theorem dX7_count_32 : decode cX7_count 32 = .ok (.aload_n 0, 1) := by decide +kernel
theorem dX7_count_33 : decode cX7_count 33 = .ok (.getfield 26, 3) := by decide +kernel
theorem dX7_count_36 : decode cX7_count 36 = .ok (.invokevirtual 268, 3) := by decide +kernel
theorem dX7_count_39 : decode cX7_count 39 = .ok (.ireturn, 1) := by decide +kernel
theorem dX7_count_40 : decode cX7_count 40 = .ok (.aload_n 0, 1) := by decide +kernel
theorem dX7_count_41 : decode cX7_count 41 = .ok (.getfield 12, 3) := by decide +kernel
theorem dX7_count_44 : decode cX7_count 44 = .ok (.getfield 68, 3) := by decide +kernel
theorem dX7_count_47 : decode cX7_count 47 = .ok (.ireturn, 1) := by decide +kernel
theorem dX7_count_48 : decode cX7_count 48 = .ok (.aload_n 0, 1) := by decide +kernel
theorem dX7_count_49 : decode cX7_count 49 = .ok (.getfield 26, 3) := by decide +kernel
theorem dX7_count_52 : decode cX7_count 52 = .ok (.getfield 122, 3) := by decide +kernel
theorem dX7_count_55 : decode cX7_count 55 = .ok (.getfield 138, 3) := by decide +kernel
theorem dX7_count_58 : decode cX7_count 58 = .ok (.invokestatic 271, 3) := by decide +kernel
theorem dX7_count_61 : decode cX7_count 61 = .ok (.ireturn, 1) := by decide +kernel
theorem dX7_count_62 : decode cX7_count 62 = .ok (.aload_n 0, 1) := by decide +kernel
theorem dX7_count_63 : decode cX7_count 63 = .ok (.getfield 26, 3) := by decide +kernel
theorem dX7_count_66 : decode cX7_count 66 = .ok (.getfield 212, 3) := by decide +kernel
theorem dX7_count_69 : decode cX7_count 69 = .ok (.invokestatic 271, 3) := by decide +kernel
theorem dX7_count_72 : decode cX7_count 72 = .ok (.ireturn, 1) := by decide +kernel
theorem dX7_count_73 : decode cX7_count 73 = .ok (.iconst (-1), 1) := by decide +kernel
theorem dX7_count_74 : decode cX7_count 74 = .ok (.ireturn, 1) := by decide +kernel
theorem dX7_trace_0 : decode cX7_trace 0 = .ok (.aload_n 0, 1) := by decide +kernel
theorem dX7_trace_1 : decode cX7_trace 1 = .ok (.getfield 64, 3) := by decide +kernel
theorem dX7_trace_4 : decode cX7_trace 4 = .ok (.lreturn, 1) := by decide +kernel
theorem dX7_isList_0 : decode cX7_isList 0 = .ok (.iload_n 0, 1) := by decide +kernel
theorem dX7_isList_1 : decode cX7_isList 1 = .ok (.ifCond .lt 12, 3) := by decide +kernel
theorem dX7_isList_4 : decode cX7_isList 4 = .ok (.iload_n 0, 1) := by decide +kernel
theorem dX7_isList_5 : decode cX7_isList 5 = .ok (.iconst 4, 1) := by decide +kernel
theorem dX7_isList_6 : decode cX7_isList 6 = .ok (.if_icmp .ge 7, 3) := by decide +kernel
theorem dX7_isList_9 : decode cX7_isList 9 = .ok (.iconst 1, 1) := by decide +kernel
theorem dX7_isList_10 : decode cX7_isList 10 = .ok (.goto 4, 3) := by decide +kernel
theorem dX7_isList_13 : decode cX7_isList 13 = .ok (.iconst 0, 1) := by decide +kernel
theorem dX7_isList_14 : decode cX7_isList 14 = .ok (.ireturn, 1) := by decide +kernel
theorem dX7_isSet_0 : decode cX7_isSet 0 = .ok (.iload_n 0, 1) := by decide +kernel
theorem dX7_isSet_1 : decode cX7_isSet 1 = .ok (.iconst 1, 1) := by decide +kernel
theorem dX7_isSet_2 : decode cX7_isSet 2 = .ok (.if_icmp .lt 13, 3) := by decide +kernel
theorem dX7_isSet_5 : decode cX7_isSet 5 = .ok (.iload_n 0, 1) := by decide +kernel
theorem dX7_isSet_6 : decode cX7_isSet 6 = .ok (.bipush 16, 2) := by decide +kernel
theorem dX7_isSet_8 : decode cX7_isSet 8 = .ok (.if_icmp .ge 7, 3) := by decide +kernel
theorem dX7_isSet_11 : decode cX7_isSet 11 = .ok (.iconst 1, 1) := by decide +kernel
theorem dX7_isSet_12 : decode cX7_isSet 12 = .ok (.goto 4, 3) := by decide +kernel
theorem dX7_isSet_15 : decode cX7_isSet 15 = .ok (.iconst 0, 1) := by decide +kernel
theorem dX7_isSet_16 : decode cX7_isSet 16 = .ok (.ireturn, 1) := by decide +kernel
theorem dX7_isName_0 : decode cX7_isName 0 = .ok (.iload_n 0, 1) := by decide +kernel
theorem dX7_isName_1 : decode cX7_isName 1 = .ok (.ifCond .lt 13, 3) := by decide +kernel
theorem dX7_isName_4 : decode cX7_isName 4 = .ok (.iload_n 0, 1) := by decide +kernel
theorem dX7_isName_5 : decode cX7_isName 5 = .ok (.bipush 26, 2) := by decide +kernel
theorem dX7_isName_7 : decode cX7_isName 7 = .ok (.if_icmp .ge 7, 3) := by decide +kernel
theorem dX7_isName_10 : decode cX7_isName 10 = .ok (.iconst 1, 1) := by decide +kernel
theorem dX7_isName_11 : decode cX7_isName 11 = .ok (.goto 4, 3) := by decide +kernel
theorem dX7_isName_14 : decode cX7_isName 14 = .ok (.iconst 0, 1) := by decide +kernel
theorem dX7_isName_15 : decode cX7_isName 15 = .ok (.ireturn, 1) := by decide +kernel
theorem dX7_isNameOrNone_0 : decode cX7_isNameOrNone 0 = .ok (.iload_n 0, 1) := by decide +kernel
theorem dX7_isNameOrNone_1 : decode cX7_isNameOrNone 1 = .ok (.bipush (-9), 2) := by decide +kernel
theorem dX7_isNameOrNone_3 : decode cX7_isNameOrNone 3 = .ok (.if_icmp .eq 10, 3) := by decide +kernel
theorem dX7_isNameOrNone_6 : decode cX7_isNameOrNone 6 = .ok (.iload_n 0, 1) := by decide +kernel
theorem dX7_isNameOrNone_7 : decode cX7_isNameOrNone 7 = .ok (.invokestatic 110, 3) := by decide +kernel
theorem dX7_isNameOrNone_10 : decode cX7_isNameOrNone 10 = .ok (.ifCond .eq 7, 3) := by decide +kernel
theorem dX7_isNameOrNone_13 : decode cX7_isNameOrNone 13 = .ok (.iconst 1, 1) := by decide +kernel
theorem dX7_isNameOrNone_14 : decode cX7_isNameOrNone 14 = .ok (.goto 4, 3) := by decide +kernel
theorem dX7_isNameOrNone_17 : decode cX7_isNameOrNone 17 = .ok (.iconst 0, 1) := by decide +kernel
theorem dX7_isNameOrNone_18 : decode cX7_isNameOrNone 18 = .ok (.ireturn, 1) := by decide +kernel
theorem dX7_isHouse_0 : decode cX7_isHouse 0 = .ok (.iload_n 0, 1) := by decide +kernel
theorem dX7_isHouse_1 : decode cX7_isHouse 1 = .ok (.ifCond .lt 13, 3) := by decide +kernel
theorem dX7_isHouse_4 : decode cX7_isHouse 4 = .ok (.iload_n 0, 1) := by decide +kernel
theorem dX7_isHouse_5 : decode cX7_isHouse 5 = .ok (.bipush 6, 2) := by decide +kernel
theorem dX7_isHouse_7 : decode cX7_isHouse 7 = .ok (.if_icmp .ge 7, 3) := by decide +kernel
theorem dX7_isHouse_10 : decode cX7_isHouse 10 = .ok (.iconst 1, 1) := by decide +kernel
theorem dX7_isHouse_11 : decode cX7_isHouse 11 = .ok (.goto 4, 3) := by decide +kernel
theorem dX7_isHouse_14 : decode cX7_isHouse 14 = .ok (.iconst 0, 1) := by decide +kernel
theorem dX7_isHouse_15 : decode cX7_isHouse 15 = .ok (.ireturn, 1) := by decide +kernel
theorem dX7_isStrength_0 : decode cX7_isStrength 0 = .ok (.iload_n 0, 1) := by decide +kernel
theorem dX7_isStrength_1 : decode cX7_isStrength 1 = .ok (.ifCond .lt 13, 3) := by decide +kernel
theorem dX7_isStrength_4 : decode cX7_isStrength 4 = .ok (.iload_n 0, 1) := by decide +kernel
theorem dX7_isStrength_5 : decode cX7_isStrength 5 = .ok (.bipush 99, 2) := by decide +kernel
theorem dX7_isStrength_7 : decode cX7_isStrength 7 = .ok (.if_icmp .gt 7, 3) := by decide +kernel
theorem dX7_isStrength_10 : decode cX7_isStrength 10 = .ok (.iconst 1, 1) := by decide +kernel
theorem dX7_isStrength_11 : decode cX7_isStrength 11 = .ok (.goto 4, 3) := by decide +kernel
theorem dX7_isStrength_14 : decode cX7_isStrength 14 = .ok (.iconst 0, 1) := by decide +kernel
theorem dX7_isStrength_15 : decode cX7_isStrength 15 = .ok (.ireturn, 1) := by decide +kernel
theorem dX7_isIn_0 : decode cX7_isIn 0 = .ok (.iload_n 0, 1) := by decide +kernel
theorem dX7_isIn_1 : decode cX7_isIn 1 = .ok (.iload_n 1, 1) := by decide +kernel
theorem dX7_isIn_2 : decode cX7_isIn 2 = .ok (.ishr, 1) := by decide +kernel
theorem dX7_isIn_3 : decode cX7_isIn 3 = .ok (.iconst 1, 1) := by decide +kernel
theorem dX7_isIn_4 : decode cX7_isIn 4 = .ok (.iand, 1) := by decide +kernel
theorem dX7_isIn_5 : decode cX7_isIn 5 = .ok (.ifCond .eq 7, 3) := by decide +kernel
theorem dX7_isIn_8 : decode cX7_isIn 8 = .ok (.iconst 1, 1) := by decide +kernel
theorem dX7_isIn_9 : decode cX7_isIn 9 = .ok (.goto 4, 3) := by decide +kernel
theorem dX7_isIn_12 : decode cX7_isIn 12 = .ok (.iconst 0, 1) := by decide +kernel
theorem dX7_isIn_13 : decode cX7_isIn 13 = .ok (.ireturn, 1) := by decide +kernel
theorem dX7_isLetter_0 : decode cX7_isLetter 0 = .ok (.iload_n 0, 1) := by decide +kernel
theorem dX7_isLetter_1 : decode cX7_isLetter 1 = .ok (.bipush 97, 2) := by decide +kernel
theorem dX7_isLetter_3 : decode cX7_isLetter 3 = .ok (.if_icmp .lt 13, 3) := by decide +kernel
theorem dX7_isLetter_6 : decode cX7_isLetter 6 = .ok (.iload_n 0, 1) := by decide +kernel
theorem dX7_isLetter_7 : decode cX7_isLetter 7 = .ok (.bipush 122, 2) := by decide +kernel
theorem dX7_isLetter_9 : decode cX7_isLetter 9 = .ok (.if_icmp .gt 7, 3) := by decide +kernel
theorem dX7_isLetter_12 : decode cX7_isLetter 12 = .ok (.iconst 1, 1) := by decide +kernel
theorem dX7_isLetter_13 : decode cX7_isLetter 13 = .ok (.goto 4, 3) := by decide +kernel
theorem dX7_isLetter_16 : decode cX7_isLetter 16 = .ok (.iconst 0, 1) := by decide +kernel
theorem dX7_isLetter_17 : decode cX7_isLetter 17 = .ok (.ireturn, 1) := by decide +kernel
theorem dX7_isDigit_0 : decode cX7_isDigit 0 = .ok (.iload_n 0, 1) := by decide +kernel
theorem dX7_isDigit_1 : decode cX7_isDigit 1 = .ok (.bipush 48, 2) := by decide +kernel
theorem dX7_isDigit_3 : decode cX7_isDigit 3 = .ok (.if_icmp .lt 13, 3) := by decide +kernel
theorem dX7_isDigit_6 : decode cX7_isDigit 6 = .ok (.iload_n 0, 1) := by decide +kernel
theorem dX7_isDigit_7 : decode cX7_isDigit 7 = .ok (.bipush 57, 2) := by decide +kernel
theorem dX7_isDigit_9 : decode cX7_isDigit 9 = .ok (.if_icmp .gt 7, 3) := by decide +kernel
theorem dX7_isDigit_12 : decode cX7_isDigit 12 = .ok (.iconst 1, 1) := by decide +kernel
theorem dX7_isDigit_13 : decode cX7_isDigit 13 = .ok (.goto 4, 3) := by decide +kernel
theorem dX7_isDigit_16 : decode cX7_isDigit 16 = .ok (.iconst 0, 1) := by decide +kernel
theorem dX7_isDigit_17 : decode cX7_isDigit 17 = .ok (.ireturn, 1) := by decide +kernel
theorem dX7_exchange_0 : decode cX7_exchange 0 = .ok (.aload_n 0, 1) := by decide +kernel
theorem dX7_exchange_1 : decode cX7_exchange 1 = .ok (.iload_n 1, 1) := by decide +kernel
theorem dX7_exchange_2 : decode cX7_exchange 2 = .ok (.iaload, 1) := by decide +kernel
theorem dX7_exchange_3 : decode cX7_exchange 3 = .ok (.istore_n 3, 1) := by decide +kernel
theorem dX7_exchange_4 : decode cX7_exchange 4 = .ok (.aload_n 0, 1) := by decide +kernel
theorem dX7_exchange_5 : decode cX7_exchange 5 = .ok (.iload_n 1, 1) := by decide +kernel
theorem dX7_exchange_6 : decode cX7_exchange 6 = .ok (.iload_n 2, 1) := by decide +kernel
theorem dX7_exchange_7 : decode cX7_exchange 7 = .ok (.iastore, 1) := by decide +kernel
theorem dX7_exchange_8 : decode cX7_exchange 8 = .ok (.iload_n 3, 1) := by decide +kernel
theorem dX7_exchange_9 : decode cX7_exchange 9 = .ok (.ireturn, 1) := by decide +kernel
theorem dX7_countThere_0 : decode cX7_countThere 0 = .ok (.iconst 0, 1) := by decide +kernel
theorem dX7_countThere_1 : decode cX7_countThere 1 = .ok (.istore_n 1, 1) := by decide +kernel
theorem dX7_countThere_2 : decode cX7_countThere 2 = .ok (.aload_n 0, 1) := by decide +kernel
theorem dX7_countThere_3 : decode cX7_countThere 3 = .ok (.astore_n 2, 1) := by decide +kernel
theorem dX7_countThere_4 : decode cX7_countThere 4 = .ok (.aload_n 2, 1) := by decide +kernel
theorem dX7_countThere_5 : decode cX7_countThere 5 = .ok (.arraylength, 1) := by decide +kernel
theorem dX7_countThere_6 : decode cX7_countThere 6 = .ok (.istore_n 3, 1) := by decide +kernel
theorem dX7_countThere_7 : decode cX7_countThere 7 = .ok (.iconst 0, 1) := by decide +kernel
theorem dX7_countThere_8 : decode cX7_countThere 8 = .ok (.istore 4, 2) := by decide +kernel
theorem dX7_countThere_10 : decode cX7_countThere 10 = .ok (.iload 4, 2) := by decide +kernel
theorem dX7_countThere_12 : decode cX7_countThere 12 = .ok (.iload_n 3, 1) := by decide +kernel
theorem dX7_countThere_13 : decode cX7_countThere 13 = .ok (.if_icmp .ge 25, 3) := by decide +kernel
theorem dX7_countThere_16 : decode cX7_countThere 16 = .ok (.aload_n 2, 1) := by decide +kernel
theorem dX7_countThere_17 : decode cX7_countThere 17 = .ok (.iload 4, 2) := by decide +kernel
theorem dX7_countThere_19 : decode cX7_countThere 19 = .ok (.iaload, 1) := by decide +kernel
theorem dX7_countThere_20 : decode cX7_countThere 20 = .ok (.istore 5, 2) := by decide +kernel
theorem dX7_countThere_22 : decode cX7_countThere 22 = .ok (.iload 5, 2) := by decide +kernel
theorem dX7_countThere_24 : decode cX7_countThere 24 = .ok (.bipush (-9), 2) := by decide +kernel
theorem dX7_countThere_26 : decode cX7_countThere 26 = .ok (.if_icmp .eq 6, 3) := by decide +kernel
theorem dX7_countThere_29 : decode cX7_countThere 29 = .ok (.iinc 1 1, 3) := by decide +kernel
theorem dX7_countThere_32 : decode cX7_countThere 32 = .ok (.iinc 4 1, 3) := by decide +kernel
theorem dX7_countThere_35 : decode cX7_countThere 35 = .ok (.goto (-25), 3) := by decide +kernel
theorem dX7_countThere_38 : decode cX7_countThere 38 = .ok (.iload_n 1, 1) := by decide +kernel
theorem dX7_countThere_39 : decode cX7_countThere 39 = .ok (.ireturn, 1) := by decide +kernel
theorem dX7_sameOrder_0 : decode cX7_sameOrder 0 = .ok (.iconst 0, 1) := by decide +kernel
theorem dX7_sameOrder_1 : decode cX7_sameOrder 1 = .ok (.istore_n 3, 1) := by decide +kernel
theorem dX7_sameOrder_2 : decode cX7_sameOrder 2 = .ok (.iconst 0, 1) := by decide +kernel
theorem dX7_sameOrder_3 : decode cX7_sameOrder 3 = .ok (.istore 4, 2) := by decide +kernel
theorem dX7_sameOrder_5 : decode cX7_sameOrder 5 = .ok (.iload 4, 2) := by decide +kernel
theorem dX7_sameOrder_7 : decode cX7_sameOrder 7 = .ok (.aload_n 1, 1) := by decide +kernel
theorem dX7_sameOrder_8 : decode cX7_sameOrder 8 = .ok (.getfield 99, 3) := by decide +kernel
theorem dX7_sameOrder_11 : decode cX7_sameOrder 11 = .ok (.if_icmp .ge 74, 3) := by decide +kernel
theorem dX7_sameOrder_14 : decode cX7_sameOrder 14 = .ok (.iload 4, 2) := by decide +kernel
theorem dX7_sameOrder_16 : decode cX7_sameOrder 16 = .ok (.bipush 12, 2) := by decide +kernel
theorem dX7_sameOrder_18 : decode cX7_sameOrder 18 = .ok (.if_icmp .ge 67, 3) := by decide +kernel
theorem dX7_sameOrder_21 : decode cX7_sameOrder 21 = .ok (.aload_n 0, 1) := by decide +kernel
theorem dX7_sameOrder_22 : decode cX7_sameOrder 22 = .ok (.getfield 53, 3) := by decide +kernel
theorem dX7_sameOrder_25 : decode cX7_sameOrder 25 = .ok (.iload 4, 2) := by decide +kernel
theorem dX7_sameOrder_27 : decode cX7_sameOrder 27 = .ok (.iconst 0, 1) := by decide +kernel
theorem dX7_sameOrder_28 : decode cX7_sameOrder 28 = .ok (.iastore, 1) := by decide +kernel
theorem dX7_sameOrder_29 : decode cX7_sameOrder 29 = .ok (.aload_n 2, 1) := by decide +kernel
theorem dX7_sameOrder_30 : decode cX7_sameOrder 30 = .ok (.aload_n 1, 1) := by decide +kernel
theorem dX7_sameOrder_31 : decode cX7_sameOrder 31 = .ok (.iload 4, 2) := by decide +kernel
theorem dX7_sameOrder_33 : decode cX7_sameOrder 33 = .ok (.invokevirtual 106, 3) := by decide +kernel
theorem dX7_sameOrder_36 : decode cX7_sameOrder 36 = .ok (.invokevirtual 113, 3) := by decide +kernel
theorem dX7_sameOrder_39 : decode cX7_sameOrder 39 = .ok (.istore 5, 2) := by decide +kernel
theorem dX7_sameOrder_41 : decode cX7_sameOrder 41 = .ok (.iload 5, 2) := by decide +kernel
theorem dX7_sameOrder_43 : decode cX7_sameOrder 43 = .ok (.bipush (-9), 2) := by decide +kernel
theorem dX7_sameOrder_45 : decode cX7_sameOrder 45 = .ok (.if_icmp .eq 34, 3) := by decide +kernel
theorem dX7_sameOrder_48 : decode cX7_sameOrder 48 = .ok (.aload_n 0, 1) := by decide +kernel
theorem dX7_sameOrder_49 : decode cX7_sameOrder 49 = .ok (.getfield 53, 3) := by decide +kernel
theorem dX7_sameOrder_52 : decode cX7_sameOrder 52 = .ok (.iload 4, 2) := by decide +kernel
theorem dX7_sameOrder_54 : decode cX7_sameOrder 54 = .ok (.iconst 1, 1) := by decide +kernel
theorem dX7_sameOrder_55 : decode cX7_sameOrder 55 = .ok (.aload_n 0, 1) := by decide +kernel
theorem dX7_sameOrder_56 : decode cX7_sameOrder 56 = .ok (.aload_n 1, 1) := by decide +kernel
theorem dX7_sameOrder_57 : decode cX7_sameOrder 57 = .ok (.aload_n 2, 1) := by decide +kernel
theorem dX7_sameOrder_58 : decode cX7_sameOrder 58 = .ok (.iload 4, 2) := by decide +kernel
theorem dX7_sameOrder_60 : decode cX7_sameOrder 60 = .ok (.iload 5, 2) := by decide +kernel
theorem dX7_sameOrder_62 : decode cX7_sameOrder 62 = .ok (.invokevirtual 275, 3) := by decide +kernel
theorem dX7_sameOrder_65 : decode cX7_sameOrder 65 = .ok (.iadd, 1) := by decide +kernel
theorem dX7_sameOrder_66 : decode cX7_sameOrder 66 = .ok (.iastore, 1) := by decide +kernel
theorem dX7_sameOrder_67 : decode cX7_sameOrder 67 = .ok (.iload_n 3, 1) := by decide +kernel
theorem dX7_sameOrder_68 : decode cX7_sameOrder 68 = .ok (.aload_n 0, 1) := by decide +kernel
theorem dX7_sameOrder_69 : decode cX7_sameOrder 69 = .ok (.getfield 53, 3) := by decide +kernel
theorem dX7_sameOrder_72 : decode cX7_sameOrder 72 = .ok (.iload 4, 2) := by decide +kernel
theorem dX7_sameOrder_74 : decode cX7_sameOrder 74 = .ok (.iaload, 1) := by decide +kernel
theorem dX7_sameOrder_75 : decode cX7_sameOrder 75 = .ok (.invokestatic 279, 3) := by decide +kernel
theorem dX7_sameOrder_78 : decode cX7_sameOrder 78 = .ok (.istore_n 3, 1) := by decide +kernel
theorem dX7_sameOrder_79 : decode cX7_sameOrder 79 = .ok (.iinc 4 1, 3) := by decide +kernel
theorem dX7_sameOrder_82 : decode cX7_sameOrder 82 = .ok (.goto (-77), 3) := by decide +kernel
theorem dX7_sameOrder_85 : decode cX7_sameOrder 85 = .ok (.iload_n 3, 1) := by decide +kernel
theorem dX7_sameOrder_86 : decode cX7_sameOrder 86 = .ok (.ireturn, 1) := by decide +kernel
theorem dX7_longestAhead_0 : decode cX7_longestAhead 0 = .ok (.iconst 0, 1) := by decide +kernel
theorem dX7_longestAhead_1 : decode cX7_longestAhead 1 = .ok (.istore 5, 2) := by decide +kernel
theorem dX7_longestAhead_3 : decode cX7_longestAhead 3 = .ok (.iconst 0, 1) := by decide +kernel
theorem dX7_longestAhead_4 : decode cX7_longestAhead 4 = .ok (.istore 6, 2) := by decide +kernel
theorem dX7_longestAhead_6 : decode cX7_longestAhead 6 = .ok (.iload 6, 2) := by decide +kernel
theorem dX7_longestAhead_8 : decode cX7_longestAhead 8 = .ok (.iload_n 3, 1) := by decide +kernel
theorem dX7_longestAhead_9 : decode cX7_longestAhead 9 = .ok (.if_icmp .ge 45, 3) := by decide +kernel
theorem dX7_longestAhead_12 : decode cX7_longestAhead 12 = .ok (.iload 6, 2) := by decide +kernel
theorem dX7_longestAhead_14 : decode cX7_longestAhead 14 = .ok (.bipush 12, 2) := by decide +kernel
theorem dX7_longestAhead_16 : decode cX7_longestAhead 16 = .ok (.if_icmp .ge 38, 3) := by decide +kernel
theorem dX7_longestAhead_19 : decode cX7_longestAhead 19 = .ok (.aload_n 2, 1) := by decide +kernel
theorem dX7_longestAhead_20 : decode cX7_longestAhead 20 = .ok (.aload_n 1, 1) := by decide +kernel
theorem dX7_longestAhead_21 : decode cX7_longestAhead 21 = .ok (.iload 6, 2) := by decide +kernel
theorem dX7_longestAhead_23 : decode cX7_longestAhead 23 = .ok (.invokevirtual 106, 3) := by decide +kernel
theorem dX7_longestAhead_26 : decode cX7_longestAhead 26 = .ok (.invokevirtual 113, 3) := by decide +kernel
theorem dX7_longestAhead_29 : decode cX7_longestAhead 29 = .ok (.iload 4, 2) := by decide +kernel
theorem dX7_longestAhead_31 : decode cX7_longestAhead 31 = .ok (.if_icmp .ge 17, 3) := by decide +kernel
theorem dX7_longestAhead_34 : decode cX7_longestAhead 34 = .ok (.iload 5, 2) := by decide +kernel
theorem dX7_longestAhead_36 : decode cX7_longestAhead 36 = .ok (.aload_n 0, 1) := by decide +kernel
theorem dX7_longestAhead_37 : decode cX7_longestAhead 37 = .ok (.getfield 53, 3) := by decide +kernel
theorem dX7_longestAhead_40 : decode cX7_longestAhead 40 = .ok (.iload 6, 2) := by decide +kernel
theorem dX7_longestAhead_42 : decode cX7_longestAhead 42 = .ok (.iaload, 1) := by decide +kernel
theorem dX7_longestAhead_43 : decode cX7_longestAhead 43 = .ok (.invokestatic 279, 3) := by decide +kernel
theorem dX7_longestAhead_46 : decode cX7_longestAhead 46 = .ok (.istore 5, 2) := by decide +kernel
theorem dX7_longestAhead_48 : decode cX7_longestAhead 48 = .ok (.iinc 6 1, 3) := by decide +kernel
theorem dX7_longestAhead_51 : decode cX7_longestAhead 51 = .ok (.goto (-45), 3) := by decide +kernel
theorem dX7_longestAhead_54 : decode cX7_longestAhead 54 = .ok (.iload 5, 2) := by decide +kernel
theorem dX7_longestAhead_56 : decode cX7_longestAhead 56 = .ok (.ireturn, 1) := by decide +kernel
theorem dX7_dateAt_0 : decode cX7_dateAt 0 = .ok (.aload_n 1, 1) := by decide +kernel
theorem dX7_dateAt_1 : decode cX7_dateAt 1 = .ok (.iload_n 2, 1) := by decide +kernel
theorem dX7_dateAt_2 : decode cX7_dateAt 2 = .ok (.invokevirtual 106, 3) := by decide +kernel
theorem dX7_dateAt_5 : decode cX7_dateAt 5 = .ok (.istore_n 3, 1) := by decide +kernel
theorem dX7_dateAt_6 : decode cX7_dateAt 6 = .ok (.iload_n 3, 1) := by decide +kernel
theorem dX7_dateAt_7 : decode cX7_dateAt 7 = .ok (.invokestatic 110, 3) := by decide +kernel
theorem dX7_dateAt_10 : decode cX7_dateAt 10 = .ok (.ifCond .eq 15, 3) := by decide +kernel
theorem dX7_dateAt_13 : decode cX7_dateAt 13 = .ok (.aload_n 0, 1) := by decide +kernel
theorem dX7_dateAt_14 : decode cX7_dateAt 14 = .ok (.getfield 26, 3) := by decide +kernel
theorem dX7_dateAt_17 : decode cX7_dateAt 17 = .ok (.getfield 212, 3) := by decide +kernel
theorem dX7_dateAt_20 : decode cX7_dateAt 20 = .ok (.iload_n 3, 1) := by decide +kernel
theorem dX7_dateAt_21 : decode cX7_dateAt 21 = .ok (.iaload, 1) := by decide +kernel
theorem dX7_dateAt_22 : decode cX7_dateAt 22 = .ok (.goto 5, 3) := by decide +kernel
theorem dX7_dateAt_25 : decode cX7_dateAt 25 = .ok (.bipush (-9), 2) := by decide +kernel
theorem dX7_dateAt_27 : decode cX7_dateAt 27 = .ok (.ireturn, 1) := by decide +kernel
theorem dX7_isAnyDated_0 : decode cX7_isAnyDated 0 = .ok (.iconst 0, 1) := by decide +kernel
theorem dX7_isAnyDated_1 : decode cX7_isAnyDated 1 = .ok (.istore_n 2, 1) := by decide +kernel
theorem dX7_isAnyDated_2 : decode cX7_isAnyDated 2 = .ok (.iload_n 2, 1) := by decide +kernel
theorem dX7_isAnyDated_3 : decode cX7_isAnyDated 3 = .ok (.aload_n 1, 1) := by decide +kernel
theorem dX7_isAnyDated_4 : decode cX7_isAnyDated 4 = .ok (.getfield 99, 3) := by decide +kernel
theorem dX7_isAnyDated_7 : decode cX7_isAnyDated 7 = .ok (.if_icmp .ge 22, 3) := by decide +kernel
theorem dX7_isAnyDated_10 : decode cX7_isAnyDated 10 = .ok (.aload_n 0, 1) := by decide +kernel
theorem dX7_isAnyDated_11 : decode cX7_isAnyDated 11 = .ok (.aload_n 1, 1) := by decide +kernel
theorem dX7_isAnyDated_12 : decode cX7_isAnyDated 12 = .ok (.iload_n 2, 1) := by decide +kernel
theorem dX7_isAnyDated_13 : decode cX7_isAnyDated 13 = .ok (.invokevirtual 230, 3) := by decide +kernel
theorem dX7_isAnyDated_16 : decode cX7_isAnyDated 16 = .ok (.bipush (-9), 2) := by decide +kernel
theorem dX7_isAnyDated_18 : decode cX7_isAnyDated 18 = .ok (.if_icmp .eq 5, 3) := by decide +kernel
theorem dX7_isAnyDated_21 : decode cX7_isAnyDated 21 = .ok (.iconst 1, 1) := by decide +kernel
theorem dX7_isAnyDated_22 : decode cX7_isAnyDated 22 = .ok (.ireturn, 1) := by decide +kernel
theorem dX7_isAnyDated_23 : decode cX7_isAnyDated 23 = .ok (.iinc 2 1, 3) := by decide +kernel
theorem dX7_isAnyDated_26 : decode cX7_isAnyDated 26 = .ok (.goto (-24), 3) := by decide +kernel
theorem dX7_isAnyDated_29 : decode cX7_isAnyDated 29 = .ok (.iconst 0, 1) := by decide +kernel
theorem dX7_isAnyDated_30 : decode cX7_isAnyDated 30 = .ok (.ireturn, 1) := by decide +kernel
theorem dX7_doDatesFit_0 : decode cX7_doDatesFit 0 = .ok (.iconst 0, 1) := by decide +kernel
theorem dX7_doDatesFit_1 : decode cX7_doDatesFit 1 = .ok (.istore_n 2, 1) := by decide +kernel
theorem dX7_doDatesFit_2 : decode cX7_doDatesFit 2 = .ok (.iload_n 2, 1) := by decide +kernel
theorem dX7_doDatesFit_3 : decode cX7_doDatesFit 3 = .ok (.aload_n 1, 1) := by decide +kernel
theorem dX7_doDatesFit_4 : decode cX7_doDatesFit 4 = .ok (.getfield 99, 3) := by decide +kernel
theorem dX7_doDatesFit_7 : decode cX7_doDatesFit 7 = .ok (.if_icmp .ge 26, 3) := by decide +kernel
theorem dX7_doDatesFit_10 : decode cX7_doDatesFit 10 = .ok (.aload_n 0, 1) := by decide +kernel
theorem dX7_doDatesFit_11 : decode cX7_doDatesFit 11 = .ok (.aload_n 1, 1) := by decide +kernel
theorem dX7_doDatesFit_12 : decode cX7_doDatesFit 12 = .ok (.iload_n 2, 1) := by decide +kernel
theorem dX7_doDatesFit_13 : decode cX7_doDatesFit 13 = .ok (.invokevirtual 223, 3) := by decide +kernel
theorem dX7_doDatesFit_16 : decode cX7_doDatesFit 16 = .ok (.aload_n 0, 1) := by decide +kernel
theorem dX7_doDatesFit_17 : decode cX7_doDatesFit 17 = .ok (.aload_n 1, 1) := by decide +kernel
theorem dX7_doDatesFit_18 : decode cX7_doDatesFit 18 = .ok (.iload_n 2, 1) := by decide +kernel
theorem dX7_doDatesFit_19 : decode cX7_doDatesFit 19 = .ok (.invokevirtual 227, 3) := by decide +kernel
theorem dX7_doDatesFit_22 : decode cX7_doDatesFit 22 = .ok (.if_icmp .le 5, 3) := by decide +kernel
theorem dX7_doDatesFit_25 : decode cX7_doDatesFit 25 = .ok (.iconst 0, 1) := by decide +kernel
theorem dX7_doDatesFit_26 : decode cX7_doDatesFit 26 = .ok (.ireturn, 1) := by decide +kernel
theorem dX7_doDatesFit_27 : decode cX7_doDatesFit 27 = .ok (.iinc 2 1, 3) := by decide +kernel
theorem dX7_doDatesFit_30 : decode cX7_doDatesFit 30 = .ok (.goto (-28), 3) := by decide +kernel
theorem dX7_doDatesFit_33 : decode cX7_doDatesFit 33 = .ok (.iconst 1, 1) := by decide +kernel
theorem dX7_doDatesFit_34 : decode cX7_doDatesFit 34 = .ok (.ireturn, 1) := by decide +kernel
theorem dX7_earliest_0 : decode cX7_earliest 0 = .ok (.ldc 215, 2) := by decide +kernel
theorem dX7_earliest_2 : decode cX7_earliest 2 = .ok (.istore_n 3, 1) := by decide +kernel
theorem dX7_earliest_3 : decode cX7_earliest 3 = .ok (.iconst 0, 1) := by decide +kernel
theorem dX7_earliest_4 : decode cX7_earliest 4 = .ok (.istore 4, 2) := by decide +kernel
theorem dX7_earliest_6 : decode cX7_earliest 6 = .ok (.iload 4, 2) := by decide +kernel
theorem dX7_earliest_8 : decode cX7_earliest 8 = .ok (.aload_n 1, 1) := by decide +kernel
theorem dX7_earliest_9 : decode cX7_earliest 9 = .ok (.getfield 99, 3) := by decide +kernel
theorem dX7_earliest_12 : decode cX7_earliest 12 = .ok (.if_icmp .ge 55, 3) := by decide +kernel
theorem dX7_earliest_15 : decode cX7_earliest 15 = .ok (.aload_n 0, 1) := by decide +kernel
theorem dX7_earliest_16 : decode cX7_earliest 16 = .ok (.aload_n 1, 1) := by decide +kernel
theorem dX7_earliest_17 : decode cX7_earliest 17 = .ok (.iload 4, 2) := by decide +kernel
theorem dX7_earliest_19 : decode cX7_earliest 19 = .ok (.invokevirtual 230, 3) := by decide +kernel
theorem dX7_earliest_22 : decode cX7_earliest 22 = .ok (.istore 5, 2) := by decide +kernel
theorem dX7_earliest_24 : decode cX7_earliest 24 = .ok (.iload 5, 2) := by decide +kernel
theorem dX7_earliest_26 : decode cX7_earliest 26 = .ok (.bipush (-9), 2) := by decide +kernel
theorem dX7_earliest_28 : decode cX7_earliest 28 = .ok (.if_icmp .eq 33, 3) := by decide +kernel
theorem dX7_earliest_31 : decode cX7_earliest 31 = .ok (.iload_n 3, 1) := by decide +kernel
theorem dX7_earliest_32 : decode cX7_earliest 32 = .ok (.iload 5, 2) := by decide +kernel
theorem dX7_earliest_34 : decode cX7_earliest 34 = .ok (.iload_n 2, 1) := by decide +kernel
theorem dX7_earliest_35 : decode cX7_earliest 35 = .ok (.iload 4, 2) := by decide +kernel
theorem dX7_earliest_37 : decode cX7_earliest 37 = .ok (.isub, 1) := by decide +kernel
theorem dX7_earliest_38 : decode cX7_earliest 38 = .ok (.iload 4, 2) := by decide +kernel
theorem dX7_earliest_40 : decode cX7_earliest 40 = .ok (.iload_n 2, 1) := by decide +kernel
theorem dX7_earliest_41 : decode cX7_earliest 41 = .ok (.if_icmp .gt 10, 3) := by decide +kernel
theorem dX7_earliest_44 : decode cX7_earliest 44 = .ok (.aload_n 0, 1) := by decide +kernel
theorem dX7_earliest_45 : decode cX7_earliest 45 = .ok (.getfield 57, 3) := by decide +kernel
theorem dX7_earliest_48 : decode cX7_earliest 48 = .ok (.goto 7, 3) := by decide +kernel
theorem dX7_earliest_51 : decode cX7_earliest 51 = .ok (.aload_n 0, 1) := by decide +kernel
theorem dX7_earliest_52 : decode cX7_earliest 52 = .ok (.getfield 61, 3) := by decide +kernel
theorem dX7_earliest_55 : decode cX7_earliest 55 = .ok (.imul, 1) := by decide +kernel
theorem dX7_earliest_56 : decode cX7_earliest 56 = .ok (.iadd, 1) := by decide +kernel
theorem dX7_earliest_57 : decode cX7_earliest 57 = .ok (.invokestatic 279, 3) := by decide +kernel
theorem dX7_earliest_60 : decode cX7_earliest 60 = .ok (.istore_n 3, 1) := by decide +kernel
theorem dX7_earliest_61 : decode cX7_earliest 61 = .ok (.iinc 4 1, 3) := by decide +kernel
theorem dX7_earliest_64 : decode cX7_earliest 64 = .ok (.goto (-58), 3) := by decide +kernel
theorem dX7_earliest_67 : decode cX7_earliest 67 = .ok (.iload_n 3, 1) := by decide +kernel
theorem dX7_earliest_68 : decode cX7_earliest 68 = .ok (.ireturn, 1) := by decide +kernel
theorem dX7_latestYear_0 : decode cX7_latestYear 0 = .ok (.ldc_w 284, 3) := by decide +kernel
theorem dX7_latestYear_3 : decode cX7_latestYear 3 = .ok (.istore_n 3, 1) := by decide +kernel
theorem dX7_latestYear_4 : decode cX7_latestYear 4 = .ok (.iconst 0, 1) := by decide +kernel
theorem dX7_latestYear_5 : decode cX7_latestYear 5 = .ok (.istore 4, 2) := by decide +kernel
theorem dX7_latestYear_7 : decode cX7_latestYear 7 = .ok (.iload 4, 2) := by decide +kernel
theorem dX7_latestYear_9 : decode cX7_latestYear 9 = .ok (.aload_n 1, 1) := by decide +kernel
theorem dX7_latestYear_10 : decode cX7_latestYear 10 = .ok (.getfield 99, 3) := by decide +kernel
theorem dX7_latestYear_13 : decode cX7_latestYear 13 = .ok (.if_icmp .ge 55, 3) := by decide +kernel
theorem dX7_latestYear_16 : decode cX7_latestYear 16 = .ok (.aload_n 0, 1) := by decide +kernel
theorem dX7_latestYear_17 : decode cX7_latestYear 17 = .ok (.aload_n 1, 1) := by decide +kernel
theorem dX7_latestYear_18 : decode cX7_latestYear 18 = .ok (.iload 4, 2) := by decide +kernel
theorem dX7_latestYear_20 : decode cX7_latestYear 20 = .ok (.invokevirtual 230, 3) := by decide +kernel
theorem dX7_latestYear_23 : decode cX7_latestYear 23 = .ok (.istore 5, 2) := by decide +kernel
theorem dX7_latestYear_25 : decode cX7_latestYear 25 = .ok (.iload 5, 2) := by decide +kernel
theorem dX7_latestYear_27 : decode cX7_latestYear 27 = .ok (.bipush (-9), 2) := by decide +kernel
theorem dX7_latestYear_29 : decode cX7_latestYear 29 = .ok (.if_icmp .eq 33, 3) := by decide +kernel
theorem dX7_latestYear_32 : decode cX7_latestYear 32 = .ok (.iload_n 3, 1) := by decide +kernel
theorem dX7_latestYear_33 : decode cX7_latestYear 33 = .ok (.iload 5, 2) := by decide +kernel
theorem dX7_latestYear_35 : decode cX7_latestYear 35 = .ok (.iload_n 2, 1) := by decide +kernel
theorem dX7_latestYear_36 : decode cX7_latestYear 36 = .ok (.iload 4, 2) := by decide +kernel
theorem dX7_latestYear_38 : decode cX7_latestYear 38 = .ok (.isub, 1) := by decide +kernel
theorem dX7_latestYear_39 : decode cX7_latestYear 39 = .ok (.iload 4, 2) := by decide +kernel
theorem dX7_latestYear_41 : decode cX7_latestYear 41 = .ok (.iload_n 2, 1) := by decide +kernel
theorem dX7_latestYear_42 : decode cX7_latestYear 42 = .ok (.if_icmp .gt 10, 3) := by decide +kernel
theorem dX7_latestYear_45 : decode cX7_latestYear 45 = .ok (.aload_n 0, 1) := by decide +kernel
theorem dX7_latestYear_46 : decode cX7_latestYear 46 = .ok (.getfield 61, 3) := by decide +kernel
theorem dX7_latestYear_49 : decode cX7_latestYear 49 = .ok (.goto 7, 3) := by decide +kernel
theorem dX7_latestYear_52 : decode cX7_latestYear 52 = .ok (.aload_n 0, 1) := by decide +kernel
theorem dX7_latestYear_53 : decode cX7_latestYear 53 = .ok (.getfield 57, 3) := by decide +kernel
theorem dX7_latestYear_56 : decode cX7_latestYear 56 = .ok (.imul, 1) := by decide +kernel
theorem dX7_latestYear_57 : decode cX7_latestYear 57 = .ok (.iadd, 1) := by decide +kernel
theorem dX7_latestYear_58 : decode cX7_latestYear 58 = .ok (.invokestatic 285, 3) := by decide +kernel
theorem dX7_latestYear_61 : decode cX7_latestYear 61 = .ok (.istore_n 3, 1) := by decide +kernel
theorem dX7_latestYear_62 : decode cX7_latestYear 62 = .ok (.iinc 4 1, 3) := by decide +kernel
theorem dX7_latestYear_65 : decode cX7_latestYear 65 = .ok (.goto (-58), 3) := by decide +kernel
theorem dX7_latestYear_68 : decode cX7_latestYear 68 = .ok (.iload_n 3, 1) := by decide +kernel
theorem dX7_latestYear_69 : decode cX7_latestYear 69 = .ok (.ireturn, 1) := by decide +kernel
theorem dX7_lostBetween_0 : decode cX7_lostBetween 0 = .ok (.iload_n 1, 1) := by decide +kernel
theorem dX7_lostBetween_1 : decode cX7_lostBetween 1 = .ok (.istore_n 3, 1) := by decide +kernel
theorem dX7_lostBetween_2 : decode cX7_lostBetween 2 = .ok (.iload_n 3, 1) := by decide +kernel
theorem dX7_lostBetween_3 : decode cX7_lostBetween 3 = .ok (.iload_n 2, 1) := by decide +kernel
theorem dX7_lostBetween_4 : decode cX7_lostBetween 4 = .ok (.if_icmp .gt 33, 3) := by decide +kernel
theorem dX7_lostBetween_7 : decode cX7_lostBetween 7 = .ok (.iload_n 3, 1) := by decide +kernel
theorem dX7_lostBetween_8 : decode cX7_lostBetween 8 = .ok (.aload_n 0, 1) := by decide +kernel
theorem dX7_lostBetween_9 : decode cX7_lostBetween 9 = .ok (.getfield 57, 3) := by decide +kernel
theorem dX7_lostBetween_12 : decode cX7_lostBetween 12 = .ok (.imul, 1) := by decide +kernel
theorem dX7_lostBetween_13 : decode cX7_lostBetween 13 = .ok (.iload_n 2, 1) := by decide +kernel
theorem dX7_lostBetween_14 : decode cX7_lostBetween 14 = .ok (.if_icmp .gt 17, 3) := by decide +kernel
theorem dX7_lostBetween_17 : decode cX7_lostBetween 17 = .ok (.iload_n 2, 1) := by decide +kernel
theorem dX7_lostBetween_18 : decode cX7_lostBetween 18 = .ok (.iload_n 3, 1) := by decide +kernel
theorem dX7_lostBetween_19 : decode cX7_lostBetween 19 = .ok (.aload_n 0, 1) := by decide +kernel
theorem dX7_lostBetween_20 : decode cX7_lostBetween 20 = .ok (.getfield 61, 3) := by decide +kernel
theorem dX7_lostBetween_23 : decode cX7_lostBetween 23 = .ok (.imul, 1) := by decide +kernel
theorem dX7_lostBetween_24 : decode cX7_lostBetween 24 = .ok (.if_icmp .gt 7, 3) := by decide +kernel
theorem dX7_lostBetween_27 : decode cX7_lostBetween 27 = .ok (.iload_n 3, 1) := by decide +kernel
theorem dX7_lostBetween_28 : decode cX7_lostBetween 28 = .ok (.iload_n 1, 1) := by decide +kernel
theorem dX7_lostBetween_29 : decode cX7_lostBetween 29 = .ok (.isub, 1) := by decide +kernel
theorem dX7_lostBetween_30 : decode cX7_lostBetween 30 = .ok (.ireturn, 1) := by decide +kernel
theorem dX7_lostBetween_31 : decode cX7_lostBetween 31 = .ok (.iinc 3 1, 3) := by decide +kernel
theorem dX7_lostBetween_34 : decode cX7_lostBetween 34 = .ok (.goto (-32), 3) := by decide +kernel
theorem dX7_lostBetween_37 : decode cX7_lostBetween 37 = .ok (.bipush (-2), 2) := by decide +kernel
theorem dX7_lostBetween_39 : decode cX7_lostBetween 39 = .ok (.ireturn, 1) := by decide +kernel
theorem dX7_worthAsName_0 : decode cX7_worthAsName 0 = .ok (.aload_n 0, 1) := by decide +kernel
theorem dX7_worthAsName_1 : decode cX7_worthAsName 1 = .ok (.dup, 1) := by decide +kernel
theorem dX7_worthAsName_2 : decode cX7_worthAsName 2 = .ok (.getfield 64, 3) := by decide +kernel
theorem dX7_worthAsName_5 : decode cX7_worthAsName 5 = .ok (.lconst 1, 1) := by decide +kernel
theorem dX7_worthAsName_6 : decode cX7_worthAsName 6 = .ok (.ladd, 1) := by decide +kernel
theorem dX7_worthAsName_7 : decode cX7_worthAsName 7 = .ok (.putfield 64, 3) := by decide +kernel
theorem dX7_worthAsName_10 : decode cX7_worthAsName 10 = .ok (.iconst 0, 1) := by decide +kernel
theorem dX7_worthAsName_11 : decode cX7_worthAsName 11 = .ok (.istore_n 2, 1) := by decide +kernel
theorem dX7_worthAsName_12 : decode cX7_worthAsName 12 = .ok (.iconst 0, 1) := by decide +kernel
theorem dX7_worthAsName_13 : decode cX7_worthAsName 13 = .ok (.istore_n 3, 1) := by decide +kernel
theorem dX7_worthAsName_14 : decode cX7_worthAsName 14 = .ok (.iload_n 3, 1) := by decide +kernel
theorem dX7_worthAsName_15 : decode cX7_worthAsName 15 = .ok (.iconst 4, 1) := by decide +kernel
theorem dX7_worthAsName_16 : decode cX7_worthAsName 16 = .ok (.if_icmp .ge 30, 3) := by decide +kernel
theorem dX7_worthAsName_19 : decode cX7_worthAsName 19 = .ok (.aload_n 0, 1) := by decide +kernel
theorem dX7_worthAsName_20 : decode cX7_worthAsName 20 = .ok (.getfield 26, 3) := by decide +kernel
theorem dX7_worthAsName_23 : decode cX7_worthAsName 23 = .ok (.getfield 90, 3) := by decide +kernel
theorem dX7_worthAsName_26 : decode cX7_worthAsName 26 = .ok (.iload_n 3, 1) := by decide +kernel
theorem dX7_worthAsName_27 : decode cX7_worthAsName 27 = .ok (.aaload, 1) := by decide +kernel
theorem dX7_worthAsName_28 : decode cX7_worthAsName 28 = .ok (.iload_n 1, 1) := by decide +kernel
theorem dX7_worthAsName_29 : decode cX7_worthAsName 29 = .ok (.invokevirtual 113, 3) := by decide +kernel
theorem dX7_worthAsName_32 : decode cX7_worthAsName 32 = .ok (.bipush (-9), 2) := by decide +kernel
theorem dX7_worthAsName_34 : decode cX7_worthAsName 34 = .ok (.if_icmp .eq 6, 3) := by decide +kernel
theorem dX7_worthAsName_37 : decode cX7_worthAsName 37 = .ok (.iinc 2 1, 3) := by decide +kernel
theorem dX7_worthAsName_40 : decode cX7_worthAsName 40 = .ok (.iinc 3 1, 3) := by decide +kernel
theorem dX7_worthAsName_43 : decode cX7_worthAsName 43 = .ok (.goto (-29), 3) := by decide +kernel
theorem dX7_worthAsName_46 : decode cX7_worthAsName 46 = .ok (.iload_n 2, 1) := by decide +kernel
theorem dX7_worthAsName_47 : decode cX7_worthAsName 47 = .ok (.ireturn, 1) := by decide +kernel
theorem dX7_worthAsClaimed_0 : decode cX7_worthAsClaimed 0 = .ok (.aload_n 0, 1) := by decide +kernel
theorem dX7_worthAsClaimed_1 : decode cX7_worthAsClaimed 1 = .ok (.dup, 1) := by decide +kernel
theorem dX7_worthAsClaimed_2 : decode cX7_worthAsClaimed 2 = .ok (.getfield 64, 3) := by decide +kernel
theorem dX7_worthAsClaimed_5 : decode cX7_worthAsClaimed 5 = .ok (.ldc2_w 288, 3) := by decide +kernel
theorem dX7_worthAsClaimed_8 : decode cX7_worthAsClaimed 8 = .ok (.ladd, 1) := by decide +kernel
theorem dX7_worthAsClaimed_9 : decode cX7_worthAsClaimed 9 = .ok (.putfield 64, 3) := by decide +kernel
theorem dX7_worthAsClaimed_12 : decode cX7_worthAsClaimed 12 = .ok (.aload_n 0, 1) := by decide +kernel
theorem dX7_worthAsClaimed_13 : decode cX7_worthAsClaimed 13 = .ok (.iload_n 1, 1) := by decide +kernel
theorem dX7_worthAsClaimed_14 : decode cX7_worthAsClaimed 14 = .ok (.invokevirtual 243, 3) := by decide +kernel
theorem dX7_worthAsClaimed_17 : decode cX7_worthAsClaimed 17 = .ok (.aload_n 0, 1) := by decide +kernel
theorem dX7_worthAsClaimed_18 : decode cX7_worthAsClaimed 18 = .ok (.getfield 26, 3) := by decide +kernel
theorem dX7_worthAsClaimed_21 : decode cX7_worthAsClaimed 21 = .ok (.getfield 122, 3) := by decide +kernel
theorem dX7_worthAsClaimed_24 : decode cX7_worthAsClaimed 24 = .ok (.iload_n 1, 1) := by decide +kernel
theorem dX7_worthAsClaimed_25 : decode cX7_worthAsClaimed 25 = .ok (.invokevirtual 141, 3) := by decide +kernel
theorem dX7_worthAsClaimed_28 : decode cX7_worthAsClaimed 28 = .ok (.iadd, 1) := by decide +kernel
theorem dX7_worthAsClaimed_29 : decode cX7_worthAsClaimed 29 = .ok (.ireturn, 1) := by decide +kernel
theorem dX7_worthAsJoined_0 : decode cX7_worthAsJoined 0 = .ok (.aload_n 0, 1) := by decide +kernel
theorem dX7_worthAsJoined_1 : decode cX7_worthAsJoined 1 = .ok (.dup, 1) := by decide +kernel
theorem dX7_worthAsJoined_2 : decode cX7_worthAsJoined 2 = .ok (.getfield 64, 3) := by decide +kernel
theorem dX7_worthAsJoined_5 : decode cX7_worthAsJoined 5 = .ok (.ldc2_w 290, 3) := by decide +kernel
theorem dX7_worthAsJoined_8 : decode cX7_worthAsJoined 8 = .ok (.ladd, 1) := by decide +kernel
theorem dX7_worthAsJoined_9 : decode cX7_worthAsJoined 9 = .ok (.putfield 64, 3) := by decide +kernel
theorem dX7_worthAsJoined_12 : decode cX7_worthAsJoined 12 = .ok (.aload_n 0, 1) := by decide +kernel
theorem dX7_worthAsJoined_13 : decode cX7_worthAsJoined 13 = .ok (.iload_n 1, 1) := by decide +kernel
theorem dX7_worthAsJoined_14 : decode cX7_worthAsJoined 14 = .ok (.invokevirtual 243, 3) := by decide +kernel
theorem dX7_worthAsJoined_17 : decode cX7_worthAsJoined 17 = .ok (.iconst 2, 1) := by decide +kernel
theorem dX7_worthAsJoined_18 : decode cX7_worthAsJoined 18 = .ok (.aload_n 0, 1) := by decide +kernel
theorem dX7_worthAsJoined_19 : decode cX7_worthAsJoined 19 = .ok (.getfield 26, 3) := by decide +kernel
theorem dX7_worthAsJoined_22 : decode cX7_worthAsJoined 22 = .ok (.getfield 122, 3) := by decide +kernel
theorem dX7_worthAsJoined_25 : decode cX7_worthAsJoined 25 = .ok (.iload_n 1, 1) := by decide +kernel
theorem dX7_worthAsJoined_26 : decode cX7_worthAsJoined 26 = .ok (.invokevirtual 292, 3) := by decide +kernel
theorem dX7_worthAsJoined_29 : decode cX7_worthAsJoined 29 = .ok (.imul, 1) := by decide +kernel
theorem dX7_worthAsJoined_30 : decode cX7_worthAsJoined 30 = .ok (.iadd, 1) := by decide +kernel
theorem dX7_worthAsJoined_31 : decode cX7_worthAsJoined 31 = .ok (.ireturn, 1) := by decide +kernel
theorem dX7_worthAsStood_0 : decode cX7_worthAsStood 0 = .ok (.aload_n 0, 1) := by decide +kernel
theorem dX7_worthAsStood_1 : decode cX7_worthAsStood 1 = .ok (.dup, 1) := by decide +kernel
theorem dX7_worthAsStood_2 : decode cX7_worthAsStood 2 = .ok (.getfield 64, 3) := by decide +kernel
theorem dX7_worthAsStood_5 : decode cX7_worthAsStood 5 = .ok (.ldc2_w 295, 3) := by decide +kernel
theorem dX7_worthAsStood_8 : decode cX7_worthAsStood 8 = .ok (.ladd, 1) := by decide +kernel
theorem dX7_worthAsStood_9 : decode cX7_worthAsStood 9 = .ok (.putfield 64, 3) := by decide +kernel
theorem dX7_worthAsStood_12 : decode cX7_worthAsStood 12 = .ok (.aload_n 0, 1) := by decide +kernel
theorem dX7_worthAsStood_13 : decode cX7_worthAsStood 13 = .ok (.iload_n 1, 1) := by decide +kernel
theorem dX7_worthAsStood_14 : decode cX7_worthAsStood 14 = .ok (.invokevirtual 249, 3) := by decide +kernel
theorem dX7_worthAsStood_17 : decode cX7_worthAsStood 17 = .ok (.istore_n 2, 1) := by decide +kernel
theorem dX7_worthAsStood_18 : decode cX7_worthAsStood 18 = .ok (.iload_n 2, 1) := by decide +kernel
theorem dX7_worthAsStood_19 : decode cX7_worthAsStood 19 = .ok (.iload_n 2, 1) := by decide +kernel
theorem dX7_worthAsStood_20 : decode cX7_worthAsStood 20 = .ok (.imul, 1) := by decide +kernel
theorem dX7_worthAsStood_21 : decode cX7_worthAsStood 21 = .ok (.ireturn, 1) := by decide +kernel
theorem dX7_worthAsDated_0 : decode cX7_worthAsDated 0 = .ok (.aload_n 0, 1) := by decide +kernel
theorem dX7_worthAsDated_1 : decode cX7_worthAsDated 1 = .ok (.dup, 1) := by decide +kernel
theorem dX7_worthAsDated_2 : decode cX7_worthAsDated 2 = .ok (.getfield 64, 3) := by decide +kernel
theorem dX7_worthAsDated_5 : decode cX7_worthAsDated 5 = .ok (.ldc2_w 297, 3) := by decide +kernel
theorem dX7_worthAsDated_8 : decode cX7_worthAsDated 8 = .ok (.ladd, 1) := by decide +kernel
theorem dX7_worthAsDated_9 : decode cX7_worthAsDated 9 = .ok (.putfield 64, 3) := by decide +kernel
theorem dX7_worthAsDated_12 : decode cX7_worthAsDated 12 = .ok (.aload_n 0, 1) := by decide +kernel
theorem dX7_worthAsDated_13 : decode cX7_worthAsDated 13 = .ok (.iload_n 1, 1) := by decide +kernel
theorem dX7_worthAsDated_14 : decode cX7_worthAsDated 14 = .ok (.invokevirtual 243, 3) := by decide +kernel
theorem dX7_worthAsDated_17 : decode cX7_worthAsDated 17 = .ok (.istore_n 2, 1) := by decide +kernel
theorem dX7_worthAsDated_18 : decode cX7_worthAsDated 18 = .ok (.iload_n 1, 1) := by decide +kernel
theorem dX7_worthAsDated_19 : decode cX7_worthAsDated 19 = .ok (.invokestatic 110, 3) := by decide +kernel
theorem dX7_worthAsDated_22 : decode cX7_worthAsDated 22 = .ok (.ifCond .eq 24, 3) := by decide +kernel
theorem dX7_worthAsDated_25 : decode cX7_worthAsDated 25 = .ok (.aload_n 0, 1) := by decide +kernel
theorem dX7_worthAsDated_26 : decode cX7_worthAsDated 26 = .ok (.getfield 26, 3) := by decide +kernel
theorem dX7_worthAsDated_29 : decode cX7_worthAsDated 29 = .ok (.getfield 212, 3) := by decide +kernel
theorem dX7_worthAsDated_32 : decode cX7_worthAsDated 32 = .ok (.iload_n 1, 1) := by decide +kernel
theorem dX7_worthAsDated_33 : decode cX7_worthAsDated 33 = .ok (.iaload, 1) := by decide +kernel
theorem dX7_worthAsDated_34 : decode cX7_worthAsDated 34 = .ok (.bipush (-9), 2) := by decide +kernel
theorem dX7_worthAsDated_36 : decode cX7_worthAsDated 36 = .ok (.if_icmp .eq 10, 3) := by decide +kernel
theorem dX7_worthAsDated_39 : decode cX7_worthAsDated 39 = .ok (.iload_n 2, 1) := by decide +kernel
theorem dX7_worthAsDated_40 : decode cX7_worthAsDated 40 = .ok (.bipush 7, 2) := by decide +kernel
theorem dX7_worthAsDated_42 : decode cX7_worthAsDated 42 = .ok (.iadd, 1) := by decide +kernel
theorem dX7_worthAsDated_43 : decode cX7_worthAsDated 43 = .ok (.goto 4, 3) := by decide +kernel
theorem dX7_worthAsDated_46 : decode cX7_worthAsDated 46 = .ok (.iload_n 2, 1) := by decide +kernel
theorem dX7_worthAsDated_47 : decode cX7_worthAsDated 47 = .ok (.ireturn, 1) := by decide +kernel
theorem dX7_worthAsFar_0 : decode cX7_worthAsFar 0 = .ok (.aload_n 0, 1) := by decide +kernel
theorem dX7_worthAsFar_1 : decode cX7_worthAsFar 1 = .ok (.dup, 1) := by decide +kernel
theorem dX7_worthAsFar_2 : decode cX7_worthAsFar 2 = .ok (.getfield 64, 3) := by decide +kernel
theorem dX7_worthAsFar_5 : decode cX7_worthAsFar 5 = .ok (.ldc2_w 299, 3) := by decide +kernel
theorem dX7_worthAsFar_8 : decode cX7_worthAsFar 8 = .ok (.ladd, 1) := by decide +kernel
theorem dX7_worthAsFar_9 : decode cX7_worthAsFar 9 = .ok (.putfield 64, 3) := by decide +kernel
theorem dX7_worthAsFar_12 : decode cX7_worthAsFar 12 = .ok (.aload_n 0, 1) := by decide +kernel
theorem dX7_worthAsFar_13 : decode cX7_worthAsFar 13 = .ok (.iload_n 1, 1) := by decide +kernel
theorem dX7_worthAsFar_14 : decode cX7_worthAsFar 14 = .ok (.invokevirtual 255, 3) := by decide +kernel
theorem dX7_worthAsFar_17 : decode cX7_worthAsFar 17 = .ok (.iconst 2, 1) := by decide +kernel
theorem dX7_worthAsFar_18 : decode cX7_worthAsFar 18 = .ok (.idiv, 1) := by decide +kernel
theorem dX7_worthAsFar_19 : decode cX7_worthAsFar 19 = .ok (.ireturn, 1) := by decide +kernel
theorem dX8_init_0 : decode cX8_init 0 = .ok (.aload_n 0, 1) := by decide +kernel
theorem dX8_init_1 : decode cX8_init 1 = .ok (.invokespecial 1, 3) := by decide +kernel
theorem dX8_init_4 : decode cX8_init 4 = .ok (.aload_n 0, 1) := by decide +kernel
theorem dX8_init_5 : decode cX8_init 5 = .ok (.bipush 90, 2) := by decide +kernel
theorem dX8_init_7 : decode cX8_init 7 = .ok (.newarray .int, 2) := by decide +kernel
theorem dX8_init_9 : decode cX8_init 9 = .ok (.putfield 7, 3) := by decide +kernel
theorem dX8_init_12 : decode cX8_init 12 = .ok (.aload_n 0, 1) := by decide +kernel
theorem dX8_init_13 : decode cX8_init 13 = .ok (.sipush 180, 3) := by decide +kernel
theorem dX8_init_16 : decode cX8_init 16 = .ok (.newarray .int, 2) := by decide +kernel
theorem dX8_init_18 : decode cX8_init 18 = .ok (.putfield 13, 3) := by decide +kernel
theorem dX8_init_21 : decode cX8_init 21 = .ok (.aload_n 0, 1) := by decide +kernel
theorem dX8_init_22 : decode cX8_init 22 = .ok (.iconst 2, 1) := by decide +kernel
theorem dX8_init_23 : decode cX8_init 23 = .ok (.newarray .boolean, 2) := by decide +kernel
theorem dX8_init_25 : decode cX8_init 25 = .ok (.putfield 16, 3) := by decide +kernel
theorem dX8_init_28 : decode cX8_init 28 = .ok (.aload_n 0, 1) := by decide +kernel
theorem dX8_init_29 : decode cX8_init 29 = .ok (.bipush 10, 2) := by decide +kernel
theorem dX8_init_31 : decode cX8_init 31 = .ok (.newarray .int, 2) := by decide +kernel
theorem dX8_init_33 : decode cX8_init 33 = .ok (.putfield 20, 3) := by decide +kernel
theorem dX8_init_36 : decode cX8_init 36 = .ok (.aload_n 0, 1) := by decide +kernel
theorem dX8_init_37 : decode cX8_init 37 = .ok (.sipush 200, 3) := by decide +kernel
theorem dX8_init_40 : decode cX8_init 40 = .ok (.newarray .int, 2) := by decide +kernel
theorem dX8_init_42 : decode cX8_init 42 = .ok (.putfield 23, 3) := by decide +kernel
theorem dX8_init_45 : decode cX8_init 45 = .ok (.aload_n 0, 1) := by decide +kernel
theorem dX8_init_46 : decode cX8_init 46 = .ok (.bipush 20, 2) := by decide +kernel
theorem dX8_init_48 : decode cX8_init 48 = .ok (.putfield 26, 3) := by decide +kernel
theorem dX8_init_51 : decode cX8_init 51 = .ok (.aload_n 0, 1) := by decide +kernel
theorem dX8_init_52 : decode cX8_init 52 = .ok (.bipush 35, 2) := by decide +kernel
theorem dX8_init_54 : decode cX8_init 54 = .ok (.putfield 30, 3) := by decide +kernel
theorem dX8_init_57 : decode cX8_init 57 = .ok (.aload_n 0, 1) := by decide +kernel
theorem dX8_init_58 : decode cX8_init 58 = .ok (.bipush 20, 2) := by decide +kernel
theorem dX8_init_60 : decode cX8_init 60 = .ok (.newarray .int, 2) := by decide +kernel
theorem dX8_init_62 : decode cX8_init 62 = .ok (.putfield 33, 3) := by decide +kernel
theorem dX8_init_65 : decode cX8_init 65 = .ok (.aload_n 0, 1) := by decide +kernel
theorem dX8_init_66 : decode cX8_init 66 = .ok (.iconst 3, 1) := by decide +kernel
theorem dX8_init_67 : decode cX8_init 67 = .ok (.newarray .int, 2) := by decide +kernel
theorem dX8_init_69 : decode cX8_init 69 = .ok (.putfield 36, 3) := by decide +kernel
theorem dX8_init_72 : decode cX8_init 72 = .ok (.aload_n 0, 1) := by decide +kernel
theorem dX8_init_73 : decode cX8_init 73 = .ok (.iconst 3, 1) := by decide +kernel
theorem dX8_init_74 : decode cX8_init 74 = .ok (.newarray .int, 2) := by decide +kernel
theorem dX8_init_76 : decode cX8_init 76 = .ok (.putfield 39, 3) := by decide +kernel
theorem dX8_init_79 : decode cX8_init 79 = .ok (.aload_n 0, 1) := by decide +kernel
theorem dX8_init_80 : decode cX8_init 80 = .ok (.bipush 26, 2) := by decide +kernel
theorem dX8_init_82 : decode cX8_init 82 = .ok (.newarray .int, 2) := by decide +kernel
theorem dX8_init_84 : decode cX8_init 84 = .ok (.putfield 42, 3) := by decide +kernel
theorem dX8_init_87 : decode cX8_init 87 = .ok (.aload_n 0, 1) := by decide +kernel
theorem dX8_init_88 : decode cX8_init 88 = .ok (.bipush 26, 2) := by decide +kernel
theorem dX8_init_90 : decode cX8_init 90 = .ok (.newarray .int, 2) := by decide +kernel
theorem dX8_init_92 : decode cX8_init 92 = .ok (.putfield 45, 3) := by decide +kernel
theorem dX8_init_95 : decode cX8_init 95 = .ok (.aload_n 0, 1) := by decide +kernel
theorem dX8_init_96 : decode cX8_init 96 = .ok (.sipush 4096, 3) := by decide +kernel
theorem dX8_init_99 : decode cX8_init 99 = .ok (.newarray .long, 2) := by decide +kernel
theorem dX8_init_101 : decode cX8_init 101 = .ok (.putfield 48, 3) := by decide +kernel
theorem dX8_init_104 : decode cX8_init 104 = .ok (.aload_n 0, 1) := by decide +kernel
theorem dX8_init_105 : decode cX8_init 105 = .ok (.sipush 169, 3) := by decide +kernel
theorem dX8_init_108 : decode cX8_init 108 = .ok (.newarray .int, 2) := by decide +kernel
theorem dX8_init_110 : decode cX8_init 110 = .ok (.putfield 52, 3) := by decide +kernel
theorem dX8_init_113 : decode cX8_init 113 = .ok (.iconst 0, 1) := by decide +kernel
theorem dX8_init_114 : decode cX8_init 114 = .ok (.istore_n 1, 1) := by decide +kernel
theorem dX8_init_115 : decode cX8_init 115 = .ok (.iload_n 1, 1) := by decide +kernel
theorem dX8_init_116 : decode cX8_init 116 = .ok (.bipush 6, 2) := by decide +kernel
theorem dX8_init_118 : decode cX8_init 118 = .ok (.if_icmp .ge 20, 3) := by decide +kernel
theorem dX8_init_121 : decode cX8_init 121 = .ok (.aload_n 0, 1) := by decide +kernel
theorem dX8_init_122 : decode cX8_init 122 = .ok (.getfield 7, 3) := by decide +kernel
theorem dX8_init_125 : decode cX8_init 125 = .ok (.bipush 58, 2) := by decide +kernel
theorem dX8_init_127 : decode cX8_init 127 = .ok (.iload_n 1, 1) := by decide +kernel
theorem dX8_init_128 : decode cX8_init 128 = .ok (.iadd, 1) := by decide +kernel
theorem dX8_init_129 : decode cX8_init 129 = .ok (.bipush (-9), 2) := by decide +kernel
theorem dX8_init_131 : decode cX8_init 131 = .ok (.iastore, 1) := by decide +kernel
theorem dX8_init_132 : decode cX8_init 132 = .ok (.iinc 1 1, 3) := by decide +kernel
theorem dX8_init_135 : decode cX8_init 135 = .ok (.goto (-20), 3) := by decide +kernel
theorem dX8_init_138 : decode cX8_init 138 = .ok (.iconst 0, 1) := by decide +kernel
theorem dX8_init_139 : decode cX8_init 139 = .ok (.istore_n 1, 1) := by decide +kernel
theorem dX8_init_140 : decode cX8_init 140 = .ok (.iload_n 1, 1) := by decide +kernel
theorem dX8_init_141 : decode cX8_init 141 = .ok (.bipush 26, 2) := by decide +kernel
theorem dX8_init_143 : decode cX8_init 143 = .ok (.if_icmp .ge 20, 3) := by decide +kernel
theorem dX8_init_146 : decode cX8_init 146 = .ok (.aload_n 0, 1) := by decide +kernel
theorem dX8_init_147 : decode cX8_init 147 = .ok (.getfield 7, 3) := by decide +kernel
theorem dX8_init_150 : decode cX8_init 150 = .ok (.bipush 64, 2) := by decide +kernel
theorem dX8_init_152 : decode cX8_init 152 = .ok (.iload_n 1, 1) := by decide +kernel
theorem dX8_init_153 : decode cX8_init 153 = .ok (.iadd, 1) := by decide +kernel
theorem dX8_init_154 : decode cX8_init 154 = .ok (.bipush (-9), 2) := by decide +kernel
theorem dX8_init_156 : decode cX8_init 156 = .ok (.iastore, 1) := by decide +kernel
theorem dX8_init_157 : decode cX8_init 157 = .ok (.iinc 1 1, 3) := by decide +kernel
theorem dX8_init_160 : decode cX8_init 160 = .ok (.goto (-20), 3) := by decide +kernel
theorem dX8_init_163 : decode cX8_init 163 = .ok (.aload_n 0, 1) := by decide +kernel
theorem dX8_init_164 : decode cX8_init 164 = .ok (.invokevirtual 55, 3) := by decide +kernel
theorem dX8_init_167 : decode cX8_init 167 = .ok (.aload_n 0, 1) := by decide +kernel
theorem dX8_init_168 : decode cX8_init 168 = .ok (.invokevirtual 58, 3) := by decide +kernel
theorem dX8_init_171 : decode cX8_init 171 = .ok (.return_, 1) := by decide +kernel
theorem dX8_in_0 : decode cX8_in 0 = .ok (.iload_n 0, 1) := by decide +kernel
theorem dX8_in_1 : decode cX8_in 1 = .ok (.iload_n 1, 1) := by decide +kernel
theorem dX8_in_2 : decode cX8_in 2 = .ok (.if_icmp .lt 12, 3) := by decide +kernel
theorem dX8_in_5 : decode cX8_in 5 = .ok (.iload_n 0, 1) := by decide +kernel
theorem dX8_in_6 : decode cX8_in 6 = .ok (.iload_n 2, 1) := by decide +kernel
theorem dX8_in_7 : decode cX8_in 7 = .ok (.if_icmp .gt 7, 3) := by decide +kernel
theorem dX8_in_10 : decode cX8_in 10 = .ok (.iconst 1, 1) := by decide +kernel
theorem dX8_in_11 : decode cX8_in 11 = .ok (.goto 4, 3) := by decide +kernel
theorem dX8_in_14 : decode cX8_in 14 = .ok (.iconst 0, 1) := by decide +kernel
theorem dX8_in_15 : decode cX8_in 15 = .ok (.ireturn, 1) := by decide +kernel
theorem dX8_isList_0 : decode cX8_isList 0 = .ok (.iload_n 0, 1) := by decide +kernel
theorem dX8_isList_1 : decode cX8_isList 1 = .ok (.iconst 0, 1) := by decide +kernel
theorem dX8_isList_2 : decode cX8_isList 2 = .ok (.iconst 3, 1) := by decide +kernel
theorem dX8_isList_3 : decode cX8_isList 3 = .ok (.invokestatic 64, 3) := by decide +kernel
theorem dX8_isList_6 : decode cX8_isList 6 = .ok (.ireturn, 1) := by decide +kernel
theorem dX8_isName_0 : decode cX8_isName 0 = .ok (.iload_n 0, 1) := by decide +kernel
theorem dX8_isName_1 : decode cX8_isName 1 = .ok (.iconst 0, 1) := by decide +kernel
theorem dX8_isName_2 : decode cX8_isName 2 = .ok (.bipush 25, 2) := by decide +kernel
theorem dX8_isName_4 : decode cX8_isName 4 = .ok (.invokestatic 64, 3) := by decide +kernel
theorem dX8_isName_7 : decode cX8_isName 7 = .ok (.ireturn, 1) := by decide +kernel
theorem dX8_sizeOf_0 : decode cX8_sizeOf 0 = .ok (.aload_n 0, 1) := by decide +kernel
theorem dX8_sizeOf_1 : decode cX8_sizeOf 1 = .ok (.getfield 7, 3) := by decide +kernel
theorem dX8_sizeOf_4 : decode cX8_sizeOf 4 = .ok (.bipush 13, 2) := by decide +kernel
theorem dX8_sizeOf_6 : decode cX8_sizeOf 6 = .ok (.iload_n 1, 1) := by decide +kernel
theorem dX8_sizeOf_7 : decode cX8_sizeOf 7 = .ok (.imul, 1) := by decide +kernel
theorem dX8_sizeOf_8 : decode cX8_sizeOf 8 = .ok (.iaload, 1) := by decide +kernel
theorem dX8_sizeOf_9 : decode cX8_sizeOf 9 = .ok (.ireturn, 1) := by decide +kernel
theorem dX8_at_0 : decode cX8_at 0 = .ok (.aload_n 0, 1) := by decide +kernel
theorem dX8_at_1 : decode cX8_at 1 = .ok (.getfield 7, 3) := by decide +kernel
theorem dX8_at_4 : decode cX8_at 4 = .ok (.bipush 13, 2) := by decide +kernel
theorem dX8_at_6 : decode cX8_at 6 = .ok (.iload_n 1, 1) := by decide +kernel
theorem dX8_at_7 : decode cX8_at 7 = .ok (.imul, 1) := by decide +kernel
theorem dX8_at_8 : decode cX8_at 8 = .ok (.iconst 1, 1) := by decide +kernel
theorem dX8_at_9 : decode cX8_at 9 = .ok (.iadd, 1) := by decide +kernel
theorem dX8_at_10 : decode cX8_at 10 = .ok (.iload_n 2, 1) := by decide +kernel
theorem dX8_at_11 : decode cX8_at 11 = .ok (.iadd, 1) := by decide +kernel
theorem dX8_at_12 : decode cX8_at 12 = .ok (.iaload, 1) := by decide +kernel
theorem dX8_at_13 : decode cX8_at 13 = .ok (.ireturn, 1) := by decide +kernel
theorem dX8_placeOf_0 : decode cX8_placeOf 0 = .ok (.iconst 0, 1) := by decide +kernel
theorem dX8_placeOf_1 : decode cX8_placeOf 1 = .ok (.istore_n 3, 1) := by decide +kernel
theorem dX8_placeOf_2 : decode cX8_placeOf 2 = .ok (.iload_n 3, 1) := by decide +kernel
theorem dX8_placeOf_3 : decode cX8_placeOf 3 = .ok (.aload_n 0, 1) := by decide +kernel
theorem dX8_placeOf_4 : decode cX8_placeOf 4 = .ok (.iload_n 1, 1) := by decide +kernel
theorem dX8_placeOf_5 : decode cX8_placeOf 5 = .ok (.invokevirtual 68, 3) := by decide +kernel
theorem dX8_placeOf_8 : decode cX8_placeOf 8 = .ok (.if_icmp .ge 21, 3) := by decide +kernel
theorem dX8_placeOf_11 : decode cX8_placeOf 11 = .ok (.aload_n 0, 1) := by decide +kernel
theorem dX8_placeOf_12 : decode cX8_placeOf 12 = .ok (.iload_n 1, 1) := by decide +kernel
theorem dX8_placeOf_13 : decode cX8_placeOf 13 = .ok (.iload_n 3, 1) := by decide +kernel
theorem dX8_placeOf_14 : decode cX8_placeOf 14 = .ok (.invokevirtual 72, 3) := by decide +kernel
theorem dX8_placeOf_17 : decode cX8_placeOf 17 = .ok (.iload_n 2, 1) := by decide +kernel
theorem dX8_placeOf_18 : decode cX8_placeOf 18 = .ok (.if_icmp .ne 5, 3) := by decide +kernel
theorem dX8_placeOf_21 : decode cX8_placeOf 21 = .ok (.iload_n 3, 1) := by decide +kernel
theorem dX8_placeOf_22 : decode cX8_placeOf 22 = .ok (.ireturn, 1) := by decide +kernel
theorem dX8_placeOf_23 : decode cX8_placeOf 23 = .ok (.iinc 3 1, 3) := by decide +kernel
theorem dX8_placeOf_26 : decode cX8_placeOf 26 = .ok (.goto (-24), 3) := by decide +kernel
theorem dX8_placeOf_29 : decode cX8_placeOf 29 = .ok (.bipush (-9), 2) := by decide +kernel
theorem dX8_placeOf_31 : decode cX8_placeOf 31 = .ok (.ireturn, 1) := by decide +kernel
theorem dX8_type_0 : decode cX8_type 0 = .ok (.aload_n 0, 1) := by decide +kernel
theorem dX8_type_1 : decode cX8_type 1 = .ok (.iconst 0, 1) := by decide +kernel
theorem dX8_type_2 : decode cX8_type 2 = .ok (.putfield 61, 3) := by decide +kernel
theorem dX8_type_5 : decode cX8_type 5 = .ok (.iload_n 3, 1) := by decide +kernel
theorem dX8_type_6 : decode cX8_type 6 = .ok (.iconst 1, 1) := by decide +kernel
theorem dX8_type_7 : decode cX8_type 7 = .ok (.bipush 8, 2) := by decide +kernel
theorem dX8_type_9 : decode cX8_type 9 = .ok (.invokestatic 64, 3) := by decide +kernel
theorem dX8_type_12 : decode cX8_type 12 = .ok (.ifCond .ne 5, 3) := by decide +kernel
theorem dX8_type_15 : decode cX8_type 15 = .ok (.iconst (-1), 1) := by decide +kernel
theorem dX8_type_16 : decode cX8_type 16 = .ok (.ireturn, 1) := by decide +kernel
theorem dX8_type_17 : decode cX8_type 17 = .ok (.aload_n 0, 1) := by decide +kernel
theorem dX8_type_18 : decode cX8_type 18 = .ok (.getfield 76, 3) := by decide +kernel
theorem dX8_type_21 : decode cX8_type 21 = .ok (.iload_n 3, 1) := by decide +kernel
theorem dX8_type_22 : decode cX8_type 22 = .ok (.iadd, 1) := by decide +kernel
theorem dX8_type_23 : decode cX8_type 23 = .ok (.sipush 200, 3) := by decide +kernel
theorem dX8_type_26 : decode cX8_type 26 = .ok (.if_icmp .le 6, 3) := by decide +kernel
theorem dX8_type_29 : decode cX8_type 29 = .ok (.bipush (-3), 2) := by decide +kernel
theorem dX8_type_31 : decode cX8_type 31 = .ok (.ireturn, 1) := by decide +kernel
theorem dX8_type_32 : decode cX8_type 32 = .ok (.iload_n 3, 1) := by decide +kernel
theorem dX8_type_33 : decode cX8_type 33 = .ok (.iconst 1, 1) := by decide +kernel
theorem dX8_type_34 : decode cX8_type 34 = .ok (.isub, 1) := by decide +kernel
theorem dX8_type_35 : decode cX8_type 35 = .ok (.istore 4, 2) := by decide +kernel
theorem dX8_type_37 : decode cX8_type 37 = .ok (.iload 4, 2) := by decide +kernel
theorem dX8_type_39 : decode cX8_type 39 = .ok (.ifCond .lt 40, 3) := by decide +kernel
theorem dX8_type_42 : decode cX8_type 42 = .ok (.aload_n 0, 1) := by decide +kernel
theorem dX8_type_43 : decode cX8_type 43 = .ok (.getfield 23, 3) := by decide +kernel
theorem dX8_type_46 : decode cX8_type 46 = .ok (.aload_n 0, 1) := by decide +kernel
theorem dX8_type_47 : decode cX8_type 47 = .ok (.getfield 76, 3) := by decide +kernel
theorem dX8_type_50 : decode cX8_type 50 = .ok (.lload_n 1, 1) := by decide +kernel
theorem dX8_type_51 : decode cX8_type 51 = .ok (.bipush 8, 2) := by decide +kernel
theorem dX8_type_53 : decode cX8_type 53 = .ok (.iload 4, 2) := by decide +kernel
theorem dX8_type_55 : decode cX8_type 55 = .ok (.imul, 1) := by decide +kernel
theorem dX8_type_56 : decode cX8_type 56 = .ok (.lshr, 1) := by decide +kernel
theorem dX8_type_57 : decode cX8_type 57 = .ok (.ldc2_w 79, 3) := by decide +kernel
theorem dX8_type_60 : decode cX8_type 60 = .ok (.land, 1) := by decide +kernel
theorem dX8_type_61 : decode cX8_type 61 = .ok (.l2i, 1) := by decide +kernel
theorem dX8_type_62 : decode cX8_type 62 = .ok (.iastore, 1) := by decide +kernel
theorem dX8_type_63 : decode cX8_type 63 = .ok (.aload_n 0, 1) := by decide +kernel
theorem dX8_type_64 : decode cX8_type 64 = .ok (.dup, 1) := by decide +kernel
theorem dX8_type_65 : decode cX8_type 65 = .ok (.getfield 76, 3) := by decide +kernel
theorem dX8_type_68 : decode cX8_type 68 = .ok (.iconst 1, 1) := by decide +kernel
theorem dX8_type_69 : decode cX8_type 69 = .ok (.iadd, 1) := by decide +kernel
theorem dX8_type_70 : decode cX8_type 70 = .ok (.putfield 76, 3) := by decide +kernel
theorem dX8_type_73 : decode cX8_type 73 = .ok (.iinc 4 (-1), 3) := by decide +kernel
theorem dX8_type_76 : decode cX8_type 76 = .ok (.goto (-39), 3) := by decide +kernel
theorem dX8_type_79 : decode cX8_type 79 = .ok (.aload_n 0, 1) := by decide +kernel
theorem dX8_type_80 : decode cX8_type 80 = .ok (.getfield 76, 3) := by decide +kernel
theorem dX8_type_83 : decode cX8_type 83 = .ok (.ireturn, 1) := by decide +kernel
theorem dX8_clear_0 : decode cX8_clear 0 = .ok (.aload_n 0, 1) := by decide +kernel
theorem dX8_clear_1 : decode cX8_clear 1 = .ok (.iconst 0, 1) := by decide +kernel
theorem dX8_clear_2 : decode cX8_clear 2 = .ok (.putfield 61, 3) := by decide +kernel
theorem dX8_clear_5 : decode cX8_clear 5 = .ok (.aload_n 0, 1) := by decide +kernel
theorem dX8_clear_6 : decode cX8_clear 6 = .ok (.getfield 76, 3) := by decide +kernel
theorem dX8_clear_9 : decode cX8_clear 9 = .ok (.istore_n 1, 1) := by decide +kernel
theorem dX8_clear_10 : decode cX8_clear 10 = .ok (.aload_n 0, 1) := by decide +kernel
theorem dX8_clear_11 : decode cX8_clear 11 = .ok (.iconst 0, 1) := by decide +kernel
theorem dX8_clear_12 : decode cX8_clear 12 = .ok (.putfield 76, 3) := by decide +kernel
theorem dX8_clear_15 : decode cX8_clear 15 = .ok (.iload_n 1, 1) := by decide +kernel
theorem dX8_clear_16 : decode cX8_clear 16 = .ok (.ireturn, 1) := by decide +kernel
theorem dX8_byteAt_0 : decode cX8_byteAt 0 = .ok (.iload_n 1, 1) := by decide +kernel
theorem dX8_byteAt_1 : decode cX8_byteAt 1 = .ok (.aload_n 0, 1) := by decide +kernel
theorem dX8_byteAt_2 : decode cX8_byteAt 2 = .ok (.getfield 76, 3) := by decide +kernel
theorem dX8_byteAt_5 : decode cX8_byteAt 5 = .ok (.if_icmp .ge 12, 3) := by decide +kernel
theorem dX8_byteAt_8 : decode cX8_byteAt 8 = .ok (.aload_n 0, 1) := by decide +kernel
theorem dX8_byteAt_9 : decode cX8_byteAt 9 = .ok (.getfield 23, 3) := by decide +kernel
theorem dX8_byteAt_12 : decode cX8_byteAt 12 = .ok (.iload_n 1, 1) := by decide +kernel
theorem dX8_byteAt_13 : decode cX8_byteAt 13 = .ok (.iaload, 1) := by decide +kernel
theorem dX8_byteAt_14 : decode cX8_byteAt 14 = .ok (.goto 4, 3) := by decide +kernel
theorem dX8_byteAt_17 : decode cX8_byteAt 17 = .ok (.iconst (-1), 1) := by decide +kernel
theorem dX8_byteAt_18 : decode cX8_byteAt 18 = .ok (.ireturn, 1) := by decide +kernel
theorem dX8_begins_0 : decode cX8_begins 0 = .ok (.aload_n 0, 1) := by decide +kernel
theorem dX8_begins_1 : decode cX8_begins 1 = .ok (.getfield 20, 3) := by decide +kernel
theorem dX8_begins_4 : decode cX8_begins 4 = .ok (.iconst 5, 1) := by decide +kernel
theorem dX8_begins_5 : decode cX8_begins 5 = .ok (.bipush 12, 2) := by decide +kernel
theorem dX8_begins_7 : decode cX8_begins 7 = .ok (.iastore, 1) := by decide +kernel
theorem dX8_begins_8 : decode cX8_begins 8 = .ok (.aload_n 0, 1) := by decide +kernel
theorem dX8_begins_9 : decode cX8_begins 9 = .ok (.getfield 20, 3) := by decide +kernel
theorem dX8_begins_12 : decode cX8_begins 12 = .ok (.bipush 6, 2) := by decide +kernel
theorem dX8_begins_14 : decode cX8_begins 14 = .ok (.iconst 1, 1) := by decide +kernel
theorem dX8_begins_15 : decode cX8_begins 15 = .ok (.iastore, 1) := by decide +kernel
theorem dX8_begins_16 : decode cX8_begins 16 = .ok (.aload_n 0, 1) := by decide +kernel
theorem dX8_begins_17 : decode cX8_begins 17 = .ok (.getfield 20, 3) := by decide +kernel
theorem dX8_begins_20 : decode cX8_begins 20 = .ok (.bipush 7, 2) := by decide +kernel
theorem dX8_begins_22 : decode cX8_begins 22 = .ok (.iconst 0, 1) := by decide +kernel
theorem dX8_begins_23 : decode cX8_begins 23 = .ok (.iastore, 1) := by decide +kernel
theorem dX8_begins_24 : decode cX8_begins 24 = .ok (.aload_n 0, 1) := by decide +kernel
theorem dX8_begins_25 : decode cX8_begins 25 = .ok (.getfield 20, 3) := by decide +kernel
theorem dX8_begins_28 : decode cX8_begins 28 = .ok (.bipush 8, 2) := by decide +kernel
theorem dX8_begins_30 : decode cX8_begins 30 = .ok (.bipush 50, 2) := by decide +kernel
theorem dX8_begins_32 : decode cX8_begins 32 = .ok (.iastore, 1) := by decide +kernel
theorem dX8_begins_33 : decode cX8_begins 33 = .ok (.aload_n 0, 1) := by decide +kernel
theorem dX8_begins_34 : decode cX8_begins 34 = .ok (.getfield 20, 3) := by decide +kernel
theorem dX8_begins_37 : decode cX8_begins 37 = .ok (.bipush 9, 2) := by decide +kernel
theorem dX8_begins_39 : decode cX8_begins 39 = .ok (.bipush 80, 2) := by decide +kernel
theorem dX8_begins_41 : decode cX8_begins 41 = .ok (.iastore, 1) := by decide +kernel
theorem dX8_begins_42 : decode cX8_begins 42 = .ok (.return_, 1) := by decide +kernel
theorem dX8_lays_0 : decode cX8_lays 0 = .ok (.iconst 0, 1) := by decide +kernel
theorem dX8_lays_1 : decode cX8_lays 1 = .ok (.istore_n 1, 1) := by decide +kernel
theorem dX8_lays_2 : decode cX8_lays 2 = .ok (.iload_n 1, 1) := by decide +kernel
theorem dX8_lays_3 : decode cX8_lays 3 = .ok (.iconst 5, 1) := by decide +kernel
theorem dX8_lays_4 : decode cX8_lays 4 = .ok (.if_icmp .ge 23, 3) := by decide +kernel
theorem dX8_lays_7 : decode cX8_lays 7 = .ok (.aload_n 0, 1) := by decide +kernel
theorem dX8_lays_8 : decode cX8_lays 8 = .ok (.getfield 20, 3) := by decide +kernel
theorem dX8_lays_11 : decode cX8_lays 11 = .ok (.iload_n 1, 1) := by decide +kernel
theorem dX8_lays_12 : decode cX8_lays 12 = .ok (.aload_n 0, 1) := by decide +kernel
theorem dX8_lays_13 : decode cX8_lays 13 = .ok (.getfield 20, 3) := by decide +kernel
theorem dX8_lays_16 : decode cX8_lays 16 = .ok (.iconst 5, 1) := by decide +kernel
theorem dX8_lays_17 : decode cX8_lays 17 = .ok (.iload_n 1, 1) := by decide +kernel
theorem dX8_lays_18 : decode cX8_lays 18 = .ok (.iadd, 1) := by decide +kernel
theorem dX8_lays_19 : decode cX8_lays 19 = .ok (.iaload, 1) := by decide +kernel
theorem dX8_lays_20 : decode cX8_lays 20 = .ok (.iastore, 1) := by decide +kernel
theorem dX8_lays_21 : decode cX8_lays 21 = .ok (.iinc 1 1, 3) := by decide +kernel
theorem dX8_lays_24 : decode cX8_lays 24 = .ok (.goto (-22), 3) := by decide +kernel
theorem dX8_lays_27 : decode cX8_lays 27 = .ok (.return_, 1) := by decide +kernel
theorem dX8_add_0 : decode cX8_add 0 = .ok (.iload_n 2, 1) := by decide +kernel
theorem dX8_add_1 : decode cX8_add 1 = .ok (.ifCond .ne 7, 3) := by decide +kernel
theorem dX8_add_4 : decode cX8_add 4 = .ok (.lload_n 0, 1) := by decide +kernel
theorem dX8_add_5 : decode cX8_add 5 = .ok (.goto 11, 3) := by decide +kernel
theorem dX8_add_8 : decode cX8_add 8 = .ok (.ldc2_w 81, 3) := by decide +kernel
theorem dX8_add_11 : decode cX8_add 11 = .ok (.lload_n 0, 1) := by decide +kernel
theorem dX8_add_12 : decode cX8_add 12 = .ok (.lmul, 1) := by decide +kernel
theorem dX8_add_13 : decode cX8_add 13 = .ok (.iload_n 2, 1) := by decide +kernel
theorem dX8_add_14 : decode cX8_add 14 = .ok (.i2l, 1) := by decide +kernel
theorem dX8_add_15 : decode cX8_add 15 = .ok (.ladd, 1) := by decide +kernel
theorem dX8_add_16 : decode cX8_add 16 = .ok (.lreturn, 1) := by decide +kernel
theorem dX8_word_0 : decode cX8_word 0 = .ok (.lconst 0, 1) := by decide +kernel
theorem dX8_word_1 : decode cX8_word 1 = .ok (.iload_n 0, 1) := by decide +kernel
theorem dX8_word_2 : decode cX8_word 2 = .ok (.invokestatic 83, 3) := by decide +kernel
theorem dX8_word_5 : decode cX8_word 5 = .ok (.iload_n 1, 1) := by decide +kernel
theorem dX8_word_6 : decode cX8_word 6 = .ok (.invokestatic 83, 3) := by decide +kernel
theorem dX8_word_9 : decode cX8_word 9 = .ok (.iload_n 2, 1) := by decide +kernel
theorem dX8_word_10 : decode cX8_word 10 = .ok (.invokestatic 83, 3) := by decide +kernel
theorem dX8_word_13 : decode cX8_word 13 = .ok (.iload_n 3, 1) := by decide +kernel
theorem dX8_word_14 : decode cX8_word 14 = .ok (.invokestatic 83, 3) := by decide +kernel
theorem dX8_word_17 : decode cX8_word 17 = .ok (.iload 4, 2) := by decide +kernel
theorem dX8_word_19 : decode cX8_word 19 = .ok (.invokestatic 83, 3) := by decide +kernel
theorem dX8_word_22 : decode cX8_word 22 = .ok (.lreturn, 1) := by decide +kernel
theorem dX8_wordOf_0 : decode cX8_wordOf 0 = .ok (.lload_n 0, 1) := by decide +kernel
theorem dX8_wordOf_1 : decode cX8_wordOf 1 = .ok (.bipush 104, 2) := by decide +kernel
theorem dX8_wordOf_3 : decode cX8_wordOf 3 = .ok (.bipush 111, 2) := by decide +kernel
theorem dX8_wordOf_5 : decode cX8_wordOf 5 = .ok (.bipush 108, 2) := by decide +kernel
theorem dX8_wordOf_7 : decode cX8_wordOf 7 = .ok (.bipush 100, 2) := by decide +kernel
theorem dX8_wordOf_9 : decode cX8_wordOf 9 = .ok (.iconst 0, 1) := by decide +kernel
theorem dX8_wordOf_10 : decode cX8_wordOf 10 = .ok (.invokestatic 87, 3) := by decide +kernel
theorem dX8_wordOf_13 : decode cX8_wordOf 13 = .ok (.lcmp, 1) := by decide +kernel
theorem dX8_wordOf_14 : decode cX8_wordOf 14 = .ok (.ifCond .ne 7, 3) := by decide +kernel
theorem dX8_wordOf_17 : decode cX8_wordOf 17 = .ok (.iconst 0, 1) := by decide +kernel
theorem dX8_wordOf_18 : decode cX8_wordOf 18 = .ok (.goto 89, 3) := by decide +kernel
theorem dX8_wordOf_21 : decode cX8_wordOf 21 = .ok (.lload_n 0, 1) := by decide +kernel
theorem dX8_wordOf_22 : decode cX8_wordOf 22 = .ok (.bipush 102, 2) := by decide +kernel
theorem dX8_wordOf_24 : decode cX8_wordOf 24 = .ok (.bipush 97, 2) := by decide +kernel
theorem dX8_wordOf_26 : decode cX8_wordOf 26 = .ok (.bipush 114, 2) := by decide +kernel
theorem dX8_wordOf_28 : decode cX8_wordOf 28 = .ok (.iconst 0, 1) := by decide +kernel
theorem dX8_wordOf_29 : decode cX8_wordOf 29 = .ok (.iconst 0, 1) := by decide +kernel
theorem dX8_wordOf_30 : decode cX8_wordOf 30 = .ok (.invokestatic 87, 3) := by decide +kernel
theorem dX8_wordOf_33 : decode cX8_wordOf 33 = .ok (.lcmp, 1) := by decide +kernel
theorem dX8_wordOf_34 : decode cX8_wordOf 34 = .ok (.ifCond .ne 7, 3) := by decide +kernel
theorem dX8_wordOf_37 : decode cX8_wordOf 37 = .ok (.iconst 1, 1) := by decide +kernel
theorem dX8_wordOf_38 : decode cX8_wordOf 38 = .ok (.goto 69, 3) := by decide +kernel
theorem dX8_wordOf_41 : decode cX8_wordOf 41 = .ok (.lload_n 0, 1) := by decide +kernel
theorem dX8_wordOf_42 : decode cX8_wordOf 42 = .ok (.bipush 119, 2) := by decide +kernel
theorem dX8_wordOf_44 : decode cX8_wordOf 44 = .ok (.bipush 101, 2) := by decide +kernel
theorem dX8_wordOf_46 : decode cX8_wordOf 46 = .ok (.bipush 97, 2) := by decide +kernel
theorem dX8_wordOf_48 : decode cX8_wordOf 48 = .ok (.bipush 107, 2) := by decide +kernel
theorem dX8_wordOf_50 : decode cX8_wordOf 50 = .ok (.iconst 0, 1) := by decide +kernel
theorem dX8_wordOf_51 : decode cX8_wordOf 51 = .ok (.invokestatic 87, 3) := by decide +kernel
theorem dX8_wordOf_54 : decode cX8_wordOf 54 = .ok (.lcmp, 1) := by decide +kernel
theorem dX8_wordOf_55 : decode cX8_wordOf 55 = .ok (.ifCond .ne 7, 3) := by decide +kernel
theorem dX8_wordOf_58 : decode cX8_wordOf 58 = .ok (.iconst 2, 1) := by decide +kernel
theorem dX8_wordOf_59 : decode cX8_wordOf 59 = .ok (.goto 48, 3) := by decide +kernel
theorem dX8_wordOf_62 : decode cX8_wordOf 62 = .ok (.lload_n 0, 1) := by decide +kernel
theorem dX8_wordOf_63 : decode cX8_wordOf 63 = .ok (.bipush 116, 2) := by decide +kernel
theorem dX8_wordOf_65 : decode cX8_wordOf 65 = .ok (.bipush 97, 2) := by decide +kernel
theorem dX8_wordOf_67 : decode cX8_wordOf 67 = .ok (.bipush 107, 2) := by decide +kernel
theorem dX8_wordOf_69 : decode cX8_wordOf 69 = .ok (.bipush 101, 2) := by decide +kernel
theorem dX8_wordOf_71 : decode cX8_wordOf 71 = .ok (.iconst 0, 1) := by decide +kernel
theorem dX8_wordOf_72 : decode cX8_wordOf 72 = .ok (.invokestatic 87, 3) := by decide +kernel
theorem dX8_wordOf_75 : decode cX8_wordOf 75 = .ok (.lcmp, 1) := by decide +kernel
theorem dX8_wordOf_76 : decode cX8_wordOf 76 = .ok (.ifCond .ne 7, 3) := by decide +kernel
theorem dX8_wordOf_79 : decode cX8_wordOf 79 = .ok (.iconst 3, 1) := by decide +kernel
theorem dX8_wordOf_80 : decode cX8_wordOf 80 = .ok (.goto 27, 3) := by decide +kernel
theorem dX8_wordOf_83 : decode cX8_wordOf 83 = .ok (.lload_n 0, 1) := by decide +kernel
theorem dX8_wordOf_84 : decode cX8_wordOf 84 = .ok (.bipush 115, 2) := by decide +kernel
theorem dX8_wordOf_86 : decode cX8_wordOf 86 = .ok (.bipush 116, 2) := by decide +kernel
theorem dX8_wordOf_88 : decode cX8_wordOf 88 = .ok (.bipush 97, 2) := by decide +kernel
theorem dX8_wordOf_90 : decode cX8_wordOf 90 = .ok (.bipush 110, 2) := by decide +kernel
theorem dX8_wordOf_92 : decode cX8_wordOf 92 = .ok (.bipush 100, 2) := by decide +kernel
theorem dX8_wordOf_94 : decode cX8_wordOf 94 = .ok (.invokestatic 87, 3) := by decide +kernel
theorem dX8_wordOf_97 : decode cX8_wordOf 97 = .ok (.lcmp, 1) := by decide +kernel
theorem dX8_wordOf_98 : decode cX8_wordOf 98 = .ok (.ifCond .ne 7, 3) := by decide +kernel
theorem dX8_wordOf_101 : decode cX8_wordOf 101 = .ok (.iconst 4, 1) := by decide +kernel
theorem dX8_wordOf_102 : decode cX8_wordOf 102 = .ok (.goto 5, 3) := by decide +kernel
theorem dX8_wordOf_105 : decode cX8_wordOf 105 = .ok (.bipush (-9), 2) := by decide +kernel
theorem dX8_wordOf_107 : decode cX8_wordOf 107 = .ok (.ireturn, 1) := by decide +kernel
theorem dX8_advances_0 : decode cX8_advances 0 = .ok (.aload_n 0, 1) := by decide +kernel
theorem dX8_advances_1 : decode cX8_advances 1 = .ok (.aload_n 0, 1) := by decide +kernel
theorem dX8_advances_2 : decode cX8_advances 2 = .ok (.getfield 91, 3) := by decide +kernel
theorem dX8_advances_5 : decode cX8_advances 5 = .ok (.invokevirtual 94, 3) := by decide +kernel
theorem dX8_advances_8 : decode cX8_advances 8 = .ok (.bipush 32, 2) := by decide +kernel
theorem dX8_advances_10 : decode cX8_advances 10 = .ok (.if_icmp .ne 16, 3) := by decide +kernel
theorem dX8_advances_13 : decode cX8_advances 13 = .ok (.aload_n 0, 1) := by decide +kernel
theorem dX8_advances_14 : decode cX8_advances 14 = .ok (.dup, 1) := by decide +kernel
theorem dX8_advances_15 : decode cX8_advances 15 = .ok (.getfield 91, 3) := by decide +kernel
theorem dX8_advances_18 : decode cX8_advances 18 = .ok (.iconst 1, 1) := by decide +kernel
theorem dX8_advances_19 : decode cX8_advances 19 = .ok (.iadd, 1) := by decide +kernel
theorem dX8_advances_20 : decode cX8_advances 20 = .ok (.putfield 91, 3) := by decide +kernel
theorem dX8_advances_23 : decode cX8_advances 23 = .ok (.goto (-23), 3) := by decide +kernel
theorem dX8_advances_26 : decode cX8_advances 26 = .ok (.aload_n 0, 1) := by decide +kernel
theorem dX8_advances_27 : decode cX8_advances 27 = .ok (.aload_n 0, 1) := by decide +kernel
theorem dX8_advances_28 : decode cX8_advances 28 = .ok (.getfield 91, 3) := by decide +kernel
theorem dX8_advances_31 : decode cX8_advances 31 = .ok (.putfield 97, 3) := by decide +kernel
theorem dX8_advances_34 : decode cX8_advances 34 = .ok (.aload_n 0, 1) := by decide +kernel
theorem dX8_advances_35 : decode cX8_advances 35 = .ok (.aload_n 0, 1) := by decide +kernel
theorem dX8_advances_36 : decode cX8_advances 36 = .ok (.getfield 91, 3) := by decide +kernel
theorem dX8_advances_39 : decode cX8_advances 39 = .ok (.invokevirtual 94, 3) := by decide +kernel
theorem dX8_advances_42 : decode cX8_advances 42 = .ok (.istore_n 1, 1) := by decide +kernel
theorem dX8_advances_43 : decode cX8_advances 43 = .ok (.iload_n 1, 1) := by decide +kernel
theorem dX8_advances_44 : decode cX8_advances 44 = .ok (.ifCond .ge 11, 3) := by decide +kernel
theorem dX8_advances_47 : decode cX8_advances 47 = .ok (.aload_n 0, 1) := by decide +kernel
theorem dX8_advances_48 : decode cX8_advances 48 = .ok (.iconst 0, 1) := by decide +kernel
theorem dX8_advances_49 : decode cX8_advances 49 = .ok (.putfield 100, 3) := by decide +kernel
theorem dX8_advances_52 : decode cX8_advances 52 = .ok (.goto 258, 3) := by decide +kernel
theorem dX8_advances_55 : decode cX8_advances 55 = .ok (.iload_n 1, 1) := by decide +kernel
theorem dX8_advances_56 : decode cX8_advances 56 = .ok (.bipush 97, 2) := by decide +kernel
theorem dX8_advances_58 : decode cX8_advances 58 = .ok (.bipush 122, 2) := by decide +kernel
theorem dX8_advances_60 : decode cX8_advances 60 = .ok (.invokestatic 64, 3) := by decide +kernel
theorem dX8_advances_63 : decode cX8_advances 63 = .ok (.ifCond .eq 96, 3) := by decide +kernel
theorem dX8_advances_66 : decode cX8_advances 66 = .ok (.lconst 0, 1) := by decide +kernel
theorem dX8_advances_67 : decode cX8_advances 67 = .ok (.lstore_n 2, 1) := by decide +kernel
theorem dX8_advances_68 : decode cX8_advances 68 = .ok (.aload_n 0, 1) := by decide +kernel
theorem dX8_advances_69 : decode cX8_advances 69 = .ok (.aload_n 0, 1) := by decide +kernel
theorem dX8_advances_70 : decode cX8_advances 70 = .ok (.getfield 91, 3) := by decide +kernel
theorem dX8_advances_73 : decode cX8_advances 73 = .ok (.invokevirtual 94, 3) := by decide +kernel
theorem dX8_advances_76 : decode cX8_advances 76 = .ok (.bipush 97, 2) := by decide +kernel
theorem dX8_advances_78 : decode cX8_advances 78 = .ok (.bipush 122, 2) := by decide +kernel
theorem dX8_advances_80 : decode cX8_advances 80 = .ok (.invokestatic 64, 3) := by decide +kernel
theorem dX8_advances_83 : decode cX8_advances 83 = .ok (.ifCond .eq 47, 3) := by decide +kernel
theorem dX8_advances_86 : decode cX8_advances 86 = .ok (.aload_n 0, 1) := by decide +kernel
theorem dX8_advances_87 : decode cX8_advances 87 = .ok (.getfield 91, 3) := by decide +kernel
theorem dX8_advances_90 : decode cX8_advances 90 = .ok (.aload_n 0, 1) := by decide +kernel
theorem dX8_advances_91 : decode cX8_advances 91 = .ok (.getfield 97, 3) := by decide +kernel
theorem dX8_advances_94 : decode cX8_advances 94 = .ok (.isub, 1) := by decide +kernel
theorem dX8_advances_95 : decode cX8_advances 95 = .ok (.bipush 6, 2) := by decide +kernel
theorem dX8_advances_97 : decode cX8_advances 97 = .ok (.if_icmp .ge 18, 3) := by decide +kernel
theorem dX8_advances_100 : decode cX8_advances 100 = .ok (.lload_n 2, 1) := by decide +kernel
theorem dX8_advances_101 : decode cX8_advances 101 = .ok (.aload_n 0, 1) := by decide +kernel
theorem dX8_advances_102 : decode cX8_advances 102 = .ok (.aload_n 0, 1) := by decide +kernel
theorem dX8_advances_103 : decode cX8_advances 103 = .ok (.getfield 91, 3) := by decide +kernel
theorem dX8_advances_106 : decode cX8_advances 106 = .ok (.invokevirtual 94, 3) := by decide +kernel
theorem dX8_advances_109 : decode cX8_advances 109 = .ok (.invokestatic 83, 3) := by decide +kernel
theorem dX8_advances_112 : decode cX8_advances 112 = .ok (.goto 4, 3) := by decide +kernel
theorem dX8_advances_115 : decode cX8_advances 115 = .ok (.lload_n 2, 1) := by decide +kernel
theorem dX8_advances_116 : decode cX8_advances 116 = .ok (.lstore_n 2, 1) := by decide +kernel
theorem dX8_advances_117 : decode cX8_advances 117 = .ok (.aload_n 0, 1) := by decide +kernel
theorem dX8_advances_118 : decode cX8_advances 118 = .ok (.dup, 1) := by decide +kernel
theorem dX8_advances_119 : decode cX8_advances 119 = .ok (.getfield 91, 3) := by decide +kernel
theorem dX8_advances_122 : decode cX8_advances 122 = .ok (.iconst 1, 1) := by decide +kernel
theorem dX8_advances_123 : decode cX8_advances 123 = .ok (.iadd, 1) := by decide +kernel
theorem dX8_advances_124 : decode cX8_advances 124 = .ok (.putfield 91, 3) := by decide +kernel
theorem dX8_advances_127 : decode cX8_advances 127 = .ok (.goto (-59), 3) := by decide +kernel
theorem dX8_advances_130 : decode cX8_advances 130 = .ok (.aload_n 0, 1) := by decide +kernel
theorem dX8_advances_131 : decode cX8_advances 131 = .ok (.lload_n 2, 1) := by decide +kernel
theorem dX8_advances_132 : decode cX8_advances 132 = .ok (.invokestatic 103, 3) := by decide +kernel
theorem dX8_advances_135 : decode cX8_advances 135 = .ok (.putfield 107, 3) := by decide +kernel
theorem dX8_advances_138 : decode cX8_advances 138 = .ok (.aload_n 0, 1) := by decide +kernel
theorem dX8_advances_139 : decode cX8_advances 139 = .ok (.aload_n 0, 1) := by decide +kernel
theorem dX8_advances_140 : decode cX8_advances 140 = .ok (.getfield 107, 3) := by decide +kernel
theorem dX8_advances_143 : decode cX8_advances 143 = .ok (.bipush (-9), 2) := by decide +kernel
theorem dX8_advances_145 : decode cX8_advances 145 = .ok (.if_icmp .ne 7, 3) := by decide +kernel
theorem dX8_advances_148 : decode cX8_advances 148 = .ok (.iconst 4, 1) := by decide +kernel
theorem dX8_advances_149 : decode cX8_advances 149 = .ok (.goto 4, 3) := by decide +kernel
theorem dX8_advances_152 : decode cX8_advances 152 = .ok (.iconst 1, 1) := by decide +kernel
end
section
theorem dX8_advances_153 : decode cX8_advances 153 = .ok (.putfield 100, 3) := by decide +kernel
theorem dX8_advances_156 : decode cX8_advances 156 = .ok (.goto 154, 3) := by decide +kernel
theorem dX8_advances_159 : decode cX8_advances 159 = .ok (.iload_n 1, 1) := by decide +kernel
theorem dX8_advances_160 : decode cX8_advances 160 = .ok (.bipush 48, 2) := by decide +kernel
theorem dX8_advances_162 : decode cX8_advances 162 = .ok (.bipush 57, 2) := by decide +kernel
theorem dX8_advances_164 : decode cX8_advances 164 = .ok (.invokestatic 64, 3) := by decide +kernel
theorem dX8_advances_167 : decode cX8_advances 167 = .ok (.ifCond .eq 118, 3) := by decide +kernel
theorem dX8_advances_170 : decode cX8_advances 170 = .ok (.aload_n 0, 1) := by decide +kernel
theorem dX8_advances_171 : decode cX8_advances 171 = .ok (.iconst 0, 1) := by decide +kernel
theorem dX8_advances_172 : decode cX8_advances 172 = .ok (.putfield 107, 3) := by decide +kernel
theorem dX8_advances_175 : decode cX8_advances 175 = .ok (.aload_n 0, 1) := by decide +kernel
theorem dX8_advances_176 : decode cX8_advances 176 = .ok (.aload_n 0, 1) := by decide +kernel
theorem dX8_advances_177 : decode cX8_advances 177 = .ok (.getfield 91, 3) := by decide +kernel
theorem dX8_advances_180 : decode cX8_advances 180 = .ok (.invokevirtual 94, 3) := by decide +kernel
theorem dX8_advances_183 : decode cX8_advances 183 = .ok (.bipush 48, 2) := by decide +kernel
theorem dX8_advances_185 : decode cX8_advances 185 = .ok (.bipush 57, 2) := by decide +kernel
theorem dX8_advances_187 : decode cX8_advances 187 = .ok (.invokestatic 64, 3) := by decide +kernel
theorem dX8_advances_190 : decode cX8_advances 190 = .ok (.ifCond .eq 55, 3) := by decide +kernel
theorem dX8_advances_193 : decode cX8_advances 193 = .ok (.aload_n 0, 1) := by decide +kernel
theorem dX8_advances_194 : decode cX8_advances 194 = .ok (.aload_n 0, 1) := by decide +kernel
theorem dX8_advances_195 : decode cX8_advances 195 = .ok (.getfield 107, 3) := by decide +kernel
theorem dX8_advances_198 : decode cX8_advances 198 = .ok (.bipush 99, 2) := by decide +kernel
theorem dX8_advances_200 : decode cX8_advances 200 = .ok (.if_icmp .le 10, 3) := by decide +kernel
theorem dX8_advances_203 : decode cX8_advances 203 = .ok (.aload_n 0, 1) := by decide +kernel
theorem dX8_advances_204 : decode cX8_advances 204 = .ok (.getfield 107, 3) := by decide +kernel
theorem dX8_advances_207 : decode cX8_advances 207 = .ok (.goto 22, 3) := by decide +kernel
theorem dX8_advances_210 : decode cX8_advances 210 = .ok (.bipush 10, 2) := by decide +kernel
theorem dX8_advances_212 : decode cX8_advances 212 = .ok (.aload_n 0, 1) := by decide +kernel
theorem dX8_advances_213 : decode cX8_advances 213 = .ok (.getfield 107, 3) := by decide +kernel
theorem dX8_advances_216 : decode cX8_advances 216 = .ok (.imul, 1) := by decide +kernel
theorem dX8_advances_217 : decode cX8_advances 217 = .ok (.aload_n 0, 1) := by decide +kernel
theorem dX8_advances_218 : decode cX8_advances 218 = .ok (.aload_n 0, 1) := by decide +kernel
theorem dX8_advances_219 : decode cX8_advances 219 = .ok (.getfield 91, 3) := by decide +kernel
theorem dX8_advances_222 : decode cX8_advances 222 = .ok (.invokevirtual 94, 3) := by decide +kernel
theorem dX8_advances_225 : decode cX8_advances 225 = .ok (.iadd, 1) := by decide +kernel
theorem dX8_advances_226 : decode cX8_advances 226 = .ok (.bipush 48, 2) := by decide +kernel
theorem dX8_advances_228 : decode cX8_advances 228 = .ok (.isub, 1) := by decide +kernel
theorem dX8_advances_229 : decode cX8_advances 229 = .ok (.putfield 107, 3) := by decide +kernel
theorem dX8_advances_232 : decode cX8_advances 232 = .ok (.aload_n 0, 1) := by decide +kernel
theorem dX8_advances_233 : decode cX8_advances 233 = .ok (.dup, 1) := by decide +kernel
theorem dX8_advances_234 : decode cX8_advances 234 = .ok (.getfield 91, 3) := by decide +kernel
theorem dX8_advances_237 : decode cX8_advances 237 = .ok (.iconst 1, 1) := by decide +kernel
theorem dX8_advances_238 : decode cX8_advances 238 = .ok (.iadd, 1) := by decide +kernel
theorem dX8_advances_239 : decode cX8_advances 239 = .ok (.putfield 91, 3) := by decide +kernel
theorem dX8_advances_242 : decode cX8_advances 242 = .ok (.goto (-67), 3) := by decide +kernel
theorem dX8_advances_245 : decode cX8_advances 245 = .ok (.aload_n 0, 1) := by decide +kernel
theorem dX8_advances_246 : decode cX8_advances 246 = .ok (.aload_n 0, 1) := by decide +kernel
theorem dX8_advances_247 : decode cX8_advances 247 = .ok (.getfield 107, 3) := by decide +kernel
theorem dX8_advances_250 : decode cX8_advances 250 = .ok (.bipush 99, 2) := by decide +kernel
theorem dX8_advances_252 : decode cX8_advances 252 = .ok (.if_icmp .gt 22, 3) := by decide +kernel
theorem dX8_advances_255 : decode cX8_advances 255 = .ok (.iload_n 1, 1) := by decide +kernel
theorem dX8_advances_256 : decode cX8_advances 256 = .ok (.bipush 48, 2) := by decide +kernel
theorem dX8_advances_258 : decode cX8_advances 258 = .ok (.if_icmp .ne 20, 3) := by decide +kernel
theorem dX8_advances_261 : decode cX8_advances 261 = .ok (.aload_n 0, 1) := by decide +kernel
theorem dX8_advances_262 : decode cX8_advances 262 = .ok (.getfield 91, 3) := by decide +kernel
theorem dX8_advances_265 : decode cX8_advances 265 = .ok (.aload_n 0, 1) := by decide +kernel
theorem dX8_advances_266 : decode cX8_advances 266 = .ok (.getfield 97, 3) := by decide +kernel
theorem dX8_advances_269 : decode cX8_advances 269 = .ok (.isub, 1) := by decide +kernel
theorem dX8_advances_270 : decode cX8_advances 270 = .ok (.iconst 1, 1) := by decide +kernel
theorem dX8_advances_271 : decode cX8_advances 271 = .ok (.if_icmp .le 7, 3) := by decide +kernel
theorem dX8_advances_274 : decode cX8_advances 274 = .ok (.iconst 4, 1) := by decide +kernel
theorem dX8_advances_275 : decode cX8_advances 275 = .ok (.goto 4, 3) := by decide +kernel
theorem dX8_advances_278 : decode cX8_advances 278 = .ok (.iconst 2, 1) := by decide +kernel
theorem dX8_advances_279 : decode cX8_advances 279 = .ok (.putfield 100, 3) := by decide +kernel
theorem dX8_advances_282 : decode cX8_advances 282 = .ok (.goto 28, 3) := by decide +kernel
theorem dX8_advances_285 : decode cX8_advances 285 = .ok (.aload_n 0, 1) := by decide +kernel
theorem dX8_advances_286 : decode cX8_advances 286 = .ok (.dup, 1) := by decide +kernel
theorem dX8_advances_287 : decode cX8_advances 287 = .ok (.getfield 91, 3) := by decide +kernel
theorem dX8_advances_290 : decode cX8_advances 290 = .ok (.iconst 1, 1) := by decide +kernel
theorem dX8_advances_291 : decode cX8_advances 291 = .ok (.iadd, 1) := by decide +kernel
theorem dX8_advances_292 : decode cX8_advances 292 = .ok (.putfield 91, 3) := by decide +kernel
theorem dX8_advances_295 : decode cX8_advances 295 = .ok (.aload_n 0, 1) := by decide +kernel
theorem dX8_advances_296 : decode cX8_advances 296 = .ok (.iload_n 1, 1) := by decide +kernel
theorem dX8_advances_297 : decode cX8_advances 297 = .ok (.bipush 59, 2) := by decide +kernel
theorem dX8_advances_299 : decode cX8_advances 299 = .ok (.if_icmp .ne 7, 3) := by decide +kernel
theorem dX8_advances_302 : decode cX8_advances 302 = .ok (.iconst 3, 1) := by decide +kernel
theorem dX8_advances_303 : decode cX8_advances 303 = .ok (.goto 4, 3) := by decide +kernel
theorem dX8_advances_306 : decode cX8_advances 306 = .ok (.iconst 4, 1) := by decide +kernel
theorem dX8_advances_307 : decode cX8_advances 307 = .ok (.putfield 100, 3) := by decide +kernel
theorem dX8_advances_310 : decode cX8_advances 310 = .ok (.return_, 1) := by decide +kernel
theorem dX8_isWell_0 : decode cX8_isWell 0 = .ok (.aload_n 0, 1) := by decide +kernel
theorem dX8_isWell_1 : decode cX8_isWell 1 = .ok (.getfield 110, 3) := by decide +kernel
theorem dX8_isWell_4 : decode cX8_isWell 4 = .ok (.ifCond .ge 7, 3) := by decide +kernel
theorem dX8_isWell_7 : decode cX8_isWell 7 = .ok (.iconst 1, 1) := by decide +kernel
theorem dX8_isWell_8 : decode cX8_isWell 8 = .ok (.goto 4, 3) := by decide +kernel
theorem dX8_isWell_11 : decode cX8_isWell 11 = .ok (.iconst 0, 1) := by decide +kernel
theorem dX8_isWell_12 : decode cX8_isWell 12 = .ok (.ireturn, 1) := by decide +kernel
theorem dX8_takes_0 : decode cX8_takes 0 = .ok (.aload_n 0, 1) := by decide +kernel
theorem dX8_takes_1 : decode cX8_takes 1 = .ok (.invokevirtual 113, 3) := by decide +kernel
theorem dX8_takes_4 : decode cX8_takes 4 = .ok (.ifCond .ne 5, 3) := by decide +kernel
theorem dX8_takes_7 : decode cX8_takes 7 = .ok (.iconst 0, 1) := by decide +kernel
theorem dX8_takes_8 : decode cX8_takes 8 = .ok (.ireturn, 1) := by decide +kernel
theorem dX8_takes_9 : decode cX8_takes 9 = .ok (.iload_n 1, 1) := by decide +kernel
theorem dX8_takes_10 : decode cX8_takes 10 = .ok (.ifCond .ne 13, 3) := by decide +kernel
theorem dX8_takes_13 : decode cX8_takes 13 = .ok (.aload_n 0, 1) := by decide +kernel
theorem dX8_takes_14 : decode cX8_takes 14 = .ok (.aload_n 0, 1) := by decide +kernel
theorem dX8_takes_15 : decode cX8_takes 15 = .ok (.getfield 97, 3) := by decide +kernel
theorem dX8_takes_18 : decode cX8_takes 18 = .ok (.putfield 110, 3) := by decide +kernel
theorem dX8_takes_21 : decode cX8_takes 21 = .ok (.iconst 0, 1) := by decide +kernel
theorem dX8_takes_22 : decode cX8_takes 22 = .ok (.ireturn, 1) := by decide +kernel
theorem dX8_takes_23 : decode cX8_takes 23 = .ok (.aload_n 0, 1) := by decide +kernel
theorem dX8_takes_24 : decode cX8_takes 24 = .ok (.getfield 107, 3) := by decide +kernel
theorem dX8_takes_27 : decode cX8_takes 27 = .ok (.istore_n 2, 1) := by decide +kernel
theorem dX8_takes_28 : decode cX8_takes 28 = .ok (.aload_n 0, 1) := by decide +kernel
theorem dX8_takes_29 : decode cX8_takes 29 = .ok (.invokevirtual 117, 3) := by decide +kernel
theorem dX8_takes_32 : decode cX8_takes 32 = .ok (.iload_n 2, 1) := by decide +kernel
theorem dX8_takes_33 : decode cX8_takes 33 = .ok (.ireturn, 1) := by decide +kernel
theorem dX8_law_0 : decode cX8_law 0 = .ok (.aload_n 0, 1) := by decide +kernel
theorem dX8_law_1 : decode cX8_law 1 = .ok (.iconst 0, 1) := by decide +kernel
theorem dX8_law_2 : decode cX8_law 2 = .ok (.putfield 61, 3) := by decide +kernel
theorem dX8_law_5 : decode cX8_law 5 = .ok (.aload_n 0, 1) := by decide +kernel
theorem dX8_law_6 : decode cX8_law 6 = .ok (.iconst (-1), 1) := by decide +kernel
theorem dX8_law_7 : decode cX8_law 7 = .ok (.putfield 110, 3) := by decide +kernel
theorem dX8_law_10 : decode cX8_law 10 = .ok (.aload_n 0, 1) := by decide +kernel
theorem dX8_law_11 : decode cX8_law 11 = .ok (.iconst 0, 1) := by decide +kernel
theorem dX8_law_12 : decode cX8_law 12 = .ok (.putfield 91, 3) := by decide +kernel
theorem dX8_law_15 : decode cX8_law 15 = .ok (.iconst 0, 1) := by decide +kernel
theorem dX8_law_16 : decode cX8_law 16 = .ok (.istore_n 1, 1) := by decide +kernel
theorem dX8_law_17 : decode cX8_law 17 = .ok (.iconst 0, 1) := by decide +kernel
theorem dX8_law_18 : decode cX8_law 18 = .ok (.istore_n 2, 1) := by decide +kernel
theorem dX8_law_19 : decode cX8_law 19 = .ok (.aload_n 0, 1) := by decide +kernel
theorem dX8_law_20 : decode cX8_law 20 = .ok (.invokevirtual 55, 3) := by decide +kernel
theorem dX8_law_23 : decode cX8_law 23 = .ok (.aload_n 0, 1) := by decide +kernel
theorem dX8_law_24 : decode cX8_law 24 = .ok (.invokevirtual 117, 3) := by decide +kernel
theorem dX8_law_27 : decode cX8_law 27 = .ok (.aload_n 0, 1) := by decide +kernel
theorem dX8_law_28 : decode cX8_law 28 = .ok (.invokevirtual 113, 3) := by decide +kernel
theorem dX8_law_31 : decode cX8_law 31 = .ok (.ifCond .eq 146, 3) := by decide +kernel
theorem dX8_law_34 : decode cX8_law 34 = .ok (.aload_n 0, 1) := by decide +kernel
theorem dX8_law_35 : decode cX8_law 35 = .ok (.getfield 100, 3) := by decide +kernel
theorem dX8_law_38 : decode cX8_law 38 = .ok (.ifCond .eq 139, 3) := by decide +kernel
theorem dX8_law_41 : decode cX8_law 41 = .ok (.aload_n 0, 1) := by decide +kernel
theorem dX8_law_42 : decode cX8_law 42 = .ok (.aload_n 0, 1) := by decide +kernel
theorem dX8_law_43 : decode cX8_law 43 = .ok (.getfield 100, 3) := by decide +kernel
theorem dX8_law_46 : decode cX8_law 46 = .ok (.iconst 1, 1) := by decide +kernel
theorem dX8_law_47 : decode cX8_law 47 = .ok (.if_icmp .ne 18, 3) := by decide +kernel
theorem dX8_law_50 : decode cX8_law 50 = .ok (.iload_n 2, 1) := by decide +kernel
theorem dX8_law_51 : decode cX8_law 51 = .ok (.aload_n 0, 1) := by decide +kernel
theorem dX8_law_52 : decode cX8_law 52 = .ok (.getfield 107, 3) := by decide +kernel
theorem dX8_law_55 : decode cX8_law 55 = .ok (.ishr, 1) := by decide +kernel
theorem dX8_law_56 : decode cX8_law 56 = .ok (.iconst 1, 1) := by decide +kernel
theorem dX8_law_57 : decode cX8_law 57 = .ok (.iand, 1) := by decide +kernel
theorem dX8_law_58 : decode cX8_law 58 = .ok (.ifCond .ne 7, 3) := by decide +kernel
theorem dX8_law_61 : decode cX8_law 61 = .ok (.iconst 1, 1) := by decide +kernel
theorem dX8_law_62 : decode cX8_law 62 = .ok (.goto 4, 3) := by decide +kernel
theorem dX8_law_65 : decode cX8_law 65 = .ok (.iconst 0, 1) := by decide +kernel
theorem dX8_law_66 : decode cX8_law 66 = .ok (.invokevirtual 120, 3) := by decide +kernel
theorem dX8_law_69 : decode cX8_law 69 = .ok (.istore_n 3, 1) := by decide +kernel
theorem dX8_law_70 : decode cX8_law 70 = .ok (.iload_n 2, 1) := by decide +kernel
theorem dX8_law_71 : decode cX8_law 71 = .ok (.iconst 1, 1) := by decide +kernel
theorem dX8_law_72 : decode cX8_law 72 = .ok (.iload_n 3, 1) := by decide +kernel
theorem dX8_law_73 : decode cX8_law 73 = .ok (.ishl, 1) := by decide +kernel
theorem dX8_law_74 : decode cX8_law 74 = .ok (.ior, 1) := by decide +kernel
theorem dX8_law_75 : decode cX8_law 75 = .ok (.istore_n 2, 1) := by decide +kernel
theorem dX8_law_76 : decode cX8_law 76 = .ok (.iload_n 3, 1) := by decide +kernel
theorem dX8_law_77 : decode cX8_law 77 = .ok (.ifCond .ne 7, 3) := by decide +kernel
theorem dX8_law_80 : decode cX8_law 80 = .ok (.iconst 2, 1) := by decide +kernel
theorem dX8_law_81 : decode cX8_law 81 = .ok (.goto 4, 3) := by decide +kernel
theorem dX8_law_84 : decode cX8_law 84 = .ok (.iconst 0, 1) := by decide +kernel
theorem dX8_law_85 : decode cX8_law 85 = .ok (.istore 4, 2) := by decide +kernel
theorem dX8_law_87 : decode cX8_law 87 = .ok (.iload_n 3, 1) := by decide +kernel
theorem dX8_law_88 : decode cX8_law 88 = .ok (.ifCond .ne 8, 3) := by decide +kernel
theorem dX8_law_91 : decode cX8_law 91 = .ok (.bipush 12, 2) := by decide +kernel
theorem dX8_law_93 : decode cX8_law 93 = .ok (.goto 15, 3) := by decide +kernel
theorem dX8_law_96 : decode cX8_law 96 = .ok (.iload_n 3, 1) := by decide +kernel
theorem dX8_law_97 : decode cX8_law 97 = .ok (.iconst 1, 1) := by decide +kernel
theorem dX8_law_98 : decode cX8_law 98 = .ok (.if_icmp .ne 8, 3) := by decide +kernel
theorem dX8_law_101 : decode cX8_law 101 = .ok (.bipush 6, 2) := by decide +kernel
theorem dX8_law_103 : decode cX8_law 103 = .ok (.goto 5, 3) := by decide +kernel
theorem dX8_law_106 : decode cX8_law 106 = .ok (.bipush 99, 2) := by decide +kernel
theorem dX8_law_108 : decode cX8_law 108 = .ok (.istore 5, 2) := by decide +kernel
theorem dX8_law_110 : decode cX8_law 110 = .ok (.aload_n 0, 1) := by decide +kernel
theorem dX8_law_111 : decode cX8_law 111 = .ok (.aload_n 0, 1) := by decide +kernel
theorem dX8_law_112 : decode cX8_law 112 = .ok (.getfield 100, 3) := by decide +kernel
theorem dX8_law_115 : decode cX8_law 115 = .ok (.iconst 2, 1) := by decide +kernel
theorem dX8_law_116 : decode cX8_law 116 = .ok (.if_icmp .ne 21, 3) := by decide +kernel
theorem dX8_law_119 : decode cX8_law 119 = .ok (.aload_n 0, 1) := by decide +kernel
theorem dX8_law_120 : decode cX8_law 120 = .ok (.getfield 107, 3) := by decide +kernel
theorem dX8_law_123 : decode cX8_law 123 = .ok (.iload 4, 2) := by decide +kernel
theorem dX8_law_125 : decode cX8_law 125 = .ok (.iload 5, 2) := by decide +kernel
theorem dX8_law_127 : decode cX8_law 127 = .ok (.invokestatic 64, 3) := by decide +kernel
theorem dX8_law_130 : decode cX8_law 130 = .ok (.ifCond .eq 7, 3) := by decide +kernel
theorem dX8_law_133 : decode cX8_law 133 = .ok (.iconst 1, 1) := by decide +kernel
theorem dX8_law_134 : decode cX8_law 134 = .ok (.goto 4, 3) := by decide +kernel
theorem dX8_law_137 : decode cX8_law 137 = .ok (.iconst 0, 1) := by decide +kernel
theorem dX8_law_138 : decode cX8_law 138 = .ok (.invokevirtual 120, 3) := by decide +kernel
theorem dX8_law_141 : decode cX8_law 141 = .ok (.istore 6, 2) := by decide +kernel
theorem dX8_law_143 : decode cX8_law 143 = .ok (.aload_n 0, 1) := by decide +kernel
theorem dX8_law_144 : decode cX8_law 144 = .ok (.getfield 20, 3) := by decide +kernel
theorem dX8_law_147 : decode cX8_law 147 = .ok (.iconst 5, 1) := by decide +kernel
theorem dX8_law_148 : decode cX8_law 148 = .ok (.iload_n 3, 1) := by decide +kernel
theorem dX8_law_149 : decode cX8_law 149 = .ok (.iadd, 1) := by decide +kernel
theorem dX8_law_150 : decode cX8_law 150 = .ok (.iload 6, 2) := by decide +kernel
theorem dX8_law_152 : decode cX8_law 152 = .ok (.iastore, 1) := by decide +kernel
theorem dX8_law_153 : decode cX8_law 153 = .ok (.aload_n 0, 1) := by decide +kernel
theorem dX8_law_154 : decode cX8_law 154 = .ok (.aload_n 0, 1) := by decide +kernel
theorem dX8_law_155 : decode cX8_law 155 = .ok (.getfield 100, 3) := by decide +kernel
theorem dX8_law_158 : decode cX8_law 158 = .ok (.iconst 3, 1) := by decide +kernel
theorem dX8_law_159 : decode cX8_law 159 = .ok (.if_icmp .ne 7, 3) := by decide +kernel
theorem dX8_law_162 : decode cX8_law 162 = .ok (.iconst 1, 1) := by decide +kernel
theorem dX8_law_163 : decode cX8_law 163 = .ok (.goto 4, 3) := by decide +kernel
theorem dX8_law_166 : decode cX8_law 166 = .ok (.iconst 0, 1) := by decide +kernel
theorem dX8_law_167 : decode cX8_law 167 = .ok (.invokevirtual 120, 3) := by decide +kernel
theorem dX8_law_170 : decode cX8_law 170 = .ok (.pop, 1) := by decide +kernel
theorem dX8_law_171 : decode cX8_law 171 = .ok (.iinc 1 1, 3) := by decide +kernel
theorem dX8_law_174 : decode cX8_law 174 = .ok (.goto (-147), 3) := by decide +kernel
theorem dX8_law_177 : decode cX8_law 177 = .ok (.aload_n 0, 1) := by decide +kernel
theorem dX8_law_178 : decode cX8_law 178 = .ok (.invokevirtual 113, 3) := by decide +kernel
theorem dX8_law_181 : decode cX8_law 181 = .ok (.ifCond .ne 11, 3) := by decide +kernel
theorem dX8_law_184 : decode cX8_law 184 = .ok (.bipush (-10), 2) := by decide +kernel
theorem dX8_law_186 : decode cX8_law 186 = .ok (.aload_n 0, 1) := by decide +kernel
theorem dX8_law_187 : decode cX8_law 187 = .ok (.getfield 110, 3) := by decide +kernel
theorem dX8_law_190 : decode cX8_law 190 = .ok (.isub, 1) := by decide +kernel
theorem dX8_law_191 : decode cX8_law 191 = .ok (.ireturn, 1) := by decide +kernel
theorem dX8_law_192 : decode cX8_law 192 = .ok (.aload_n 0, 1) := by decide +kernel
theorem dX8_law_193 : decode cX8_law 193 = .ok (.invokevirtual 58, 3) := by decide +kernel
theorem dX8_law_196 : decode cX8_law 196 = .ok (.aload_n 0, 1) := by decide +kernel
theorem dX8_law_197 : decode cX8_law 197 = .ok (.iconst 0, 1) := by decide +kernel
theorem dX8_law_198 : decode cX8_law 198 = .ok (.putfield 76, 3) := by decide +kernel
theorem dX8_law_201 : decode cX8_law 201 = .ok (.iload_n 1, 1) := by decide +kernel
theorem dX8_law_202 : decode cX8_law 202 = .ok (.ireturn, 1) := by decide +kernel
theorem dX8_list_0 : decode cX8_list 0 = .ok (.aload_n 0, 1) := by decide +kernel
theorem dX8_list_1 : decode cX8_list 1 = .ok (.iconst 0, 1) := by decide +kernel
theorem dX8_list_2 : decode cX8_list 2 = .ok (.putfield 61, 3) := by decide +kernel
theorem dX8_list_5 : decode cX8_list 5 = .ok (.iload_n 1, 1) := by decide +kernel
theorem dX8_list_6 : decode cX8_list 6 = .ok (.invokestatic 124, 3) := by decide +kernel
theorem dX8_list_9 : decode cX8_list 9 = .ok (.ifCond .ne 5, 3) := by decide +kernel
theorem dX8_list_12 : decode cX8_list 12 = .ok (.iconst (-1), 1) := by decide +kernel
theorem dX8_list_13 : decode cX8_list 13 = .ok (.ireturn, 1) := by decide +kernel
theorem dX8_list_14 : decode cX8_list 14 = .ok (.iconst 0, 1) := by decide +kernel
theorem dX8_list_15 : decode cX8_list 15 = .ok (.istore_n 2, 1) := by decide +kernel
theorem dX8_list_16 : decode cX8_list 16 = .ok (.iconst 0, 1) := by decide +kernel
theorem dX8_list_17 : decode cX8_list 17 = .ok (.istore_n 3, 1) := by decide +kernel
theorem dX8_list_18 : decode cX8_list 18 = .ok (.iload_n 3, 1) := by decide +kernel
theorem dX8_list_19 : decode cX8_list 19 = .ok (.aload_n 0, 1) := by decide +kernel
theorem dX8_list_20 : decode cX8_list 20 = .ok (.getfield 76, 3) := by decide +kernel
theorem dX8_list_23 : decode cX8_list 23 = .ok (.if_icmp .ge 63, 3) := by decide +kernel
theorem dX8_list_26 : decode cX8_list 26 = .ok (.aload_n 0, 1) := by decide +kernel
theorem dX8_list_27 : decode cX8_list 27 = .ok (.getfield 23, 3) := by decide +kernel
theorem dX8_list_30 : decode cX8_list 30 = .ok (.iload_n 3, 1) := by decide +kernel
theorem dX8_list_31 : decode cX8_list 31 = .ok (.iaload, 1) := by decide +kernel
theorem dX8_list_32 : decode cX8_list 32 = .ok (.istore 4, 2) := by decide +kernel
theorem dX8_list_34 : decode cX8_list 34 = .ok (.iload_n 3, 1) := by decide +kernel
theorem dX8_list_35 : decode cX8_list 35 = .ok (.bipush 12, 2) := by decide +kernel
theorem dX8_list_37 : decode cX8_list 37 = .ok (.if_icmp .eq 28, 3) := by decide +kernel
theorem dX8_list_40 : decode cX8_list 40 = .ok (.iload 4, 2) := by decide +kernel
theorem dX8_list_42 : decode cX8_list 42 = .ok (.bipush 97, 2) := by decide +kernel
theorem dX8_list_44 : decode cX8_list 44 = .ok (.bipush 122, 2) := by decide +kernel
theorem dX8_list_46 : decode cX8_list 46 = .ok (.invokestatic 64, 3) := by decide +kernel
theorem dX8_list_49 : decode cX8_list 49 = .ok (.ifCond .eq 16, 3) := by decide +kernel
theorem dX8_list_52 : decode cX8_list 52 = .ok (.iload_n 2, 1) := by decide +kernel
theorem dX8_list_53 : decode cX8_list 53 = .ok (.iload 4, 2) := by decide +kernel
theorem dX8_list_55 : decode cX8_list 55 = .ok (.bipush 97, 2) := by decide +kernel
theorem dX8_list_57 : decode cX8_list 57 = .ok (.isub, 1) := by decide +kernel
theorem dX8_list_58 : decode cX8_list 58 = .ok (.ishr, 1) := by decide +kernel
theorem dX8_list_59 : decode cX8_list 59 = .ok (.iconst 1, 1) := by decide +kernel
theorem dX8_list_60 : decode cX8_list 60 = .ok (.iand, 1) := by decide +kernel
theorem dX8_list_61 : decode cX8_list 61 = .ok (.iconst 1, 1) := by decide +kernel
theorem dX8_list_62 : decode cX8_list 62 = .ok (.if_icmp .ne 8, 3) := by decide +kernel
theorem dX8_list_65 : decode cX8_list 65 = .ok (.bipush (-10), 2) := by decide +kernel
theorem dX8_list_67 : decode cX8_list 67 = .ok (.iload_n 3, 1) := by decide +kernel
theorem dX8_list_68 : decode cX8_list 68 = .ok (.isub, 1) := by decide +kernel
theorem dX8_list_69 : decode cX8_list 69 = .ok (.ireturn, 1) := by decide +kernel
theorem dX8_list_70 : decode cX8_list 70 = .ok (.iload_n 2, 1) := by decide +kernel
theorem dX8_list_71 : decode cX8_list 71 = .ok (.iconst 1, 1) := by decide +kernel
theorem dX8_list_72 : decode cX8_list 72 = .ok (.iload 4, 2) := by decide +kernel
theorem dX8_list_74 : decode cX8_list 74 = .ok (.bipush 97, 2) := by decide +kernel
theorem dX8_list_76 : decode cX8_list 76 = .ok (.isub, 1) := by decide +kernel
theorem dX8_list_77 : decode cX8_list 77 = .ok (.ishl, 1) := by decide +kernel
theorem dX8_list_78 : decode cX8_list 78 = .ok (.ior, 1) := by decide +kernel
theorem dX8_list_79 : decode cX8_list 79 = .ok (.istore_n 2, 1) := by decide +kernel
theorem dX8_list_80 : decode cX8_list 80 = .ok (.iinc 3 1, 3) := by decide +kernel
theorem dX8_list_83 : decode cX8_list 83 = .ok (.goto (-65), 3) := by decide +kernel
theorem dX8_list_86 : decode cX8_list 86 = .ok (.iconst 0, 1) := by decide +kernel
theorem dX8_list_87 : decode cX8_list 87 = .ok (.istore_n 3, 1) := by decide +kernel
theorem dX8_list_88 : decode cX8_list 88 = .ok (.iload_n 3, 1) := by decide +kernel
theorem dX8_list_89 : decode cX8_list 89 = .ok (.aload_n 0, 1) := by decide +kernel
theorem dX8_list_90 : decode cX8_list 90 = .ok (.getfield 76, 3) := by decide +kernel
theorem dX8_list_93 : decode cX8_list 93 = .ok (.if_icmp .ge 31, 3) := by decide +kernel
theorem dX8_list_96 : decode cX8_list 96 = .ok (.aload_n 0, 1) := by decide +kernel
theorem dX8_list_97 : decode cX8_list 97 = .ok (.getfield 7, 3) := by decide +kernel
theorem dX8_list_100 : decode cX8_list 100 = .ok (.bipush 13, 2) := by decide +kernel
theorem dX8_list_102 : decode cX8_list 102 = .ok (.iload_n 1, 1) := by decide +kernel
theorem dX8_list_103 : decode cX8_list 103 = .ok (.imul, 1) := by decide +kernel
theorem dX8_list_104 : decode cX8_list 104 = .ok (.iconst 1, 1) := by decide +kernel
theorem dX8_list_105 : decode cX8_list 105 = .ok (.iadd, 1) := by decide +kernel
theorem dX8_list_106 : decode cX8_list 106 = .ok (.iload_n 3, 1) := by decide +kernel
theorem dX8_list_107 : decode cX8_list 107 = .ok (.iadd, 1) := by decide +kernel
theorem dX8_list_108 : decode cX8_list 108 = .ok (.aload_n 0, 1) := by decide +kernel
theorem dX8_list_109 : decode cX8_list 109 = .ok (.getfield 23, 3) := by decide +kernel
theorem dX8_list_112 : decode cX8_list 112 = .ok (.iload_n 3, 1) := by decide +kernel
theorem dX8_list_113 : decode cX8_list 113 = .ok (.iaload, 1) := by decide +kernel
theorem dX8_list_114 : decode cX8_list 114 = .ok (.bipush 97, 2) := by decide +kernel
theorem dX8_list_116 : decode cX8_list 116 = .ok (.isub, 1) := by decide +kernel
theorem dX8_list_117 : decode cX8_list 117 = .ok (.iastore, 1) := by decide +kernel
theorem dX8_list_118 : decode cX8_list 118 = .ok (.iinc 3 1, 3) := by decide +kernel
theorem dX8_list_121 : decode cX8_list 121 = .ok (.goto (-33), 3) := by decide +kernel
theorem dX8_list_124 : decode cX8_list 124 = .ok (.aload_n 0, 1) := by decide +kernel
theorem dX8_list_125 : decode cX8_list 125 = .ok (.getfield 7, 3) := by decide +kernel
theorem dX8_list_128 : decode cX8_list 128 = .ok (.bipush 13, 2) := by decide +kernel
theorem dX8_list_130 : decode cX8_list 130 = .ok (.iload_n 1, 1) := by decide +kernel
theorem dX8_list_131 : decode cX8_list 131 = .ok (.imul, 1) := by decide +kernel
theorem dX8_list_132 : decode cX8_list 132 = .ok (.aload_n 0, 1) := by decide +kernel
theorem dX8_list_133 : decode cX8_list 133 = .ok (.getfield 76, 3) := by decide +kernel
theorem dX8_list_136 : decode cX8_list 136 = .ok (.iastore, 1) := by decide +kernel
theorem dX8_list_137 : decode cX8_list 137 = .ok (.aload_n 0, 1) := by decide +kernel
theorem dX8_list_138 : decode cX8_list 138 = .ok (.iconst 0, 1) := by decide +kernel
theorem dX8_list_139 : decode cX8_list 139 = .ok (.putfield 76, 3) := by decide +kernel
theorem dX8_list_142 : decode cX8_list 142 = .ok (.aload_n 0, 1) := by decide +kernel
theorem dX8_list_143 : decode cX8_list 143 = .ok (.iload_n 1, 1) := by decide +kernel
theorem dX8_list_144 : decode cX8_list 144 = .ok (.invokevirtual 68, 3) := by decide +kernel
theorem dX8_list_147 : decode cX8_list 147 = .ok (.ireturn, 1) := by decide +kernel
theorem dX8_told_0 : decode cX8_told 0 = .ok (.aload_n 0, 1) := by decide +kernel
theorem dX8_told_1 : decode cX8_told 1 = .ok (.iconst 0, 1) := by decide +kernel
theorem dX8_told_2 : decode cX8_told 2 = .ok (.putfield 61, 3) := by decide +kernel
theorem dX8_told_5 : decode cX8_told 5 = .ok (.iload_n 1, 1) := by decide +kernel
theorem dX8_told_6 : decode cX8_told 6 = .ok (.iconst 0, 1) := by decide +kernel
theorem dX8_told_7 : decode cX8_told 7 = .ok (.iconst 4, 1) := by decide +kernel
theorem dX8_told_8 : decode cX8_told 8 = .ok (.invokestatic 64, 3) := by decide +kernel
theorem dX8_told_11 : decode cX8_told 11 = .ok (.ifCond .eq 12, 3) := by decide +kernel
theorem dX8_told_14 : decode cX8_told 14 = .ok (.aload_n 0, 1) := by decide +kernel
theorem dX8_told_15 : decode cX8_told 15 = .ok (.getfield 20, 3) := by decide +kernel
theorem dX8_told_18 : decode cX8_told 18 = .ok (.iload_n 1, 1) := by decide +kernel
theorem dX8_told_19 : decode cX8_told 19 = .ok (.iaload, 1) := by decide +kernel
theorem dX8_told_20 : decode cX8_told 20 = .ok (.goto 4, 3) := by decide +kernel
theorem dX8_told_23 : decode cX8_told 23 = .ok (.iconst (-1), 1) := by decide +kernel
theorem dX8_told_24 : decode cX8_told 24 = .ok (.ireturn, 1) := by decide +kernel
theorem dX8_name_0 : decode cX8_name 0 = .ok (.aload_n 0, 1) := by decide +kernel
theorem dX8_name_1 : decode cX8_name 1 = .ok (.iconst 0, 1) := by decide +kernel
theorem dX8_name_2 : decode cX8_name 2 = .ok (.putfield 61, 3) := by decide +kernel
theorem dX8_name_5 : decode cX8_name 5 = .ok (.iload_n 1, 1) := by decide +kernel
theorem dX8_name_6 : decode cX8_name 6 = .ok (.invokestatic 124, 3) := by decide +kernel
theorem dX8_name_9 : decode cX8_name 9 = .ok (.ifCond .eq 18, 3) := by decide +kernel
theorem dX8_name_12 : decode cX8_name 12 = .ok (.iload_n 2, 1) := by decide +kernel
theorem dX8_name_13 : decode cX8_name 13 = .ok (.iconst (-1), 1) := by decide +kernel
theorem dX8_name_14 : decode cX8_name 14 = .ok (.aload_n 0, 1) := by decide +kernel
theorem dX8_name_15 : decode cX8_name 15 = .ok (.iload_n 1, 1) := by decide +kernel
theorem dX8_name_16 : decode cX8_name 16 = .ok (.invokevirtual 68, 3) := by decide +kernel
theorem dX8_name_19 : decode cX8_name 19 = .ok (.iconst 1, 1) := by decide +kernel
theorem dX8_name_20 : decode cX8_name 20 = .ok (.isub, 1) := by decide +kernel
theorem dX8_name_21 : decode cX8_name 21 = .ok (.invokestatic 64, 3) := by decide +kernel
theorem dX8_name_24 : decode cX8_name 24 = .ok (.ifCond .ne 7, 3) := by decide +kernel
theorem dX8_name_27 : decode cX8_name 27 = .ok (.iconst (-1), 1) := by decide +kernel
theorem dX8_name_28 : decode cX8_name 28 = .ok (.goto 21, 3) := by decide +kernel
theorem dX8_name_31 : decode cX8_name 31 = .ok (.iload_n 2, 1) := by decide +kernel
theorem dX8_name_32 : decode cX8_name 32 = .ok (.ifCond .ge 11, 3) := by decide +kernel
theorem dX8_name_35 : decode cX8_name 35 = .ok (.aload_n 0, 1) := by decide +kernel
theorem dX8_name_36 : decode cX8_name 36 = .ok (.iload_n 1, 1) := by decide +kernel
theorem dX8_name_37 : decode cX8_name 37 = .ok (.invokevirtual 68, 3) := by decide +kernel
theorem dX8_name_40 : decode cX8_name 40 = .ok (.goto 9, 3) := by decide +kernel
theorem dX8_name_43 : decode cX8_name 43 = .ok (.aload_n 0, 1) := by decide +kernel
theorem dX8_name_44 : decode cX8_name 44 = .ok (.iload_n 1, 1) := by decide +kernel
theorem dX8_name_45 : decode cX8_name 45 = .ok (.iload_n 2, 1) := by decide +kernel
theorem dX8_name_46 : decode cX8_name 46 = .ok (.invokevirtual 72, 3) := by decide +kernel
theorem dX8_name_49 : decode cX8_name 49 = .ok (.ireturn, 1) := by decide +kernel
theorem dX8_place_0 : decode cX8_place 0 = .ok (.aload_n 0, 1) := by decide +kernel
theorem dX8_place_1 : decode cX8_place 1 = .ok (.iconst 0, 1) := by decide +kernel
theorem dX8_place_2 : decode cX8_place 2 = .ok (.putfield 61, 3) := by decide +kernel
theorem dX8_place_5 : decode cX8_place 5 = .ok (.iload_n 1, 1) := by decide +kernel
theorem dX8_place_6 : decode cX8_place 6 = .ok (.invokestatic 124, 3) := by decide +kernel
theorem dX8_place_9 : decode cX8_place 9 = .ok (.ifCond .eq 19, 3) := by decide +kernel
theorem dX8_place_12 : decode cX8_place 12 = .ok (.iload_n 2, 1) := by decide +kernel
theorem dX8_place_13 : decode cX8_place 13 = .ok (.invokestatic 128, 3) := by decide +kernel
theorem dX8_place_16 : decode cX8_place 16 = .ok (.ifCond .eq 12, 3) := by decide +kernel
theorem dX8_place_19 : decode cX8_place 19 = .ok (.aload_n 0, 1) := by decide +kernel
theorem dX8_place_20 : decode cX8_place 20 = .ok (.iload_n 1, 1) := by decide +kernel
theorem dX8_place_21 : decode cX8_place 21 = .ok (.iload_n 2, 1) := by decide +kernel
theorem dX8_place_22 : decode cX8_place 22 = .ok (.invokevirtual 131, 3) := by decide +kernel
theorem dX8_place_25 : decode cX8_place 25 = .ok (.goto 4, 3) := by decide +kernel
theorem dX8_place_28 : decode cX8_place 28 = .ok (.iconst (-1), 1) := by decide +kernel
theorem dX8_place_29 : decode cX8_place 29 = .ok (.ireturn, 1) := by decide +kernel
theorem dX8_house_0 : decode cX8_house 0 = .ok (.aload_n 0, 1) := by decide +kernel
theorem dX8_house_1 : decode cX8_house 1 = .ok (.iconst 0, 1) := by decide +kernel
theorem dX8_house_2 : decode cX8_house 2 = .ok (.putfield 61, 3) := by decide +kernel
theorem dX8_house_5 : decode cX8_house 5 = .ok (.iload_n 1, 1) := by decide +kernel
theorem dX8_house_6 : decode cX8_house 6 = .ok (.iconst 0, 1) := by decide +kernel
theorem dX8_house_7 : decode cX8_house 7 = .ok (.iconst 5, 1) := by decide +kernel
theorem dX8_house_8 : decode cX8_house 8 = .ok (.invokestatic 64, 3) := by decide +kernel
theorem dX8_house_11 : decode cX8_house 11 = .ok (.ifCond .eq 42, 3) := by decide +kernel
theorem dX8_house_14 : decode cX8_house 14 = .ok (.iload_n 2, 1) := by decide +kernel
theorem dX8_house_15 : decode cX8_house 15 = .ok (.iconst 0, 1) := by decide +kernel
theorem dX8_house_16 : decode cX8_house 16 = .ok (.iconst 1, 1) := by decide +kernel
theorem dX8_house_17 : decode cX8_house 17 = .ok (.invokestatic 64, 3) := by decide +kernel
theorem dX8_house_20 : decode cX8_house 20 = .ok (.ifCond .eq 33, 3) := by decide +kernel
theorem dX8_house_23 : decode cX8_house 23 = .ok (.iload_n 2, 1) := by decide +kernel
theorem dX8_house_24 : decode cX8_house 24 = .ok (.ifCond .ne 16, 3) := by decide +kernel
theorem dX8_house_27 : decode cX8_house 27 = .ok (.iload_n 3, 1) := by decide +kernel
theorem dX8_house_28 : decode cX8_house 28 = .ok (.iconst 0, 1) := by decide +kernel
theorem dX8_house_29 : decode cX8_house 29 = .ok (.bipush 99, 2) := by decide +kernel
theorem dX8_house_31 : decode cX8_house 31 = .ok (.invokestatic 64, 3) := by decide +kernel
theorem dX8_house_34 : decode cX8_house 34 = .ok (.ifCond .ne 21, 3) := by decide +kernel
theorem dX8_house_37 : decode cX8_house 37 = .ok (.goto 16, 3) := by decide +kernel
theorem dX8_house_40 : decode cX8_house 40 = .ok (.iload_n 3, 1) := by decide +kernel
theorem dX8_house_41 : decode cX8_house 41 = .ok (.bipush (-9), 2) := by decide +kernel
theorem dX8_house_43 : decode cX8_house 43 = .ok (.if_icmp .eq 12, 3) := by decide +kernel
theorem dX8_house_46 : decode cX8_house 46 = .ok (.iload_n 3, 1) := by decide +kernel
theorem dX8_house_47 : decode cX8_house 47 = .ok (.invokestatic 128, 3) := by decide +kernel
theorem dX8_house_50 : decode cX8_house 50 = .ok (.ifCond .ne 5, 3) := by decide +kernel
theorem dX8_house_53 : decode cX8_house 53 = .ok (.iconst (-1), 1) := by decide +kernel
theorem dX8_house_54 : decode cX8_house 54 = .ok (.ireturn, 1) := by decide +kernel
theorem dX8_house_55 : decode cX8_house 55 = .ok (.iload_n 2, 1) := by decide +kernel
theorem dX8_house_56 : decode cX8_house 56 = .ok (.ifCond .ne 8, 3) := by decide +kernel
theorem dX8_house_59 : decode cX8_house 59 = .ok (.bipush 52, 2) := by decide +kernel
theorem dX8_house_61 : decode cX8_house 61 = .ok (.goto 5, 3) := by decide +kernel
theorem dX8_house_64 : decode cX8_house 64 = .ok (.bipush 58, 2) := by decide +kernel
theorem dX8_house_66 : decode cX8_house 66 = .ok (.iload_n 1, 1) := by decide +kernel
theorem dX8_house_67 : decode cX8_house 67 = .ok (.iadd, 1) := by decide +kernel
theorem dX8_house_68 : decode cX8_house 68 = .ok (.istore 4, 2) := by decide +kernel
theorem dX8_house_70 : decode cX8_house 70 = .ok (.aload_n 0, 1) := by decide +kernel
theorem dX8_house_71 : decode cX8_house 71 = .ok (.getfield 7, 3) := by decide +kernel
theorem dX8_house_74 : decode cX8_house 74 = .ok (.iload 4, 2) := by decide +kernel
theorem dX8_house_76 : decode cX8_house 76 = .ok (.iaload, 1) := by decide +kernel
theorem dX8_house_77 : decode cX8_house 77 = .ok (.istore 5, 2) := by decide +kernel
theorem dX8_house_79 : decode cX8_house 79 = .ok (.aload_n 0, 1) := by decide +kernel
theorem dX8_house_80 : decode cX8_house 80 = .ok (.getfield 7, 3) := by decide +kernel
theorem dX8_house_83 : decode cX8_house 83 = .ok (.iload 4, 2) := by decide +kernel
theorem dX8_house_85 : decode cX8_house 85 = .ok (.iload_n 3, 1) := by decide +kernel
theorem dX8_house_86 : decode cX8_house 86 = .ok (.iastore, 1) := by decide +kernel
theorem dX8_house_87 : decode cX8_house 87 = .ok (.iload 5, 2) := by decide +kernel
theorem dX8_house_89 : decode cX8_house 89 = .ok (.ireturn, 1) := by decide +kernel
theorem dX8_heldOf_0 : decode cX8_heldOf 0 = .ok (.iconst 0, 1) := by decide +kernel
theorem dX8_heldOf_1 : decode cX8_heldOf 1 = .ok (.istore_n 2, 1) := by decide +kernel
theorem dX8_heldOf_2 : decode cX8_heldOf 2 = .ok (.iconst 0, 1) := by decide +kernel
theorem dX8_heldOf_3 : decode cX8_heldOf 3 = .ok (.istore_n 3, 1) := by decide +kernel
theorem dX8_heldOf_4 : decode cX8_heldOf 4 = .ok (.iload_n 3, 1) := by decide +kernel
theorem dX8_heldOf_5 : decode cX8_heldOf 5 = .ok (.bipush 6, 2) := by decide +kernel
theorem dX8_heldOf_7 : decode cX8_heldOf 7 = .ok (.if_icmp .ge 38, 3) := by decide +kernel
theorem dX8_heldOf_10 : decode cX8_heldOf 10 = .ok (.iload_n 2, 1) := by decide +kernel
theorem dX8_heldOf_11 : decode cX8_heldOf 11 = .ok (.aload_n 0, 1) := by decide +kernel
theorem dX8_heldOf_12 : decode cX8_heldOf 12 = .ok (.getfield 7, 3) := by decide +kernel
theorem dX8_heldOf_15 : decode cX8_heldOf 15 = .ok (.bipush 58, 2) := by decide +kernel
theorem dX8_heldOf_17 : decode cX8_heldOf 17 = .ok (.iload_n 3, 1) := by decide +kernel
theorem dX8_heldOf_18 : decode cX8_heldOf 18 = .ok (.iadd, 1) := by decide +kernel
theorem dX8_heldOf_19 : decode cX8_heldOf 19 = .ok (.iaload, 1) := by decide +kernel
theorem dX8_heldOf_20 : decode cX8_heldOf 20 = .ok (.iload_n 1, 1) := by decide +kernel
theorem dX8_heldOf_21 : decode cX8_heldOf 21 = .ok (.if_icmp .ne 15, 3) := by decide +kernel
theorem dX8_heldOf_24 : decode cX8_heldOf 24 = .ok (.aload_n 0, 1) := by decide +kernel
theorem dX8_heldOf_25 : decode cX8_heldOf 25 = .ok (.getfield 7, 3) := by decide +kernel
theorem dX8_heldOf_28 : decode cX8_heldOf 28 = .ok (.bipush 52, 2) := by decide +kernel
theorem dX8_heldOf_30 : decode cX8_heldOf 30 = .ok (.iload_n 3, 1) := by decide +kernel
theorem dX8_heldOf_31 : decode cX8_heldOf 31 = .ok (.iadd, 1) := by decide +kernel
theorem dX8_heldOf_32 : decode cX8_heldOf 32 = .ok (.iaload, 1) := by decide +kernel
theorem dX8_heldOf_33 : decode cX8_heldOf 33 = .ok (.goto 4, 3) := by decide +kernel
theorem dX8_heldOf_36 : decode cX8_heldOf 36 = .ok (.iconst 0, 1) := by decide +kernel
theorem dX8_heldOf_37 : decode cX8_heldOf 37 = .ok (.iadd, 1) := by decide +kernel
theorem dX8_heldOf_38 : decode cX8_heldOf 38 = .ok (.istore_n 2, 1) := by decide +kernel
theorem dX8_heldOf_39 : decode cX8_heldOf 39 = .ok (.iinc 3 1, 3) := by decide +kernel
theorem dX8_heldOf_42 : decode cX8_heldOf 42 = .ok (.goto (-38), 3) := by decide +kernel
theorem dX8_heldOf_45 : decode cX8_heldOf 45 = .ok (.iload_n 2, 1) := by decide +kernel
theorem dX8_heldOf_46 : decode cX8_heldOf 46 = .ok (.ireturn, 1) := by decide +kernel
theorem dX8_held_0 : decode cX8_held 0 = .ok (.aload_n 0, 1) := by decide +kernel
theorem dX8_held_1 : decode cX8_held 1 = .ok (.iconst 0, 1) := by decide +kernel
theorem dX8_held_2 : decode cX8_held 2 = .ok (.putfield 61, 3) := by decide +kernel
theorem dX8_held_5 : decode cX8_held 5 = .ok (.iload_n 1, 1) := by decide +kernel
theorem dX8_held_6 : decode cX8_held 6 = .ok (.invokestatic 128, 3) := by decide +kernel
theorem dX8_held_9 : decode cX8_held 9 = .ok (.ifCond .eq 11, 3) := by decide +kernel
theorem dX8_held_12 : decode cX8_held 12 = .ok (.aload_n 0, 1) := by decide +kernel
theorem dX8_held_13 : decode cX8_held 13 = .ok (.iload_n 1, 1) := by decide +kernel
theorem dX8_held_14 : decode cX8_held 14 = .ok (.invokevirtual 134, 3) := by decide +kernel
theorem dX8_held_17 : decode cX8_held 17 = .ok (.goto 4, 3) := by decide +kernel
theorem dX8_held_20 : decode cX8_held 20 = .ok (.iconst (-1), 1) := by decide +kernel
theorem dX8_held_21 : decode cX8_held 21 = .ok (.ireturn, 1) := by decide +kernel
theorem dX8_found_0 : decode cX8_found 0 = .ok (.iconst 0, 1) := by decide +kernel
theorem dX8_found_1 : decode cX8_found 1 = .ok (.istore_n 2, 1) := by decide +kernel
theorem dX8_found_2 : decode cX8_found 2 = .ok (.iload_n 2, 1) := by decide +kernel
theorem dX8_found_3 : decode cX8_found 3 = .ok (.aload_n 0, 1) := by decide +kernel
theorem dX8_found_4 : decode cX8_found 4 = .ok (.getfield 137, 3) := by decide +kernel
theorem dX8_found_7 : decode cX8_found 7 = .ok (.if_icmp .ge 21, 3) := by decide +kernel
theorem dX8_found_10 : decode cX8_found 10 = .ok (.aload_n 0, 1) := by decide +kernel
theorem dX8_found_11 : decode cX8_found 11 = .ok (.getfield 33, 3) := by decide +kernel
theorem dX8_found_14 : decode cX8_found 14 = .ok (.iload_n 2, 1) := by decide +kernel
theorem dX8_found_15 : decode cX8_found 15 = .ok (.iaload, 1) := by decide +kernel
theorem dX8_found_16 : decode cX8_found 16 = .ok (.iload_n 1, 1) := by decide +kernel
theorem dX8_found_17 : decode cX8_found 17 = .ok (.if_icmp .ne 5, 3) := by decide +kernel
theorem dX8_found_20 : decode cX8_found 20 = .ok (.iload_n 2, 1) := by decide +kernel
theorem dX8_found_21 : decode cX8_found 21 = .ok (.ireturn, 1) := by decide +kernel
theorem dX8_found_22 : decode cX8_found 22 = .ok (.iinc 2 1, 3) := by decide +kernel
theorem dX8_found_25 : decode cX8_found 25 = .ok (.goto (-23), 3) := by decide +kernel
theorem dX8_found_28 : decode cX8_found 28 = .ok (.bipush (-9), 2) := by decide +kernel
theorem dX8_found_30 : decode cX8_found 30 = .ok (.ireturn, 1) := by decide +kernel
theorem dX8_drops_0 : decode cX8_drops 0 = .ok (.aload_n 0, 1) := by decide +kernel
theorem dX8_drops_1 : decode cX8_drops 1 = .ok (.getfield 36, 3) := by decide +kernel
theorem dX8_drops_4 : decode cX8_drops 4 = .ok (.iconst 2, 1) := by decide +kernel
theorem dX8_drops_5 : decode cX8_drops 5 = .ok (.dup2, 1) := by decide +kernel
theorem dX8_drops_6 : decode cX8_drops 6 = .ok (.iaload, 1) := by decide +kernel
theorem dX8_drops_7 : decode cX8_drops 7 = .ok (.iconst 1, 1) := by decide +kernel
theorem dX8_drops_8 : decode cX8_drops 8 = .ok (.aload_n 0, 1) := by decide +kernel
theorem dX8_drops_9 : decode cX8_drops 9 = .ok (.getfield 33, 3) := by decide +kernel
theorem dX8_drops_12 : decode cX8_drops 12 = .ok (.iload_n 1, 1) := by decide +kernel
theorem dX8_drops_13 : decode cX8_drops 13 = .ok (.iaload, 1) := by decide +kernel
theorem dX8_drops_14 : decode cX8_drops 14 = .ok (.ishl, 1) := by decide +kernel
theorem dX8_drops_15 : decode cX8_drops 15 = .ok (.ior, 1) := by decide +kernel
theorem dX8_drops_16 : decode cX8_drops 16 = .ok (.iastore, 1) := by decide +kernel
theorem dX8_drops_17 : decode cX8_drops 17 = .ok (.aload_n 0, 1) := by decide +kernel
theorem dX8_drops_18 : decode cX8_drops 18 = .ok (.dup, 1) := by decide +kernel
theorem dX8_drops_19 : decode cX8_drops 19 = .ok (.getfield 137, 3) := by decide +kernel
theorem dX8_drops_22 : decode cX8_drops 22 = .ok (.iconst 1, 1) := by decide +kernel
theorem dX8_drops_23 : decode cX8_drops 23 = .ok (.isub, 1) := by decide +kernel
theorem dX8_drops_24 : decode cX8_drops 24 = .ok (.putfield 137, 3) := by decide +kernel
theorem dX8_drops_27 : decode cX8_drops 27 = .ok (.iload_n 1, 1) := by decide +kernel
theorem dX8_drops_28 : decode cX8_drops 28 = .ok (.istore_n 2, 1) := by decide +kernel
theorem dX8_drops_29 : decode cX8_drops 29 = .ok (.iload_n 2, 1) := by decide +kernel
theorem dX8_drops_30 : decode cX8_drops 30 = .ok (.aload_n 0, 1) := by decide +kernel
theorem dX8_drops_31 : decode cX8_drops 31 = .ok (.getfield 137, 3) := by decide +kernel
theorem dX8_drops_34 : decode cX8_drops 34 = .ok (.if_icmp .ge 23, 3) := by decide +kernel
theorem dX8_drops_37 : decode cX8_drops 37 = .ok (.aload_n 0, 1) := by decide +kernel
theorem dX8_drops_38 : decode cX8_drops 38 = .ok (.getfield 33, 3) := by decide +kernel
theorem dX8_drops_41 : decode cX8_drops 41 = .ok (.iload_n 2, 1) := by decide +kernel
theorem dX8_drops_42 : decode cX8_drops 42 = .ok (.aload_n 0, 1) := by decide +kernel
theorem dX8_drops_43 : decode cX8_drops 43 = .ok (.getfield 33, 3) := by decide +kernel
theorem dX8_drops_46 : decode cX8_drops 46 = .ok (.iload_n 2, 1) := by decide +kernel
theorem dX8_drops_47 : decode cX8_drops 47 = .ok (.iconst 1, 1) := by decide +kernel
theorem dX8_drops_48 : decode cX8_drops 48 = .ok (.iadd, 1) := by decide +kernel
theorem dX8_drops_49 : decode cX8_drops 49 = .ok (.iaload, 1) := by decide +kernel
theorem dX8_drops_50 : decode cX8_drops 50 = .ok (.iastore, 1) := by decide +kernel
theorem dX8_drops_51 : decode cX8_drops 51 = .ok (.iinc 2 1, 3) := by decide +kernel
theorem dX8_drops_54 : decode cX8_drops 54 = .ok (.goto (-25), 3) := by decide +kernel
theorem dX8_drops_57 : decode cX8_drops 57 = .ok (.return_, 1) := by decide +kernel
theorem dX8_isWeak_0 : decode cX8_isWeak 0 = .ok (.iconst 0, 1) := by decide +kernel
theorem dX8_isWeak_1 : decode cX8_isWeak 1 = .ok (.istore_n 2, 1) := by decide +kernel
theorem dX8_isWeak_2 : decode cX8_isWeak 2 = .ok (.iconst 0, 1) := by decide +kernel
theorem dX8_isWeak_3 : decode cX8_isWeak 3 = .ok (.istore_n 3, 1) := by decide +kernel
theorem dX8_isWeak_4 : decode cX8_isWeak 4 = .ok (.iconst 0, 1) := by decide +kernel
theorem dX8_isWeak_5 : decode cX8_isWeak 5 = .ok (.istore 4, 2) := by decide +kernel
theorem dX8_isWeak_7 : decode cX8_isWeak 7 = .ok (.iload 4, 2) := by decide +kernel
theorem dX8_isWeak_9 : decode cX8_isWeak 9 = .ok (.bipush 6, 2) := by decide +kernel
theorem dX8_isWeak_11 : decode cX8_isWeak 11 = .ok (.if_icmp .ge 67, 3) := by decide +kernel
theorem dX8_isWeak_14 : decode cX8_isWeak 14 = .ok (.aload_n 0, 1) := by decide +kernel
theorem dX8_isWeak_15 : decode cX8_isWeak 15 = .ok (.getfield 7, 3) := by decide +kernel
theorem dX8_isWeak_18 : decode cX8_isWeak 18 = .ok (.bipush 58, 2) := by decide +kernel
theorem dX8_isWeak_20 : decode cX8_isWeak 20 = .ok (.iload 4, 2) := by decide +kernel
theorem dX8_isWeak_22 : decode cX8_isWeak 22 = .ok (.iadd, 1) := by decide +kernel
theorem dX8_isWeak_23 : decode cX8_isWeak 23 = .ok (.iaload, 1) := by decide +kernel
theorem dX8_isWeak_24 : decode cX8_isWeak 24 = .ok (.iload_n 1, 1) := by decide +kernel
theorem dX8_isWeak_25 : decode cX8_isWeak 25 = .ok (.if_icmp .ne 7, 3) := by decide +kernel
theorem dX8_isWeak_28 : decode cX8_isWeak 28 = .ok (.iconst 1, 1) := by decide +kernel
theorem dX8_isWeak_29 : decode cX8_isWeak 29 = .ok (.goto 4, 3) := by decide +kernel
theorem dX8_isWeak_32 : decode cX8_isWeak 32 = .ok (.iconst 0, 1) := by decide +kernel
theorem dX8_isWeak_33 : decode cX8_isWeak 33 = .ok (.istore 5, 2) := by decide +kernel
theorem dX8_isWeak_35 : decode cX8_isWeak 35 = .ok (.iload_n 2, 1) := by decide +kernel
theorem dX8_isWeak_36 : decode cX8_isWeak 36 = .ok (.iload 5, 2) := by decide +kernel
theorem dX8_isWeak_38 : decode cX8_isWeak 38 = .ok (.ior, 1) := by decide +kernel
theorem dX8_isWeak_39 : decode cX8_isWeak 39 = .ok (.istore_n 2, 1) := by decide +kernel
theorem dX8_isWeak_40 : decode cX8_isWeak 40 = .ok (.iload_n 3, 1) := by decide +kernel
theorem dX8_isWeak_41 : decode cX8_isWeak 41 = .ok (.iload 5, 2) := by decide +kernel
theorem dX8_isWeak_43 : decode cX8_isWeak 43 = .ok (.ifCond .eq 26, 3) := by decide +kernel
theorem dX8_isWeak_46 : decode cX8_isWeak 46 = .ok (.aload_n 0, 1) := by decide +kernel
theorem dX8_isWeak_47 : decode cX8_isWeak 47 = .ok (.getfield 7, 3) := by decide +kernel
theorem dX8_isWeak_50 : decode cX8_isWeak 50 = .ok (.bipush 52, 2) := by decide +kernel
theorem dX8_isWeak_52 : decode cX8_isWeak 52 = .ok (.iload 4, 2) := by decide +kernel
theorem dX8_isWeak_54 : decode cX8_isWeak 54 = .ok (.iadd, 1) := by decide +kernel
theorem dX8_isWeak_55 : decode cX8_isWeak 55 = .ok (.iaload, 1) := by decide +kernel
theorem dX8_isWeak_56 : decode cX8_isWeak 56 = .ok (.aload_n 0, 1) := by decide +kernel
theorem dX8_isWeak_57 : decode cX8_isWeak 57 = .ok (.getfield 20, 3) := by decide +kernel
theorem dX8_isWeak_60 : decode cX8_isWeak 60 = .ok (.iconst 2, 1) := by decide +kernel
theorem dX8_isWeak_61 : decode cX8_isWeak 61 = .ok (.iaload, 1) := by decide +kernel
theorem dX8_isWeak_62 : decode cX8_isWeak 62 = .ok (.if_icmp .lt 7, 3) := by decide +kernel
theorem dX8_isWeak_65 : decode cX8_isWeak 65 = .ok (.iconst 1, 1) := by decide +kernel
theorem dX8_isWeak_66 : decode cX8_isWeak 66 = .ok (.goto 4, 3) := by decide +kernel
theorem dX8_isWeak_69 : decode cX8_isWeak 69 = .ok (.iconst 0, 1) := by decide +kernel
theorem dX8_isWeak_70 : decode cX8_isWeak 70 = .ok (.ior, 1) := by decide +kernel
theorem dX8_isWeak_71 : decode cX8_isWeak 71 = .ok (.istore_n 3, 1) := by decide +kernel
theorem dX8_isWeak_72 : decode cX8_isWeak 72 = .ok (.iinc 4 1, 3) := by decide +kernel
theorem dX8_isWeak_75 : decode cX8_isWeak 75 = .ok (.goto (-68), 3) := by decide +kernel
theorem dX8_isWeak_78 : decode cX8_isWeak 78 = .ok (.iload_n 2, 1) := by decide +kernel
theorem dX8_isWeak_79 : decode cX8_isWeak 79 = .ok (.ifCond .eq 11, 3) := by decide +kernel
theorem dX8_isWeak_82 : decode cX8_isWeak 82 = .ok (.iload_n 3, 1) := by decide +kernel
theorem dX8_isWeak_83 : decode cX8_isWeak 83 = .ok (.ifCond .ne 7, 3) := by decide +kernel
theorem dX8_isWeak_86 : decode cX8_isWeak 86 = .ok (.iconst 1, 1) := by decide +kernel
theorem dX8_isWeak_87 : decode cX8_isWeak 87 = .ok (.goto 4, 3) := by decide +kernel
theorem dX8_isWeak_90 : decode cX8_isWeak 90 = .ok (.iconst 0, 1) := by decide +kernel
theorem dX8_isWeak_91 : decode cX8_isWeak 91 = .ok (.ireturn, 1) := by decide +kernel
theorem dX8_says_0 : decode cX8_says 0 = .ok (.aload_n 0, 1) := by decide +kernel
theorem dX8_says_1 : decode cX8_says 1 = .ok (.getfield 20, 3) := by decide +kernel
theorem dX8_says_4 : decode cX8_says 4 = .ok (.iconst 1, 1) := by decide +kernel
theorem dX8_says_5 : decode cX8_says 5 = .ok (.iaload, 1) := by decide +kernel
theorem dX8_says_6 : decode cX8_says 6 = .ok (.istore_n 3, 1) := by decide +kernel
theorem dX8_says_7 : decode cX8_says 7 = .ok (.aload_n 0, 1) := by decide +kernel
theorem dX8_says_8 : decode cX8_says 8 = .ok (.aload_n 0, 1) := by decide +kernel
theorem dX8_says_9 : decode cX8_says 9 = .ok (.iload_n 1, 1) := by decide +kernel
theorem dX8_says_10 : decode cX8_says 10 = .ok (.invokevirtual 68, 3) := by decide +kernel
theorem dX8_says_13 : decode cX8_says 13 = .ok (.putfield 137, 3) := by decide +kernel
theorem dX8_says_16 : decode cX8_says 16 = .ok (.iconst 0, 1) := by decide +kernel
theorem dX8_says_17 : decode cX8_says 17 = .ok (.istore 4, 2) := by decide +kernel
theorem dX8_says_19 : decode cX8_says 19 = .ok (.iload 4, 2) := by decide +kernel
theorem dX8_says_21 : decode cX8_says 21 = .ok (.aload_n 0, 1) := by decide +kernel
theorem dX8_says_22 : decode cX8_says 22 = .ok (.getfield 137, 3) := by decide +kernel
theorem dX8_says_25 : decode cX8_says 25 = .ok (.if_icmp .ge 23, 3) := by decide +kernel
theorem dX8_says_28 : decode cX8_says 28 = .ok (.aload_n 0, 1) := by decide +kernel
theorem dX8_says_29 : decode cX8_says 29 = .ok (.getfield 33, 3) := by decide +kernel
theorem dX8_says_32 : decode cX8_says 32 = .ok (.iload 4, 2) := by decide +kernel
theorem dX8_says_34 : decode cX8_says 34 = .ok (.aload_n 0, 1) := by decide +kernel
theorem dX8_says_35 : decode cX8_says 35 = .ok (.iload_n 1, 1) := by decide +kernel
theorem dX8_says_36 : decode cX8_says 36 = .ok (.iload 4, 2) := by decide +kernel
theorem dX8_says_38 : decode cX8_says 38 = .ok (.invokevirtual 72, 3) := by decide +kernel
theorem dX8_says_41 : decode cX8_says 41 = .ok (.iastore, 1) := by decide +kernel
theorem dX8_says_42 : decode cX8_says 42 = .ok (.iinc 4 1, 3) := by decide +kernel
theorem dX8_says_45 : decode cX8_says 45 = .ok (.goto (-26), 3) := by decide +kernel
theorem dX8_says_48 : decode cX8_says 48 = .ok (.iconst 0, 1) := by decide +kernel
theorem dX8_says_49 : decode cX8_says 49 = .ok (.istore 4, 2) := by decide +kernel
theorem dX8_says_51 : decode cX8_says 51 = .ok (.iload 4, 2) := by decide +kernel
theorem dX8_says_53 : decode cX8_says 53 = .ok (.iconst 3, 1) := by decide +kernel
theorem dX8_says_54 : decode cX8_says 54 = .ok (.if_icmp .ge 17, 3) := by decide +kernel
theorem dX8_says_57 : decode cX8_says 57 = .ok (.aload_n 0, 1) := by decide +kernel
theorem dX8_says_58 : decode cX8_says 58 = .ok (.getfield 36, 3) := by decide +kernel
theorem dX8_says_61 : decode cX8_says 61 = .ok (.iload 4, 2) := by decide +kernel
theorem dX8_says_63 : decode cX8_says 63 = .ok (.iconst 0, 1) := by decide +kernel
theorem dX8_says_64 : decode cX8_says 64 = .ok (.iastore, 1) := by decide +kernel
theorem dX8_says_65 : decode cX8_says 65 = .ok (.iinc 4 1, 3) := by decide +kernel
theorem dX8_says_68 : decode cX8_says 68 = .ok (.goto (-17), 3) := by decide +kernel
theorem dX8_says_71 : decode cX8_says 71 = .ok (.iconst 0, 1) := by decide +kernel
theorem dX8_says_72 : decode cX8_says 72 = .ok (.istore 4, 2) := by decide +kernel
theorem dX8_says_74 : decode cX8_says 74 = .ok (.iload 4, 2) := by decide +kernel
theorem dX8_says_76 : decode cX8_says 76 = .ok (.bipush 6, 2) := by decide +kernel
theorem dX8_says_78 : decode cX8_says 78 = .ok (.if_icmp .ge 149, 3) := by decide +kernel
theorem dX8_says_81 : decode cX8_says 81 = .ok (.aload_n 0, 1) := by decide +kernel
theorem dX8_says_82 : decode cX8_says 82 = .ok (.getfield 7, 3) := by decide +kernel
theorem dX8_says_85 : decode cX8_says 85 = .ok (.bipush 58, 2) := by decide +kernel
theorem dX8_says_87 : decode cX8_says 87 = .ok (.iload 4, 2) := by decide +kernel
theorem dX8_says_89 : decode cX8_says 89 = .ok (.iadd, 1) := by decide +kernel
theorem dX8_says_90 : decode cX8_says 90 = .ok (.iaload, 1) := by decide +kernel
theorem dX8_says_91 : decode cX8_says 91 = .ok (.istore 5, 2) := by decide +kernel
theorem dX8_says_93 : decode cX8_says 93 = .ok (.iload 5, 2) := by decide +kernel
theorem dX8_says_95 : decode cX8_says 95 = .ok (.bipush (-9), 2) := by decide +kernel
theorem dX8_says_97 : decode cX8_says 97 = .ok (.if_icmp .eq 124, 3) := by decide +kernel
theorem dX8_says_100 : decode cX8_says 100 = .ok (.iload 5, 2) := by decide +kernel
theorem dX8_says_102 : decode cX8_says 102 = .ok (.iload_n 2, 1) := by decide +kernel
theorem dX8_says_103 : decode cX8_says 103 = .ok (.if_icmp .eq 118, 3) := by decide +kernel
theorem dX8_says_106 : decode cX8_says 106 = .ok (.aload_n 0, 1) := by decide +kernel
theorem dX8_says_107 : decode cX8_says 107 = .ok (.getfield 7, 3) := by decide +kernel
theorem dX8_says_110 : decode cX8_says 110 = .ok (.bipush 52, 2) := by decide +kernel
theorem dX8_says_112 : decode cX8_says 112 = .ok (.iload 4, 2) := by decide +kernel
theorem dX8_says_114 : decode cX8_says 114 = .ok (.iadd, 1) := by decide +kernel
theorem dX8_says_115 : decode cX8_says 115 = .ok (.iaload, 1) := by decide +kernel
theorem dX8_says_116 : decode cX8_says 116 = .ok (.aload_n 0, 1) := by decide +kernel
theorem dX8_says_117 : decode cX8_says 117 = .ok (.getfield 20, 3) := by decide +kernel
theorem dX8_says_120 : decode cX8_says 120 = .ok (.iconst 3, 1) := by decide +kernel
theorem dX8_says_121 : decode cX8_says 121 = .ok (.iaload, 1) := by decide +kernel
theorem dX8_says_122 : decode cX8_says 122 = .ok (.if_icmp .lt 99, 3) := by decide +kernel
theorem dX8_says_125 : decode cX8_says 125 = .ok (.aload_n 0, 1) := by decide +kernel
theorem dX8_says_126 : decode cX8_says 126 = .ok (.iload 5, 2) := by decide +kernel
theorem dX8_says_128 : decode cX8_says 128 = .ok (.invokevirtual 140, 3) := by decide +kernel
theorem dX8_says_131 : decode cX8_says 131 = .ok (.bipush (-9), 2) := by decide +kernel
theorem dX8_says_133 : decode cX8_says 133 = .ok (.if_icmp .ne 88, 3) := by decide +kernel
theorem dX8_says_136 : decode cX8_says 136 = .ok (.iload_n 3, 1) := by decide +kernel
theorem dX8_says_137 : decode cX8_says 137 = .ok (.aload_n 0, 1) := by decide +kernel
theorem dX8_says_138 : decode cX8_says 138 = .ok (.getfield 137, 3) := by decide +kernel
theorem dX8_says_141 : decode cX8_says 141 = .ok (.if_icmp .ge 7, 3) := by decide +kernel
theorem dX8_says_144 : decode cX8_says 144 = .ok (.iload_n 3, 1) := by decide +kernel
theorem dX8_says_145 : decode cX8_says 145 = .ok (.goto 7, 3) := by decide +kernel
theorem dX8_says_148 : decode cX8_says 148 = .ok (.aload_n 0, 1) := by decide +kernel
theorem dX8_says_149 : decode cX8_says 149 = .ok (.getfield 137, 3) := by decide +kernel
theorem dX8_says_152 : decode cX8_says 152 = .ok (.istore 6, 2) := by decide +kernel
theorem dX8_says_154 : decode cX8_says 154 = .ok (.aload_n 0, 1) := by decide +kernel
theorem dX8_says_155 : decode cX8_says 155 = .ok (.getfield 137, 3) := by decide +kernel
theorem dX8_says_158 : decode cX8_says 158 = .ok (.istore 7, 2) := by decide +kernel
theorem dX8_says_160 : decode cX8_says 160 = .ok (.iload 7, 2) := by decide +kernel
theorem dX8_says_162 : decode cX8_says 162 = .ok (.iload 6, 2) := by decide +kernel
theorem dX8_says_164 : decode cX8_says 164 = .ok (.if_icmp .le 25, 3) := by decide +kernel
theorem dX8_says_167 : decode cX8_says 167 = .ok (.aload_n 0, 1) := by decide +kernel
theorem dX8_says_168 : decode cX8_says 168 = .ok (.getfield 33, 3) := by decide +kernel
theorem dX8_says_171 : decode cX8_says 171 = .ok (.iload 7, 2) := by decide +kernel
theorem dX8_says_173 : decode cX8_says 173 = .ok (.aload_n 0, 1) := by decide +kernel
theorem dX8_says_174 : decode cX8_says 174 = .ok (.getfield 33, 3) := by decide +kernel
theorem dX8_says_177 : decode cX8_says 177 = .ok (.iload 7, 2) := by decide +kernel
theorem dX8_says_179 : decode cX8_says 179 = .ok (.iconst 1, 1) := by decide +kernel
theorem dX8_says_180 : decode cX8_says 180 = .ok (.isub, 1) := by decide +kernel
theorem dX8_says_181 : decode cX8_says 181 = .ok (.iaload, 1) := by decide +kernel
theorem dX8_says_182 : decode cX8_says 182 = .ok (.iastore, 1) := by decide +kernel
theorem dX8_says_183 : decode cX8_says 183 = .ok (.iinc 7 (-1), 3) := by decide +kernel
theorem dX8_says_186 : decode cX8_says 186 = .ok (.goto (-26), 3) := by decide +kernel
theorem dX8_says_189 : decode cX8_says 189 = .ok (.aload_n 0, 1) := by decide +kernel
theorem dX8_says_190 : decode cX8_says 190 = .ok (.getfield 33, 3) := by decide +kernel
theorem dX8_says_193 : decode cX8_says 193 = .ok (.iload 6, 2) := by decide +kernel
theorem dX8_says_195 : decode cX8_says 195 = .ok (.iload 5, 2) := by decide +kernel
theorem dX8_says_197 : decode cX8_says 197 = .ok (.iastore, 1) := by decide +kernel
theorem dX8_says_198 : decode cX8_says 198 = .ok (.aload_n 0, 1) := by decide +kernel
theorem dX8_says_199 : decode cX8_says 199 = .ok (.dup, 1) := by decide +kernel
theorem dX8_says_200 : decode cX8_says 200 = .ok (.getfield 137, 3) := by decide +kernel
theorem dX8_says_203 : decode cX8_says 203 = .ok (.iconst 1, 1) := by decide +kernel
theorem dX8_says_204 : decode cX8_says 204 = .ok (.iadd, 1) := by decide +kernel
theorem dX8_says_205 : decode cX8_says 205 = .ok (.putfield 137, 3) := by decide +kernel
theorem dX8_says_208 : decode cX8_says 208 = .ok (.aload_n 0, 1) := by decide +kernel
theorem dX8_says_209 : decode cX8_says 209 = .ok (.getfield 36, 3) := by decide +kernel
theorem dX8_says_212 : decode cX8_says 212 = .ok (.iconst 0, 1) := by decide +kernel
theorem dX8_says_213 : decode cX8_says 213 = .ok (.dup2, 1) := by decide +kernel
theorem dX8_says_214 : decode cX8_says 214 = .ok (.iaload, 1) := by decide +kernel
theorem dX8_says_215 : decode cX8_says 215 = .ok (.iconst 1, 1) := by decide +kernel
theorem dX8_says_216 : decode cX8_says 216 = .ok (.iload 5, 2) := by decide +kernel
theorem dX8_says_218 : decode cX8_says 218 = .ok (.ishl, 1) := by decide +kernel
theorem dX8_says_219 : decode cX8_says 219 = .ok (.ior, 1) := by decide +kernel
theorem dX8_says_220 : decode cX8_says 220 = .ok (.iastore, 1) := by decide +kernel
theorem dX8_says_221 : decode cX8_says 221 = .ok (.iinc 4 1, 3) := by decide +kernel
theorem dX8_says_224 : decode cX8_says 224 = .ok (.goto (-150), 3) := by decide +kernel
theorem dX8_says_227 : decode cX8_says 227 = .ok (.iconst 0, 1) := by decide +kernel
theorem dX8_says_228 : decode cX8_says 228 = .ok (.istore 4, 2) := by decide +kernel
theorem dX8_says_230 : decode cX8_says 230 = .ok (.iload 4, 2) := by decide +kernel
theorem dX8_says_232 : decode cX8_says 232 = .ok (.bipush 6, 2) := by decide +kernel
theorem dX8_says_234 : decode cX8_says 234 = .ok (.if_icmp .ge 106, 3) := by decide +kernel
theorem dX8_says_237 : decode cX8_says 237 = .ok (.aload_n 0, 1) := by decide +kernel
theorem dX8_says_238 : decode cX8_says 238 = .ok (.getfield 7, 3) := by decide +kernel
theorem dX8_says_241 : decode cX8_says 241 = .ok (.bipush 58, 2) := by decide +kernel
theorem dX8_says_243 : decode cX8_says 243 = .ok (.iload 4, 2) := by decide +kernel
theorem dX8_says_245 : decode cX8_says 245 = .ok (.iadd, 1) := by decide +kernel
theorem dX8_says_246 : decode cX8_says 246 = .ok (.iaload, 1) := by decide +kernel
theorem dX8_says_247 : decode cX8_says 247 = .ok (.istore 5, 2) := by decide +kernel
theorem dX8_says_249 : decode cX8_says 249 = .ok (.iload 5, 2) := by decide +kernel
theorem dX8_says_251 : decode cX8_says 251 = .ok (.bipush (-9), 2) := by decide +kernel
theorem dX8_says_253 : decode cX8_says 253 = .ok (.if_icmp .ne 8, 3) := by decide +kernel
theorem dX8_says_256 : decode cX8_says 256 = .ok (.bipush (-9), 2) := by decide +kernel
theorem dX8_says_258 : decode cX8_says 258 = .ok (.goto 9, 3) := by decide +kernel
theorem dX8_says_261 : decode cX8_says 261 = .ok (.aload_n 0, 1) := by decide +kernel
theorem dX8_says_262 : decode cX8_says 262 = .ok (.iload 5, 2) := by decide +kernel
theorem dX8_says_264 : decode cX8_says 264 = .ok (.invokevirtual 140, 3) := by decide +kernel
theorem dX8_says_267 : decode cX8_says 267 = .ok (.istore 6, 2) := by decide +kernel
theorem dX8_says_269 : decode cX8_says 269 = .ok (.iload 6, 2) := by decide +kernel
theorem dX8_says_271 : decode cX8_says 271 = .ok (.iload_n 3, 1) := by decide +kernel
theorem dX8_says_272 : decode cX8_says 272 = .ok (.if_icmp .le 62, 3) := by decide +kernel
theorem dX8_says_275 : decode cX8_says 275 = .ok (.aload_n 0, 1) := by decide +kernel
theorem dX8_says_276 : decode cX8_says 276 = .ok (.getfield 7, 3) := by decide +kernel
theorem dX8_says_279 : decode cX8_says 279 = .ok (.bipush 52, 2) := by decide +kernel
theorem dX8_says_281 : decode cX8_says 281 = .ok (.iload 4, 2) := by decide +kernel
theorem dX8_says_283 : decode cX8_says 283 = .ok (.iadd, 1) := by decide +kernel
theorem dX8_says_284 : decode cX8_says 284 = .ok (.iaload, 1) := by decide +kernel
theorem dX8_says_285 : decode cX8_says 285 = .ok (.aload_n 0, 1) := by decide +kernel
theorem dX8_says_286 : decode cX8_says 286 = .ok (.getfield 20, 3) := by decide +kernel
theorem dX8_says_289 : decode cX8_says 289 = .ok (.iconst 4, 1) := by decide +kernel
theorem dX8_says_290 : decode cX8_says 290 = .ok (.iaload, 1) := by decide +kernel
theorem dX8_says_291 : decode cX8_says 291 = .ok (.if_icmp .lt 43, 3) := by decide +kernel
theorem dX8_says_294 : decode cX8_says 294 = .ok (.aload_n 0, 1) := by decide +kernel
theorem dX8_says_295 : decode cX8_says 295 = .ok (.getfield 33, 3) := by decide +kernel
theorem dX8_says_298 : decode cX8_says 298 = .ok (.iload 6, 2) := by decide +kernel
theorem dX8_says_300 : decode cX8_says 300 = .ok (.aload_n 0, 1) := by decide +kernel
theorem dX8_says_301 : decode cX8_says 301 = .ok (.getfield 33, 3) := by decide +kernel
theorem dX8_says_304 : decode cX8_says 304 = .ok (.iload 6, 2) := by decide +kernel
theorem dX8_says_306 : decode cX8_says 306 = .ok (.iconst 1, 1) := by decide +kernel
theorem dX8_says_307 : decode cX8_says 307 = .ok (.isub, 1) := by decide +kernel
theorem dX8_says_308 : decode cX8_says 308 = .ok (.iaload, 1) := by decide +kernel
theorem dX8_says_309 : decode cX8_says 309 = .ok (.iastore, 1) := by decide +kernel
theorem dX8_says_310 : decode cX8_says 310 = .ok (.aload_n 0, 1) := by decide +kernel
theorem dX8_says_311 : decode cX8_says 311 = .ok (.getfield 33, 3) := by decide +kernel
theorem dX8_says_314 : decode cX8_says 314 = .ok (.iload 6, 2) := by decide +kernel
theorem dX8_says_316 : decode cX8_says 316 = .ok (.iconst 1, 1) := by decide +kernel
theorem dX8_says_317 : decode cX8_says 317 = .ok (.isub, 1) := by decide +kernel
theorem dX8_says_318 : decode cX8_says 318 = .ok (.iload 5, 2) := by decide +kernel
theorem dX8_says_320 : decode cX8_says 320 = .ok (.iastore, 1) := by decide +kernel
theorem dX8_says_321 : decode cX8_says 321 = .ok (.aload_n 0, 1) := by decide +kernel
theorem dX8_says_322 : decode cX8_says 322 = .ok (.getfield 36, 3) := by decide +kernel
theorem dX8_says_325 : decode cX8_says 325 = .ok (.iconst 1, 1) := by decide +kernel
theorem dX8_says_326 : decode cX8_says 326 = .ok (.dup2, 1) := by decide +kernel
theorem dX8_says_327 : decode cX8_says 327 = .ok (.iaload, 1) := by decide +kernel
theorem dX8_says_328 : decode cX8_says 328 = .ok (.iconst 1, 1) := by decide +kernel
theorem dX8_says_329 : decode cX8_says 329 = .ok (.iload 5, 2) := by decide +kernel
theorem dX8_says_331 : decode cX8_says 331 = .ok (.ishl, 1) := by decide +kernel
theorem dX8_says_332 : decode cX8_says 332 = .ok (.ior, 1) := by decide +kernel
theorem dX8_says_333 : decode cX8_says 333 = .ok (.iastore, 1) := by decide +kernel
theorem dX8_says_334 : decode cX8_says 334 = .ok (.iinc 4 1, 3) := by decide +kernel
theorem dX8_says_337 : decode cX8_says 337 = .ok (.goto (-107), 3) := by decide +kernel
theorem dX8_says_340 : decode cX8_says 340 = .ok (.aload_n 0, 1) := by decide +kernel
theorem dX8_says_341 : decode cX8_says 341 = .ok (.getfield 137, 3) := by decide +kernel
theorem dX8_says_344 : decode cX8_says 344 = .ok (.iconst 1, 1) := by decide +kernel
theorem dX8_says_345 : decode cX8_says 345 = .ok (.isub, 1) := by decide +kernel
theorem dX8_says_346 : decode cX8_says 346 = .ok (.istore 4, 2) := by decide +kernel
theorem dX8_says_348 : decode cX8_says 348 = .ok (.iload 4, 2) := by decide +kernel
theorem dX8_says_350 : decode cX8_says 350 = .ok (.iload_n 3, 1) := by decide +kernel
theorem dX8_says_351 : decode cX8_says 351 = .ok (.if_icmp .lt 29, 3) := by decide +kernel
theorem dX8_says_354 : decode cX8_says 354 = .ok (.aload_n 0, 1) := by decide +kernel
theorem dX8_says_355 : decode cX8_says 355 = .ok (.aload_n 0, 1) := by decide +kernel
theorem dX8_says_356 : decode cX8_says 356 = .ok (.getfield 33, 3) := by decide +kernel
theorem dX8_says_359 : decode cX8_says 359 = .ok (.iload 4, 2) := by decide +kernel
theorem dX8_says_361 : decode cX8_says 361 = .ok (.iaload, 1) := by decide +kernel
theorem dX8_says_362 : decode cX8_says 362 = .ok (.invokevirtual 143, 3) := by decide +kernel
theorem dX8_says_365 : decode cX8_says 365 = .ok (.ifCond .eq 9, 3) := by decide +kernel
theorem dX8_says_368 : decode cX8_says 368 = .ok (.aload_n 0, 1) := by decide +kernel
theorem dX8_says_369 : decode cX8_says 369 = .ok (.iload 4, 2) := by decide +kernel
theorem dX8_says_371 : decode cX8_says 371 = .ok (.invokevirtual 146, 3) := by decide +kernel
theorem dX8_says_374 : decode cX8_says 374 = .ok (.iinc 4 (-1), 3) := by decide +kernel
theorem dX8_says_377 : decode cX8_says 377 = .ok (.goto (-29), 3) := by decide +kernel
theorem dX8_says_380 : decode cX8_says 380 = .ok (.iload_n 2, 1) := by decide +kernel
theorem dX8_says_381 : decode cX8_says 381 = .ok (.bipush (-9), 2) := by decide +kernel
theorem dX8_says_383 : decode cX8_says 383 = .ok (.if_icmp .eq 23, 3) := by decide +kernel
theorem dX8_says_386 : decode cX8_says 386 = .ok (.aload_n 0, 1) := by decide +kernel
theorem dX8_says_387 : decode cX8_says 387 = .ok (.getfield 33, 3) := by decide +kernel
theorem dX8_says_390 : decode cX8_says 390 = .ok (.aload_n 0, 1) := by decide +kernel
theorem dX8_says_391 : decode cX8_says 391 = .ok (.getfield 137, 3) := by decide +kernel
theorem dX8_says_394 : decode cX8_says 394 = .ok (.iload_n 2, 1) := by decide +kernel
theorem dX8_says_395 : decode cX8_says 395 = .ok (.iastore, 1) := by decide +kernel
theorem dX8_says_396 : decode cX8_says 396 = .ok (.aload_n 0, 1) := by decide +kernel
theorem dX8_says_397 : decode cX8_says 397 = .ok (.dup, 1) := by decide +kernel
theorem dX8_says_398 : decode cX8_says 398 = .ok (.getfield 137, 3) := by decide +kernel
theorem dX8_says_401 : decode cX8_says 401 = .ok (.iconst 1, 1) := by decide +kernel
theorem dX8_says_402 : decode cX8_says 402 = .ok (.iadd, 1) := by decide +kernel
theorem dX8_says_403 : decode cX8_says 403 = .ok (.putfield 137, 3) := by decide +kernel
theorem dX8_says_406 : decode cX8_says 406 = .ok (.iconst 1, 1) := by decide +kernel
theorem dX8_says_407 : decode cX8_says 407 = .ok (.istore 4, 2) := by decide +kernel
theorem dX8_says_409 : decode cX8_says 409 = .ok (.iload 4, 2) := by decide +kernel
theorem dX8_says_411 : decode cX8_says 411 = .ok (.ifCond .eq 109, 3) := by decide +kernel
theorem dX8_says_414 : decode cX8_says 414 = .ok (.aload_n 0, 1) := by decide +kernel
theorem dX8_says_415 : decode cX8_says 415 = .ok (.getfield 137, 3) := by decide +kernel
theorem dX8_says_418 : decode cX8_says 418 = .ok (.aload_n 0, 1) := by decide +kernel
theorem dX8_says_419 : decode cX8_says 419 = .ok (.getfield 20, 3) := by decide +kernel
theorem dX8_says_422 : decode cX8_says 422 = .ok (.iconst 0, 1) := by decide +kernel
theorem dX8_says_423 : decode cX8_says 423 = .ok (.iaload, 1) := by decide +kernel
theorem dX8_says_424 : decode cX8_says 424 = .ok (.if_icmp .le 96, 3) := by decide +kernel
theorem dX8_says_427 : decode cX8_says 427 = .ok (.bipush (-9), 2) := by decide +kernel
theorem dX8_says_429 : decode cX8_says 429 = .ok (.istore 5, 2) := by decide +kernel
theorem dX8_says_431 : decode cX8_says 431 = .ok (.iload_n 3, 1) := by decide +kernel
theorem dX8_says_432 : decode cX8_says 432 = .ok (.istore 6, 2) := by decide +kernel
theorem dX8_says_434 : decode cX8_says 434 = .ok (.iload 6, 2) := by decide +kernel
theorem dX8_says_436 : decode cX8_says 436 = .ok (.aload_n 0, 1) := by decide +kernel
theorem dX8_says_437 : decode cX8_says 437 = .ok (.getfield 137, 3) := by decide +kernel
theorem dX8_says_440 : decode cX8_says 440 = .ok (.iconst 1, 1) := by decide +kernel
theorem dX8_says_441 : decode cX8_says 441 = .ok (.isub, 1) := by decide +kernel
theorem dX8_says_442 : decode cX8_says 442 = .ok (.if_icmp .ge 50, 3) := by decide +kernel
theorem dX8_says_445 : decode cX8_says 445 = .ok (.iload 5, 2) := by decide +kernel
theorem dX8_says_447 : decode cX8_says 447 = .ok (.bipush (-9), 2) := by decide +kernel
theorem dX8_says_449 : decode cX8_says 449 = .ok (.if_icmp .eq 28, 3) := by decide +kernel
theorem dX8_says_452 : decode cX8_says 452 = .ok (.aload_n 0, 1) := by decide +kernel
theorem dX8_says_453 : decode cX8_says 453 = .ok (.aload_n 0, 1) := by decide +kernel
theorem dX8_says_454 : decode cX8_says 454 = .ok (.getfield 33, 3) := by decide +kernel
theorem dX8_says_457 : decode cX8_says 457 = .ok (.iload 6, 2) := by decide +kernel
theorem dX8_says_459 : decode cX8_says 459 = .ok (.iaload, 1) := by decide +kernel
theorem dX8_says_460 : decode cX8_says 460 = .ok (.invokevirtual 134, 3) := by decide +kernel
theorem dX8_says_463 : decode cX8_says 463 = .ok (.aload_n 0, 1) := by decide +kernel
theorem dX8_says_464 : decode cX8_says 464 = .ok (.aload_n 0, 1) := by decide +kernel
theorem dX8_says_465 : decode cX8_says 465 = .ok (.getfield 33, 3) := by decide +kernel
theorem dX8_says_468 : decode cX8_says 468 = .ok (.iload 5, 2) := by decide +kernel
theorem dX8_says_470 : decode cX8_says 470 = .ok (.iaload, 1) := by decide +kernel
theorem dX8_says_471 : decode cX8_says 471 = .ok (.invokevirtual 134, 3) := by decide +kernel
theorem dX8_says_474 : decode cX8_says 474 = .ok (.if_icmp .ge 8, 3) := by decide +kernel
theorem dX8_says_477 : decode cX8_says 477 = .ok (.iload 6, 2) := by decide +kernel
theorem dX8_says_479 : decode cX8_says 479 = .ok (.goto 5, 3) := by decide +kernel
theorem dX8_says_482 : decode cX8_says 482 = .ok (.iload 5, 2) := by decide +kernel
theorem dX8_says_484 : decode cX8_says 484 = .ok (.istore 5, 2) := by decide +kernel
theorem dX8_says_486 : decode cX8_says 486 = .ok (.iinc 6 1, 3) := by decide +kernel
theorem dX8_says_489 : decode cX8_says 489 = .ok (.goto (-55), 3) := by decide +kernel
theorem dX8_says_492 : decode cX8_says 492 = .ok (.iload 5, 2) := by decide +kernel
theorem dX8_says_494 : decode cX8_says 494 = .ok (.bipush (-9), 2) := by decide +kernel
theorem dX8_says_496 : decode cX8_says 496 = .ok (.if_icmp .eq 7, 3) := by decide +kernel
theorem dX8_says_499 : decode cX8_says 499 = .ok (.iconst 1, 1) := by decide +kernel
theorem dX8_says_500 : decode cX8_says 500 = .ok (.goto 4, 3) := by decide +kernel
theorem dX8_says_503 : decode cX8_says 503 = .ok (.iconst 0, 1) := by decide +kernel
theorem dX8_says_504 : decode cX8_says 504 = .ok (.istore 4, 2) := by decide +kernel
theorem dX8_says_506 : decode cX8_says 506 = .ok (.iload 4, 2) := by decide +kernel
theorem dX8_says_508 : decode cX8_says 508 = .ok (.ifCond .eq 9, 3) := by decide +kernel
theorem dX8_says_511 : decode cX8_says 511 = .ok (.aload_n 0, 1) := by decide +kernel
theorem dX8_says_512 : decode cX8_says 512 = .ok (.iload 5, 2) := by decide +kernel
theorem dX8_says_514 : decode cX8_says 514 = .ok (.invokevirtual 146, 3) := by decide +kernel
theorem dX8_says_517 : decode cX8_says 517 = .ok (.goto (-108), 3) := by decide +kernel
theorem dX8_says_520 : decode cX8_says 520 = .ok (.return_, 1) := by decide +kernel
theorem dX8_say_0 : decode cX8_say 0 = .ok (.aload_n 0, 1) := by decide +kernel
theorem dX8_say_1 : decode cX8_say 1 = .ok (.iconst 0, 1) := by decide +kernel
theorem dX8_say_2 : decode cX8_say 2 = .ok (.putfield 61, 3) := by decide +kernel
theorem dX8_say_5 : decode cX8_say 5 = .ok (.iload_n 1, 1) := by decide +kernel
theorem dX8_say_6 : decode cX8_say 6 = .ok (.invokestatic 124, 3) := by decide +kernel
theorem dX8_say_9 : decode cX8_say 9 = .ok (.ifCond .eq 16, 3) := by decide +kernel
theorem dX8_say_12 : decode cX8_say 12 = .ok (.iload_n 2, 1) := by decide +kernel
theorem dX8_say_13 : decode cX8_say 13 = .ok (.bipush (-9), 2) := by decide +kernel
theorem dX8_say_15 : decode cX8_say 15 = .ok (.if_icmp .eq 12, 3) := by decide +kernel
theorem dX8_say_18 : decode cX8_say 18 = .ok (.iload_n 2, 1) := by decide +kernel
theorem dX8_say_19 : decode cX8_say 19 = .ok (.invokestatic 128, 3) := by decide +kernel
theorem dX8_say_22 : decode cX8_say 22 = .ok (.ifCond .ne 5, 3) := by decide +kernel
theorem dX8_say_25 : decode cX8_say 25 = .ok (.iconst (-1), 1) := by decide +kernel
theorem dX8_say_26 : decode cX8_say 26 = .ok (.ireturn, 1) := by decide +kernel
theorem dX8_say_27 : decode cX8_say 27 = .ok (.iload_n 2, 1) := by decide +kernel
theorem dX8_say_28 : decode cX8_say 28 = .ok (.bipush (-9), 2) := by decide +kernel
theorem dX8_say_30 : decode cX8_say 30 = .ok (.if_icmp .eq 17, 3) := by decide +kernel
theorem dX8_say_33 : decode cX8_say 33 = .ok (.aload_n 0, 1) := by decide +kernel
theorem dX8_say_34 : decode cX8_say 34 = .ok (.iload_n 1, 1) := by decide +kernel
theorem dX8_say_35 : decode cX8_say 35 = .ok (.iload_n 2, 1) := by decide +kernel
theorem dX8_say_36 : decode cX8_say 36 = .ok (.invokevirtual 131, 3) := by decide +kernel
theorem dX8_say_39 : decode cX8_say 39 = .ok (.bipush (-9), 2) := by decide +kernel
theorem dX8_say_41 : decode cX8_say 41 = .ok (.if_icmp .eq 6, 3) := by decide +kernel
theorem dX8_say_44 : decode cX8_say 44 = .ok (.bipush (-2), 2) := by decide +kernel
theorem dX8_say_46 : decode cX8_say 46 = .ok (.ireturn, 1) := by decide +kernel
theorem dX8_say_47 : decode cX8_say 47 = .ok (.aload_n 0, 1) := by decide +kernel
theorem dX8_say_48 : decode cX8_say 48 = .ok (.iload_n 1, 1) := by decide +kernel
theorem dX8_say_49 : decode cX8_say 49 = .ok (.iload_n 2, 1) := by decide +kernel
theorem dX8_say_50 : decode cX8_say 50 = .ok (.invokevirtual 150, 3) := by decide +kernel
theorem dX8_say_53 : decode cX8_say 53 = .ok (.aload_n 0, 1) := by decide +kernel
theorem dX8_say_54 : decode cX8_say 54 = .ok (.getfield 7, 3) := by decide +kernel
theorem dX8_say_57 : decode cX8_say 57 = .ok (.bipush 13, 2) := by decide +kernel
theorem dX8_say_59 : decode cX8_say 59 = .ok (.iload_n 1, 1) := by decide +kernel
theorem dX8_say_60 : decode cX8_say 60 = .ok (.imul, 1) := by decide +kernel
theorem dX8_say_61 : decode cX8_say 61 = .ok (.aload_n 0, 1) := by decide +kernel
theorem dX8_say_62 : decode cX8_say 62 = .ok (.getfield 137, 3) := by decide +kernel
theorem dX8_say_65 : decode cX8_say 65 = .ok (.iastore, 1) := by decide +kernel
theorem dX8_say_66 : decode cX8_say 66 = .ok (.iconst 0, 1) := by decide +kernel
theorem dX8_say_67 : decode cX8_say 67 = .ok (.istore_n 3, 1) := by decide +kernel
theorem dX8_say_68 : decode cX8_say 68 = .ok (.iload_n 3, 1) := by decide +kernel
theorem dX8_say_69 : decode cX8_say 69 = .ok (.aload_n 0, 1) := by decide +kernel
theorem dX8_say_70 : decode cX8_say 70 = .ok (.getfield 137, 3) := by decide +kernel
theorem dX8_say_73 : decode cX8_say 73 = .ok (.if_icmp .ge 28, 3) := by decide +kernel
theorem dX8_say_76 : decode cX8_say 76 = .ok (.aload_n 0, 1) := by decide +kernel
theorem dX8_say_77 : decode cX8_say 77 = .ok (.getfield 7, 3) := by decide +kernel
theorem dX8_say_80 : decode cX8_say 80 = .ok (.bipush 13, 2) := by decide +kernel
theorem dX8_say_82 : decode cX8_say 82 = .ok (.iload_n 1, 1) := by decide +kernel
theorem dX8_say_83 : decode cX8_say 83 = .ok (.imul, 1) := by decide +kernel
theorem dX8_say_84 : decode cX8_say 84 = .ok (.iconst 1, 1) := by decide +kernel
theorem dX8_say_85 : decode cX8_say 85 = .ok (.iadd, 1) := by decide +kernel
theorem dX8_say_86 : decode cX8_say 86 = .ok (.iload_n 3, 1) := by decide +kernel
theorem dX8_say_87 : decode cX8_say 87 = .ok (.iadd, 1) := by decide +kernel
theorem dX8_say_88 : decode cX8_say 88 = .ok (.aload_n 0, 1) := by decide +kernel
theorem dX8_say_89 : decode cX8_say 89 = .ok (.getfield 33, 3) := by decide +kernel
theorem dX8_say_92 : decode cX8_say 92 = .ok (.iload_n 3, 1) := by decide +kernel
theorem dX8_say_93 : decode cX8_say 93 = .ok (.iaload, 1) := by decide +kernel
theorem dX8_say_94 : decode cX8_say 94 = .ok (.iastore, 1) := by decide +kernel
theorem dX8_say_95 : decode cX8_say 95 = .ok (.iinc 3 1, 3) := by decide +kernel
theorem dX8_say_98 : decode cX8_say 98 = .ok (.goto (-30), 3) := by decide +kernel
theorem dX8_say_101 : decode cX8_say 101 = .ok (.iconst 0, 1) := by decide +kernel
theorem dX8_say_102 : decode cX8_say 102 = .ok (.istore_n 3, 1) := by decide +kernel
theorem dX8_say_103 : decode cX8_say 103 = .ok (.iload_n 3, 1) := by decide +kernel
theorem dX8_say_104 : decode cX8_say 104 = .ok (.iconst 3, 1) := by decide +kernel
theorem dX8_say_105 : decode cX8_say 105 = .ok (.if_icmp .ge 21, 3) := by decide +kernel
theorem dX8_say_108 : decode cX8_say 108 = .ok (.aload_n 0, 1) := by decide +kernel
theorem dX8_say_109 : decode cX8_say 109 = .ok (.getfield 39, 3) := by decide +kernel
theorem dX8_say_112 : decode cX8_say 112 = .ok (.iload_n 3, 1) := by decide +kernel
theorem dX8_say_113 : decode cX8_say 113 = .ok (.aload_n 0, 1) := by decide +kernel
theorem dX8_say_114 : decode cX8_say 114 = .ok (.getfield 36, 3) := by decide +kernel
theorem dX8_say_117 : decode cX8_say 117 = .ok (.iload_n 3, 1) := by decide +kernel
theorem dX8_say_118 : decode cX8_say 118 = .ok (.iaload, 1) := by decide +kernel
theorem dX8_say_119 : decode cX8_say 119 = .ok (.iastore, 1) := by decide +kernel
theorem dX8_say_120 : decode cX8_say 120 = .ok (.iinc 3 1, 3) := by decide +kernel
theorem dX8_say_123 : decode cX8_say 123 = .ok (.goto (-20), 3) := by decide +kernel
theorem dX8_say_126 : decode cX8_say 126 = .ok (.aload_n 0, 1) := by decide +kernel
theorem dX8_say_127 : decode cX8_say 127 = .ok (.getfield 137, 3) := by decide +kernel
theorem dX8_say_130 : decode cX8_say 130 = .ok (.ireturn, 1) := by decide +kernel
theorem dX8_said_0 : decode cX8_said 0 = .ok (.aload_n 0, 1) := by decide +kernel
theorem dX8_said_1 : decode cX8_said 1 = .ok (.iconst 0, 1) := by decide +kernel
theorem dX8_said_2 : decode cX8_said 2 = .ok (.putfield 61, 3) := by decide +kernel
theorem dX8_said_5 : decode cX8_said 5 = .ok (.iload_n 1, 1) := by decide +kernel
theorem dX8_said_6 : decode cX8_said 6 = .ok (.iconst 0, 1) := by decide +kernel
theorem dX8_said_7 : decode cX8_said 7 = .ok (.iconst 2, 1) := by decide +kernel
theorem dX8_said_8 : decode cX8_said 8 = .ok (.invokestatic 64, 3) := by decide +kernel
theorem dX8_said_11 : decode cX8_said 11 = .ok (.ifCond .eq 12, 3) := by decide +kernel
theorem dX8_said_14 : decode cX8_said 14 = .ok (.aload_n 0, 1) := by decide +kernel
theorem dX8_said_15 : decode cX8_said 15 = .ok (.getfield 39, 3) := by decide +kernel
theorem dX8_said_18 : decode cX8_said 18 = .ok (.iload_n 1, 1) := by decide +kernel
theorem dX8_said_19 : decode cX8_said 19 = .ok (.iaload, 1) := by decide +kernel
theorem dX8_said_20 : decode cX8_said 20 = .ok (.goto 4, 3) := by decide +kernel
theorem dX8_said_23 : decode cX8_said 23 = .ok (.iconst (-1), 1) := by decide +kernel
theorem dX8_said_24 : decode cX8_said 24 = .ok (.ireturn, 1) := by decide +kernel
theorem dX8_foretold_0 : decode cX8_foretold 0 = .ok (.aload_n 0, 1) := by decide +kernel
theorem dX8_foretold_1 : decode cX8_foretold 1 = .ok (.iconst 0, 1) := by decide +kernel
theorem dX8_foretold_2 : decode cX8_foretold 2 = .ok (.putfield 61, 3) := by decide +kernel
theorem dX8_foretold_5 : decode cX8_foretold 5 = .ok (.iload_n 1, 1) := by decide +kernel
theorem dX8_foretold_6 : decode cX8_foretold 6 = .ok (.invokestatic 124, 3) := by decide +kernel
theorem dX8_foretold_9 : decode cX8_foretold 9 = .ok (.ifCond .eq 32, 3) := by decide +kernel
theorem dX8_foretold_12 : decode cX8_foretold 12 = .ok (.iload_n 2, 1) := by decide +kernel
theorem dX8_foretold_13 : decode cX8_foretold 13 = .ok (.iconst 0, 1) := by decide +kernel
theorem dX8_foretold_14 : decode cX8_foretold 14 = .ok (.iconst 5, 1) := by decide +kernel
theorem dX8_foretold_15 : decode cX8_foretold 15 = .ok (.invokestatic 64, 3) := by decide +kernel
theorem dX8_foretold_18 : decode cX8_foretold 18 = .ok (.ifCond .eq 23, 3) := by decide +kernel
theorem dX8_foretold_21 : decode cX8_foretold 21 = .ok (.iload_n 3, 1) := by decide +kernel
theorem dX8_foretold_22 : decode cX8_foretold 22 = .ok (.iconst 0, 1) := by decide +kernel
theorem dX8_foretold_23 : decode cX8_foretold 23 = .ok (.bipush 99, 2) := by decide +kernel
theorem dX8_foretold_25 : decode cX8_foretold 25 = .ok (.invokestatic 64, 3) := by decide +kernel
theorem dX8_foretold_28 : decode cX8_foretold 28 = .ok (.ifCond .eq 13, 3) := by decide +kernel
theorem dX8_foretold_31 : decode cX8_foretold 31 = .ok (.iload 4, 2) := by decide +kernel
theorem dX8_foretold_33 : decode cX8_foretold 33 = .ok (.iconst 0, 1) := by decide +kernel
theorem dX8_foretold_34 : decode cX8_foretold 34 = .ok (.iconst 2, 1) := by decide +kernel
theorem dX8_foretold_35 : decode cX8_foretold 35 = .ok (.invokestatic 64, 3) := by decide +kernel
theorem dX8_foretold_38 : decode cX8_foretold 38 = .ok (.ifCond .ne 5, 3) := by decide +kernel
theorem dX8_foretold_41 : decode cX8_foretold 41 = .ok (.iconst (-1), 1) := by decide +kernel
theorem dX8_foretold_42 : decode cX8_foretold 42 = .ok (.ireturn, 1) := by decide +kernel
theorem dX8_foretold_43 : decode cX8_foretold 43 = .ok (.aload_n 0, 1) := by decide +kernel
theorem dX8_foretold_44 : decode cX8_foretold 44 = .ok (.getfield 7, 3) := by decide +kernel
theorem dX8_foretold_47 : decode cX8_foretold 47 = .ok (.bipush 52, 2) := by decide +kernel
theorem dX8_foretold_49 : decode cX8_foretold 49 = .ok (.iload_n 2, 1) := by decide +kernel
theorem dX8_foretold_50 : decode cX8_foretold 50 = .ok (.iadd, 1) := by decide +kernel
theorem dX8_foretold_51 : decode cX8_foretold 51 = .ok (.iaload, 1) := by decide +kernel
theorem dX8_foretold_52 : decode cX8_foretold 52 = .ok (.istore 5, 2) := by decide +kernel
theorem dX8_foretold_54 : decode cX8_foretold 54 = .ok (.aload_n 0, 1) := by decide +kernel
theorem dX8_foretold_55 : decode cX8_foretold 55 = .ok (.getfield 7, 3) := by decide +kernel
theorem dX8_foretold_58 : decode cX8_foretold 58 = .ok (.bipush 52, 2) := by decide +kernel
theorem dX8_foretold_60 : decode cX8_foretold 60 = .ok (.iload_n 2, 1) := by decide +kernel
theorem dX8_foretold_61 : decode cX8_foretold 61 = .ok (.iadd, 1) := by decide +kernel
theorem dX8_foretold_62 : decode cX8_foretold 62 = .ok (.iload_n 3, 1) := by decide +kernel
theorem dX8_foretold_63 : decode cX8_foretold 63 = .ok (.iastore, 1) := by decide +kernel
theorem dX8_foretold_64 : decode cX8_foretold 64 = .ok (.aload_n 0, 1) := by decide +kernel
theorem dX8_foretold_65 : decode cX8_foretold 65 = .ok (.iload_n 1, 1) := by decide +kernel
theorem dX8_foretold_66 : decode cX8_foretold 66 = .ok (.bipush (-9), 2) := by decide +kernel
theorem dX8_foretold_68 : decode cX8_foretold 68 = .ok (.invokevirtual 150, 3) := by decide +kernel
theorem dX8_foretold_71 : decode cX8_foretold 71 = .ok (.aload_n 0, 1) := by decide +kernel
theorem dX8_foretold_72 : decode cX8_foretold 72 = .ok (.getfield 7, 3) := by decide +kernel
theorem dX8_foretold_75 : decode cX8_foretold 75 = .ok (.bipush 52, 2) := by decide +kernel
theorem dX8_foretold_77 : decode cX8_foretold 77 = .ok (.iload_n 2, 1) := by decide +kernel
theorem dX8_foretold_78 : decode cX8_foretold 78 = .ok (.iadd, 1) := by decide +kernel
theorem dX8_foretold_79 : decode cX8_foretold 79 = .ok (.iload 5, 2) := by decide +kernel
theorem dX8_foretold_81 : decode cX8_foretold 81 = .ok (.iastore, 1) := by decide +kernel
theorem dX8_foretold_82 : decode cX8_foretold 82 = .ok (.aload_n 0, 1) := by decide +kernel
theorem dX8_foretold_83 : decode cX8_foretold 83 = .ok (.getfield 36, 3) := by decide +kernel
theorem dX8_foretold_86 : decode cX8_foretold 86 = .ok (.iload 4, 2) := by decide +kernel
theorem dX8_foretold_88 : decode cX8_foretold 88 = .ok (.iaload, 1) := by decide +kernel
theorem dX8_foretold_89 : decode cX8_foretold 89 = .ok (.ireturn, 1) := by decide +kernel
theorem dX8_setOf_0 : decode cX8_setOf 0 = .ok (.iconst 0, 1) := by decide +kernel
theorem dX8_setOf_1 : decode cX8_setOf 1 = .ok (.istore_n 2, 1) := by decide +kernel
theorem dX8_setOf_2 : decode cX8_setOf 2 = .ok (.iconst 0, 1) := by decide +kernel
theorem dX8_setOf_3 : decode cX8_setOf 3 = .ok (.istore_n 3, 1) := by decide +kernel
theorem dX8_setOf_4 : decode cX8_setOf 4 = .ok (.iload_n 3, 1) := by decide +kernel
theorem dX8_setOf_5 : decode cX8_setOf 5 = .ok (.aload_n 0, 1) := by decide +kernel
theorem dX8_setOf_6 : decode cX8_setOf 6 = .ok (.iload_n 1, 1) := by decide +kernel
theorem dX8_setOf_7 : decode cX8_setOf 7 = .ok (.invokevirtual 68, 3) := by decide +kernel
theorem dX8_setOf_10 : decode cX8_setOf 10 = .ok (.if_icmp .ge 20, 3) := by decide +kernel
theorem dX8_setOf_13 : decode cX8_setOf 13 = .ok (.iload_n 2, 1) := by decide +kernel
theorem dX8_setOf_14 : decode cX8_setOf 14 = .ok (.iconst 1, 1) := by decide +kernel
theorem dX8_setOf_15 : decode cX8_setOf 15 = .ok (.aload_n 0, 1) := by decide +kernel
theorem dX8_setOf_16 : decode cX8_setOf 16 = .ok (.iload_n 1, 1) := by decide +kernel
theorem dX8_setOf_17 : decode cX8_setOf 17 = .ok (.iload_n 3, 1) := by decide +kernel
theorem dX8_setOf_18 : decode cX8_setOf 18 = .ok (.invokevirtual 72, 3) := by decide +kernel
theorem dX8_setOf_21 : decode cX8_setOf 21 = .ok (.ishl, 1) := by decide +kernel
theorem dX8_setOf_22 : decode cX8_setOf 22 = .ok (.ior, 1) := by decide +kernel
theorem dX8_setOf_23 : decode cX8_setOf 23 = .ok (.istore_n 2, 1) := by decide +kernel
theorem dX8_setOf_24 : decode cX8_setOf 24 = .ok (.iinc 3 1, 3) := by decide +kernel
theorem dX8_setOf_27 : decode cX8_setOf 27 = .ok (.goto (-23), 3) := by decide +kernel
theorem dX8_setOf_30 : decode cX8_setOf 30 = .ok (.iload_n 2, 1) := by decide +kernel
theorem dX8_setOf_31 : decode cX8_setOf 31 = .ok (.ireturn, 1) := by decide +kernel
theorem dX8_ones_0 : decode cX8_ones 0 = .ok (.iconst 0, 1) := by decide +kernel
theorem dX8_ones_1 : decode cX8_ones 1 = .ok (.istore_n 1, 1) := by decide +kernel
theorem dX8_ones_2 : decode cX8_ones 2 = .ok (.iconst 0, 1) := by decide +kernel
theorem dX8_ones_3 : decode cX8_ones 3 = .ok (.istore_n 2, 1) := by decide +kernel
theorem dX8_ones_4 : decode cX8_ones 4 = .ok (.iload_n 2, 1) := by decide +kernel
theorem dX8_ones_5 : decode cX8_ones 5 = .ok (.bipush 26, 2) := by decide +kernel
theorem dX8_ones_7 : decode cX8_ones 7 = .ok (.if_icmp .ge 17, 3) := by decide +kernel
theorem dX8_ones_10 : decode cX8_ones 10 = .ok (.iload_n 1, 1) := by decide +kernel
theorem dX8_ones_11 : decode cX8_ones 11 = .ok (.iload_n 0, 1) := by decide +kernel
theorem dX8_ones_12 : decode cX8_ones 12 = .ok (.iload_n 2, 1) := by decide +kernel
theorem dX8_ones_13 : decode cX8_ones 13 = .ok (.ishr, 1) := by decide +kernel
theorem dX8_ones_14 : decode cX8_ones 14 = .ok (.iconst 1, 1) := by decide +kernel
theorem dX8_ones_15 : decode cX8_ones 15 = .ok (.iand, 1) := by decide +kernel
theorem dX8_ones_16 : decode cX8_ones 16 = .ok (.iadd, 1) := by decide +kernel
theorem dX8_ones_17 : decode cX8_ones 17 = .ok (.istore_n 1, 1) := by decide +kernel
theorem dX8_ones_18 : decode cX8_ones 18 = .ok (.iinc 2 1, 3) := by decide +kernel
theorem dX8_ones_21 : decode cX8_ones 21 = .ok (.goto (-17), 3) := by decide +kernel
theorem dX8_ones_24 : decode cX8_ones 24 = .ok (.iload_n 1, 1) := by decide +kernel
theorem dX8_ones_25 : decode cX8_ones 25 = .ok (.ireturn, 1) := by decide +kernel
theorem dX8_longest_0 : decode cX8_longest 0 = .ok (.iconst 0, 1) := by decide +kernel
theorem dX8_longest_1 : decode cX8_longest 1 = .ok (.istore_n 3, 1) := by decide +kernel
theorem dX8_longest_2 : decode cX8_longest 2 = .ok (.iload_n 3, 1) := by decide +kernel
theorem dX8_longest_3 : decode cX8_longest 3 = .ok (.sipush 169, 3) := by decide +kernel
theorem dX8_longest_6 : decode cX8_longest 6 = .ok (.if_icmp .ge 16, 3) := by decide +kernel
theorem dX8_longest_9 : decode cX8_longest 9 = .ok (.aload_n 0, 1) := by decide +kernel
theorem dX8_longest_10 : decode cX8_longest 10 = .ok (.getfield 52, 3) := by decide +kernel
theorem dX8_longest_13 : decode cX8_longest 13 = .ok (.iload_n 3, 1) := by decide +kernel
theorem dX8_longest_14 : decode cX8_longest 14 = .ok (.iconst 0, 1) := by decide +kernel
theorem dX8_longest_15 : decode cX8_longest 15 = .ok (.iastore, 1) := by decide +kernel
theorem dX8_longest_16 : decode cX8_longest 16 = .ok (.iinc 3 1, 3) := by decide +kernel
theorem dX8_longest_19 : decode cX8_longest 19 = .ok (.goto (-17), 3) := by decide +kernel
theorem dX8_longest_22 : decode cX8_longest 22 = .ok (.iconst 1, 1) := by decide +kernel
theorem dX8_longest_23 : decode cX8_longest 23 = .ok (.istore_n 3, 1) := by decide +kernel
theorem dX8_longest_24 : decode cX8_longest 24 = .ok (.iload_n 3, 1) := by decide +kernel
theorem dX8_longest_25 : decode cX8_longest 25 = .ok (.aload_n 0, 1) := by decide +kernel
theorem dX8_longest_26 : decode cX8_longest 26 = .ok (.iload_n 1, 1) := by decide +kernel
theorem dX8_longest_27 : decode cX8_longest 27 = .ok (.invokevirtual 68, 3) := by decide +kernel
theorem dX8_longest_30 : decode cX8_longest 30 = .ok (.if_icmp .gt 147, 3) := by decide +kernel
theorem dX8_longest_33 : decode cX8_longest 33 = .ok (.iconst 1, 1) := by decide +kernel
theorem dX8_longest_34 : decode cX8_longest 34 = .ok (.istore 4, 2) := by decide +kernel
theorem dX8_longest_36 : decode cX8_longest 36 = .ok (.iload 4, 2) := by decide +kernel
theorem dX8_longest_38 : decode cX8_longest 38 = .ok (.aload_n 0, 1) := by decide +kernel
theorem dX8_longest_39 : decode cX8_longest 39 = .ok (.iload_n 2, 1) := by decide +kernel
theorem dX8_longest_40 : decode cX8_longest 40 = .ok (.invokevirtual 68, 3) := by decide +kernel
theorem dX8_longest_43 : decode cX8_longest 43 = .ok (.if_icmp .gt 128, 3) := by decide +kernel
theorem dX8_longest_46 : decode cX8_longest 46 = .ok (.aload_n 0, 1) := by decide +kernel
theorem dX8_longest_47 : decode cX8_longest 47 = .ok (.getfield 52, 3) := by decide +kernel
theorem dX8_longest_50 : decode cX8_longest 50 = .ok (.bipush 13, 2) := by decide +kernel
theorem dX8_longest_52 : decode cX8_longest 52 = .ok (.iload_n 3, 1) := by decide +kernel
theorem dX8_longest_53 : decode cX8_longest 53 = .ok (.iconst 1, 1) := by decide +kernel
theorem dX8_longest_54 : decode cX8_longest 54 = .ok (.isub, 1) := by decide +kernel
theorem dX8_longest_55 : decode cX8_longest 55 = .ok (.imul, 1) := by decide +kernel
theorem dX8_longest_56 : decode cX8_longest 56 = .ok (.iload 4, 2) := by decide +kernel
theorem dX8_longest_58 : decode cX8_longest 58 = .ok (.iadd, 1) := by decide +kernel
theorem dX8_longest_59 : decode cX8_longest 59 = .ok (.iaload, 1) := by decide +kernel
theorem dX8_longest_60 : decode cX8_longest 60 = .ok (.aload_n 0, 1) := by decide +kernel
theorem dX8_longest_61 : decode cX8_longest 61 = .ok (.getfield 52, 3) := by decide +kernel
theorem dX8_longest_64 : decode cX8_longest 64 = .ok (.bipush 13, 2) := by decide +kernel
theorem dX8_longest_66 : decode cX8_longest 66 = .ok (.iload_n 3, 1) := by decide +kernel
theorem dX8_longest_67 : decode cX8_longest 67 = .ok (.imul, 1) := by decide +kernel
theorem dX8_longest_68 : decode cX8_longest 68 = .ok (.iload 4, 2) := by decide +kernel
theorem dX8_longest_70 : decode cX8_longest 70 = .ok (.iadd, 1) := by decide +kernel
theorem dX8_longest_71 : decode cX8_longest 71 = .ok (.iconst 1, 1) := by decide +kernel
theorem dX8_longest_72 : decode cX8_longest 72 = .ok (.isub, 1) := by decide +kernel
theorem dX8_longest_73 : decode cX8_longest 73 = .ok (.iaload, 1) := by decide +kernel
theorem dX8_longest_74 : decode cX8_longest 74 = .ok (.if_icmp .le 20, 3) := by decide +kernel
theorem dX8_longest_77 : decode cX8_longest 77 = .ok (.aload_n 0, 1) := by decide +kernel
theorem dX8_longest_78 : decode cX8_longest 78 = .ok (.getfield 52, 3) := by decide +kernel
theorem dX8_longest_81 : decode cX8_longest 81 = .ok (.bipush 13, 2) := by decide +kernel
theorem dX8_longest_83 : decode cX8_longest 83 = .ok (.iload_n 3, 1) := by decide +kernel
theorem dX8_longest_84 : decode cX8_longest 84 = .ok (.iconst 1, 1) := by decide +kernel
theorem dX8_longest_85 : decode cX8_longest 85 = .ok (.isub, 1) := by decide +kernel
theorem dX8_longest_86 : decode cX8_longest 86 = .ok (.imul, 1) := by decide +kernel
theorem dX8_longest_87 : decode cX8_longest 87 = .ok (.iload 4, 2) := by decide +kernel
theorem dX8_longest_89 : decode cX8_longest 89 = .ok (.iadd, 1) := by decide +kernel
theorem dX8_longest_90 : decode cX8_longest 90 = .ok (.iaload, 1) := by decide +kernel
theorem dX8_longest_91 : decode cX8_longest 91 = .ok (.goto 17, 3) := by decide +kernel
theorem dX8_longest_94 : decode cX8_longest 94 = .ok (.aload_n 0, 1) := by decide +kernel
theorem dX8_longest_95 : decode cX8_longest 95 = .ok (.getfield 52, 3) := by decide +kernel
theorem dX8_longest_98 : decode cX8_longest 98 = .ok (.bipush 13, 2) := by decide +kernel
theorem dX8_longest_100 : decode cX8_longest 100 = .ok (.iload_n 3, 1) := by decide +kernel
theorem dX8_longest_101 : decode cX8_longest 101 = .ok (.imul, 1) := by decide +kernel
theorem dX8_longest_102 : decode cX8_longest 102 = .ok (.iload 4, 2) := by decide +kernel
theorem dX8_longest_104 : decode cX8_longest 104 = .ok (.iadd, 1) := by decide +kernel
theorem dX8_longest_105 : decode cX8_longest 105 = .ok (.iconst 1, 1) := by decide +kernel
theorem dX8_longest_106 : decode cX8_longest 106 = .ok (.isub, 1) := by decide +kernel
theorem dX8_longest_107 : decode cX8_longest 107 = .ok (.iaload, 1) := by decide +kernel
theorem dX8_longest_108 : decode cX8_longest 108 = .ok (.istore 5, 2) := by decide +kernel
theorem dX8_longest_110 : decode cX8_longest 110 = .ok (.aload_n 0, 1) := by decide +kernel
theorem dX8_longest_111 : decode cX8_longest 111 = .ok (.getfield 52, 3) := by decide +kernel
theorem dX8_longest_114 : decode cX8_longest 114 = .ok (.bipush 13, 2) := by decide +kernel
theorem dX8_longest_116 : decode cX8_longest 116 = .ok (.iload_n 3, 1) := by decide +kernel
theorem dX8_longest_117 : decode cX8_longest 117 = .ok (.imul, 1) := by decide +kernel
theorem dX8_longest_118 : decode cX8_longest 118 = .ok (.iload 4, 2) := by decide +kernel
theorem dX8_longest_120 : decode cX8_longest 120 = .ok (.iadd, 1) := by decide +kernel
theorem dX8_longest_121 : decode cX8_longest 121 = .ok (.aload_n 0, 1) := by decide +kernel
theorem dX8_longest_122 : decode cX8_longest 122 = .ok (.iload_n 1, 1) := by decide +kernel
theorem dX8_longest_123 : decode cX8_longest 123 = .ok (.iload_n 3, 1) := by decide +kernel
theorem dX8_longest_124 : decode cX8_longest 124 = .ok (.iconst 1, 1) := by decide +kernel
theorem dX8_longest_125 : decode cX8_longest 125 = .ok (.isub, 1) := by decide +kernel
theorem dX8_longest_126 : decode cX8_longest 126 = .ok (.invokevirtual 72, 3) := by decide +kernel
theorem dX8_longest_129 : decode cX8_longest 129 = .ok (.aload_n 0, 1) := by decide +kernel
theorem dX8_longest_130 : decode cX8_longest 130 = .ok (.iload_n 2, 1) := by decide +kernel
theorem dX8_longest_131 : decode cX8_longest 131 = .ok (.iload 4, 2) := by decide +kernel
theorem dX8_longest_133 : decode cX8_longest 133 = .ok (.iconst 1, 1) := by decide +kernel
theorem dX8_longest_134 : decode cX8_longest 134 = .ok (.isub, 1) := by decide +kernel
theorem dX8_longest_135 : decode cX8_longest 135 = .ok (.invokevirtual 72, 3) := by decide +kernel
theorem dX8_longest_138 : decode cX8_longest 138 = .ok (.if_icmp .ne 24, 3) := by decide +kernel
theorem dX8_longest_141 : decode cX8_longest 141 = .ok (.aload_n 0, 1) := by decide +kernel
theorem dX8_longest_142 : decode cX8_longest 142 = .ok (.getfield 52, 3) := by decide +kernel
theorem dX8_longest_145 : decode cX8_longest 145 = .ok (.bipush 13, 2) := by decide +kernel
theorem dX8_longest_147 : decode cX8_longest 147 = .ok (.iload_n 3, 1) := by decide +kernel
theorem dX8_longest_148 : decode cX8_longest 148 = .ok (.iconst 1, 1) := by decide +kernel
theorem dX8_longest_149 : decode cX8_longest 149 = .ok (.isub, 1) := by decide +kernel
theorem dX8_longest_150 : decode cX8_longest 150 = .ok (.imul, 1) := by decide +kernel
theorem dX8_longest_151 : decode cX8_longest 151 = .ok (.iload 4, 2) := by decide +kernel
theorem dX8_longest_153 : decode cX8_longest 153 = .ok (.iadd, 1) := by decide +kernel
theorem dX8_longest_154 : decode cX8_longest 154 = .ok (.iconst 1, 1) := by decide +kernel
theorem dX8_longest_155 : decode cX8_longest 155 = .ok (.isub, 1) := by decide +kernel
theorem dX8_longest_156 : decode cX8_longest 156 = .ok (.iaload, 1) := by decide +kernel
theorem dX8_longest_157 : decode cX8_longest 157 = .ok (.iconst 1, 1) := by decide +kernel
theorem dX8_longest_158 : decode cX8_longest 158 = .ok (.iadd, 1) := by decide +kernel
theorem dX8_longest_159 : decode cX8_longest 159 = .ok (.goto 5, 3) := by decide +kernel
theorem dX8_longest_162 : decode cX8_longest 162 = .ok (.iload 5, 2) := by decide +kernel
theorem dX8_longest_164 : decode cX8_longest 164 = .ok (.iastore, 1) := by decide +kernel
theorem dX8_longest_165 : decode cX8_longest 165 = .ok (.iinc 4 1, 3) := by decide +kernel
theorem dX8_longest_168 : decode cX8_longest 168 = .ok (.goto (-132), 3) := by decide +kernel
theorem dX8_longest_171 : decode cX8_longest 171 = .ok (.iinc 3 1, 3) := by decide +kernel
theorem dX8_longest_174 : decode cX8_longest 174 = .ok (.goto (-150), 3) := by decide +kernel
theorem dX8_longest_177 : decode cX8_longest 177 = .ok (.aload_n 0, 1) := by decide +kernel
theorem dX8_longest_178 : decode cX8_longest 178 = .ok (.getfield 52, 3) := by decide +kernel
theorem dX8_longest_181 : decode cX8_longest 181 = .ok (.bipush 13, 2) := by decide +kernel
theorem dX8_longest_183 : decode cX8_longest 183 = .ok (.aload_n 0, 1) := by decide +kernel
theorem dX8_longest_184 : decode cX8_longest 184 = .ok (.iload_n 1, 1) := by decide +kernel
theorem dX8_longest_185 : decode cX8_longest 185 = .ok (.invokevirtual 68, 3) := by decide +kernel
theorem dX8_longest_188 : decode cX8_longest 188 = .ok (.imul, 1) := by decide +kernel
theorem dX8_longest_189 : decode cX8_longest 189 = .ok (.aload_n 0, 1) := by decide +kernel
theorem dX8_longest_190 : decode cX8_longest 190 = .ok (.iload_n 2, 1) := by decide +kernel
theorem dX8_longest_191 : decode cX8_longest 191 = .ok (.invokevirtual 68, 3) := by decide +kernel
theorem dX8_longest_194 : decode cX8_longest 194 = .ok (.iadd, 1) := by decide +kernel
theorem dX8_longest_195 : decode cX8_longest 195 = .ok (.iaload, 1) := by decide +kernel
theorem dX8_longest_196 : decode cX8_longest 196 = .ok (.ireturn, 1) := by decide +kernel
theorem dX8_both_0 : decode cX8_both 0 = .ok (.aload_n 0, 1) := by decide +kernel
theorem dX8_both_1 : decode cX8_both 1 = .ok (.iconst 0, 1) := by decide +kernel
theorem dX8_both_2 : decode cX8_both 2 = .ok (.putfield 61, 3) := by decide +kernel
theorem dX8_both_5 : decode cX8_both 5 = .ok (.iload_n 1, 1) := by decide +kernel
theorem dX8_both_6 : decode cX8_both 6 = .ok (.invokestatic 124, 3) := by decide +kernel
theorem dX8_both_9 : decode cX8_both 9 = .ok (.ifCond .eq 19, 3) := by decide +kernel
theorem dX8_both_12 : decode cX8_both 12 = .ok (.iload_n 2, 1) := by decide +kernel
theorem dX8_both_13 : decode cX8_both 13 = .ok (.invokestatic 124, 3) := by decide +kernel
theorem dX8_both_16 : decode cX8_both 16 = .ok (.ifCond .eq 12, 3) := by decide +kernel
theorem dX8_both_19 : decode cX8_both 19 = .ok (.iload_n 3, 1) := by decide +kernel
theorem dX8_both_20 : decode cX8_both 20 = .ok (.iconst 0, 1) := by decide +kernel
theorem dX8_both_21 : decode cX8_both 21 = .ok (.iconst 3, 1) := by decide +kernel
theorem dX8_both_22 : decode cX8_both 22 = .ok (.invokestatic 64, 3) := by decide +kernel
theorem dX8_both_25 : decode cX8_both 25 = .ok (.ifCond .ne 5, 3) := by decide +kernel
theorem dX8_both_28 : decode cX8_both 28 = .ok (.iconst (-1), 1) := by decide +kernel
theorem dX8_both_29 : decode cX8_both 29 = .ok (.ireturn, 1) := by decide +kernel
theorem dX8_both_30 : decode cX8_both 30 = .ok (.aload_n 0, 1) := by decide +kernel
theorem dX8_both_31 : decode cX8_both 31 = .ok (.iload_n 1, 1) := by decide +kernel
theorem dX8_both_32 : decode cX8_both 32 = .ok (.invokevirtual 154, 3) := by decide +kernel
theorem dX8_both_35 : decode cX8_both 35 = .ok (.istore 4, 2) := by decide +kernel
theorem dX8_both_37 : decode cX8_both 37 = .ok (.aload_n 0, 1) := by decide +kernel
theorem dX8_both_38 : decode cX8_both 38 = .ok (.iload_n 2, 1) := by decide +kernel
theorem dX8_both_39 : decode cX8_both 39 = .ok (.invokevirtual 154, 3) := by decide +kernel
theorem dX8_both_42 : decode cX8_both 42 = .ok (.istore 5, 2) := by decide +kernel
theorem dX8_both_44 : decode cX8_both 44 = .ok (.iload_n 3, 1) := by decide +kernel
theorem dX8_both_45 : decode cX8_both 45 = .ok (.ifCond .ne 13, 3) := by decide +kernel
theorem dX8_both_48 : decode cX8_both 48 = .ok (.iload 4, 2) := by decide +kernel
theorem dX8_both_50 : decode cX8_both 50 = .ok (.iload 5, 2) := by decide +kernel
theorem dX8_both_52 : decode cX8_both 52 = .ok (.iconst (-1), 1) := by decide +kernel
theorem dX8_both_53 : decode cX8_both 53 = .ok (.ixor, 1) := by decide +kernel
theorem dX8_both_54 : decode cX8_both 54 = .ok (.iand, 1) := by decide +kernel
theorem dX8_both_55 : decode cX8_both 55 = .ok (.goto 47, 3) := by decide +kernel
theorem dX8_both_58 : decode cX8_both 58 = .ok (.iload_n 3, 1) := by decide +kernel
theorem dX8_both_59 : decode cX8_both 59 = .ok (.iconst 1, 1) := by decide +kernel
theorem dX8_both_60 : decode cX8_both 60 = .ok (.if_icmp .ne 13, 3) := by decide +kernel
theorem dX8_both_63 : decode cX8_both 63 = .ok (.iload 5, 2) := by decide +kernel
theorem dX8_both_65 : decode cX8_both 65 = .ok (.iload 4, 2) := by decide +kernel
theorem dX8_both_67 : decode cX8_both 67 = .ok (.iconst (-1), 1) := by decide +kernel
theorem dX8_both_68 : decode cX8_both 68 = .ok (.ixor, 1) := by decide +kernel
theorem dX8_both_69 : decode cX8_both 69 = .ok (.iand, 1) := by decide +kernel
theorem dX8_both_70 : decode cX8_both 70 = .ok (.goto 32, 3) := by decide +kernel
theorem dX8_both_73 : decode cX8_both 73 = .ok (.iload_n 3, 1) := by decide +kernel
theorem dX8_both_74 : decode cX8_both 74 = .ok (.iconst 2, 1) := by decide +kernel
theorem dX8_both_75 : decode cX8_both 75 = .ok (.if_icmp .ne 12, 3) := by decide +kernel
theorem dX8_both_78 : decode cX8_both 78 = .ok (.aload_n 0, 1) := by decide +kernel
theorem dX8_both_79 : decode cX8_both 79 = .ok (.iload_n 1, 1) := by decide +kernel
theorem dX8_both_80 : decode cX8_both 80 = .ok (.iload_n 2, 1) := by decide +kernel
theorem dX8_both_81 : decode cX8_both 81 = .ok (.invokevirtual 157, 3) := by decide +kernel
theorem dX8_both_84 : decode cX8_both 84 = .ok (.goto 18, 3) := by decide +kernel
theorem dX8_both_87 : decode cX8_both 87 = .ok (.iload 4, 2) := by decide +kernel
theorem dX8_both_89 : decode cX8_both 89 = .ok (.iload 5, 2) := by decide +kernel
theorem dX8_both_91 : decode cX8_both 91 = .ok (.iand, 1) := by decide +kernel
theorem dX8_both_92 : decode cX8_both 92 = .ok (.invokestatic 160, 3) := by decide +kernel
theorem dX8_both_95 : decode cX8_both 95 = .ok (.aload_n 0, 1) := by decide +kernel
theorem dX8_both_96 : decode cX8_both 96 = .ok (.iload_n 1, 1) := by decide +kernel
theorem dX8_both_97 : decode cX8_both 97 = .ok (.iload_n 2, 1) := by decide +kernel
theorem dX8_both_98 : decode cX8_both 98 = .ok (.invokevirtual 157, 3) := by decide +kernel
theorem dX8_both_101 : decode cX8_both 101 = .ok (.isub, 1) := by decide +kernel
theorem dX8_both_102 : decode cX8_both 102 = .ok (.ireturn, 1) := by decide +kernel
theorem dX8_number_0 : decode cX8_number 0 = .ok (.iconst 0, 1) := by decide +kernel
theorem dX8_number_1 : decode cX8_number 1 = .ok (.istore_n 2, 1) := by decide +kernel
theorem dX8_number_2 : decode cX8_number 2 = .ok (.iload_n 2, 1) := by decide +kernel
theorem dX8_number_3 : decode cX8_number 3 = .ok (.aload_n 0, 1) := by decide +kernel
theorem dX8_number_4 : decode cX8_number 4 = .ok (.getfield 163, 3) := by decide +kernel
theorem dX8_number_7 : decode cX8_number 7 = .ok (.if_icmp .ge 21, 3) := by decide +kernel
theorem dX8_number_10 : decode cX8_number 10 = .ok (.aload_n 0, 1) := by decide +kernel
theorem dX8_number_11 : decode cX8_number 11 = .ok (.getfield 42, 3) := by decide +kernel
theorem dX8_number_14 : decode cX8_number 14 = .ok (.iload_n 2, 1) := by decide +kernel
theorem dX8_number_15 : decode cX8_number 15 = .ok (.iaload, 1) := by decide +kernel
theorem dX8_number_16 : decode cX8_number 16 = .ok (.iload_n 1, 1) := by decide +kernel
theorem dX8_number_17 : decode cX8_number 17 = .ok (.if_icmp .ne 5, 3) := by decide +kernel
theorem dX8_number_20 : decode cX8_number 20 = .ok (.iload_n 2, 1) := by decide +kernel
theorem dX8_number_21 : decode cX8_number 21 = .ok (.ireturn, 1) := by decide +kernel
theorem dX8_number_22 : decode cX8_number 22 = .ok (.iinc 2 1, 3) := by decide +kernel
theorem dX8_number_25 : decode cX8_number 25 = .ok (.goto (-23), 3) := by decide +kernel
theorem dX8_number_28 : decode cX8_number 28 = .ok (.bipush (-9), 2) := by decide +kernel
theorem dX8_number_30 : decode cX8_number 30 = .ok (.ireturn, 1) := by decide +kernel
theorem dX8_gathers_0 : decode cX8_gathers 0 = .ok (.aload_n 0, 1) := by decide +kernel
theorem dX8_gathers_1 : decode cX8_gathers 1 = .ok (.iconst 0, 1) := by decide +kernel
theorem dX8_gathers_2 : decode cX8_gathers 2 = .ok (.putfield 163, 3) := by decide +kernel
theorem dX8_gathers_5 : decode cX8_gathers 5 = .ok (.iconst 0, 1) := by decide +kernel
theorem dX8_gathers_6 : decode cX8_gathers 6 = .ok (.istore_n 2, 1) := by decide +kernel
theorem dX8_gathers_7 : decode cX8_gathers 7 = .ok (.iload_n 2, 1) := by decide +kernel
theorem dX8_gathers_8 : decode cX8_gathers 8 = .ok (.iconst 4, 1) := by decide +kernel
theorem dX8_gathers_9 : decode cX8_gathers 9 = .ok (.if_icmp .ge 123, 3) := by decide +kernel
theorem dX8_gathers_12 : decode cX8_gathers 12 = .ok (.iconst 0, 1) := by decide +kernel
theorem dX8_gathers_13 : decode cX8_gathers 13 = .ok (.istore_n 3, 1) := by decide +kernel
theorem dX8_gathers_14 : decode cX8_gathers 14 = .ok (.iload_n 3, 1) := by decide +kernel
theorem dX8_gathers_15 : decode cX8_gathers 15 = .ok (.aload_n 0, 1) := by decide +kernel
theorem dX8_gathers_16 : decode cX8_gathers 16 = .ok (.iload_n 2, 1) := by decide +kernel
theorem dX8_gathers_17 : decode cX8_gathers 17 = .ok (.invokevirtual 68, 3) := by decide +kernel
theorem dX8_gathers_20 : decode cX8_gathers 20 = .ok (.if_icmp .ge 106, 3) := by decide +kernel
theorem dX8_gathers_23 : decode cX8_gathers 23 = .ok (.iload_n 1, 1) := by decide +kernel
theorem dX8_gathers_24 : decode cX8_gathers 24 = .ok (.iload_n 2, 1) := by decide +kernel
theorem dX8_gathers_25 : decode cX8_gathers 25 = .ok (.ishr, 1) := by decide +kernel
theorem dX8_gathers_26 : decode cX8_gathers 26 = .ok (.iconst 1, 1) := by decide +kernel
theorem dX8_gathers_27 : decode cX8_gathers 27 = .ok (.iand, 1) := by decide +kernel
theorem dX8_gathers_28 : decode cX8_gathers 28 = .ok (.iconst 1, 1) := by decide +kernel
theorem dX8_gathers_29 : decode cX8_gathers 29 = .ok (.if_icmp .ne 97, 3) := by decide +kernel
theorem dX8_gathers_32 : decode cX8_gathers 32 = .ok (.aload_n 0, 1) := by decide +kernel
theorem dX8_gathers_33 : decode cX8_gathers 33 = .ok (.aload_n 0, 1) := by decide +kernel
theorem dX8_gathers_34 : decode cX8_gathers 34 = .ok (.iload_n 2, 1) := by decide +kernel
theorem dX8_gathers_35 : decode cX8_gathers 35 = .ok (.iload_n 3, 1) := by decide +kernel
theorem dX8_gathers_36 : decode cX8_gathers 36 = .ok (.invokevirtual 72, 3) := by decide +kernel
theorem dX8_gathers_39 : decode cX8_gathers 39 = .ok (.invokevirtual 166, 3) := by decide +kernel
theorem dX8_gathers_42 : decode cX8_gathers 42 = .ok (.istore 4, 2) := by decide +kernel
theorem dX8_gathers_44 : decode cX8_gathers 44 = .ok (.iload 4, 2) := by decide +kernel
theorem dX8_gathers_46 : decode cX8_gathers 46 = .ok (.bipush (-9), 2) := by decide +kernel
theorem dX8_gathers_48 : decode cX8_gathers 48 = .ok (.if_icmp .ne 40, 3) := by decide +kernel
theorem dX8_gathers_51 : decode cX8_gathers 51 = .ok (.aload_n 0, 1) := by decide +kernel
theorem dX8_gathers_52 : decode cX8_gathers 52 = .ok (.getfield 163, 3) := by decide +kernel
theorem dX8_gathers_55 : decode cX8_gathers 55 = .ok (.istore 4, 2) := by decide +kernel
theorem dX8_gathers_57 : decode cX8_gathers 57 = .ok (.aload_n 0, 1) := by decide +kernel
theorem dX8_gathers_58 : decode cX8_gathers 58 = .ok (.getfield 42, 3) := by decide +kernel
theorem dX8_gathers_61 : decode cX8_gathers 61 = .ok (.iload 4, 2) := by decide +kernel
theorem dX8_gathers_63 : decode cX8_gathers 63 = .ok (.aload_n 0, 1) := by decide +kernel
theorem dX8_gathers_64 : decode cX8_gathers 64 = .ok (.iload_n 2, 1) := by decide +kernel
theorem dX8_gathers_65 : decode cX8_gathers 65 = .ok (.iload_n 3, 1) := by decide +kernel
theorem dX8_gathers_66 : decode cX8_gathers 66 = .ok (.invokevirtual 72, 3) := by decide +kernel
theorem dX8_gathers_69 : decode cX8_gathers 69 = .ok (.iastore, 1) := by decide +kernel
theorem dX8_gathers_70 : decode cX8_gathers 70 = .ok (.aload_n 0, 1) := by decide +kernel
theorem dX8_gathers_71 : decode cX8_gathers 71 = .ok (.getfield 45, 3) := by decide +kernel
theorem dX8_gathers_74 : decode cX8_gathers 74 = .ok (.iload 4, 2) := by decide +kernel
theorem dX8_gathers_76 : decode cX8_gathers 76 = .ok (.iconst 0, 1) := by decide +kernel
theorem dX8_gathers_77 : decode cX8_gathers 77 = .ok (.iastore, 1) := by decide +kernel
theorem dX8_gathers_78 : decode cX8_gathers 78 = .ok (.aload_n 0, 1) := by decide +kernel
theorem dX8_gathers_79 : decode cX8_gathers 79 = .ok (.dup, 1) := by decide +kernel
theorem dX8_gathers_80 : decode cX8_gathers 80 = .ok (.getfield 163, 3) := by decide +kernel
theorem dX8_gathers_83 : decode cX8_gathers 83 = .ok (.iconst 1, 1) := by decide +kernel
theorem dX8_gathers_84 : decode cX8_gathers 84 = .ok (.iadd, 1) := by decide +kernel
theorem dX8_gathers_85 : decode cX8_gathers 85 = .ok (.putfield 163, 3) := by decide +kernel
theorem dX8_gathers_88 : decode cX8_gathers 88 = .ok (.aload_n 0, 1) := by decide +kernel
theorem dX8_gathers_89 : decode cX8_gathers 89 = .ok (.getfield 45, 3) := by decide +kernel
theorem dX8_gathers_92 : decode cX8_gathers 92 = .ok (.iload 4, 2) := by decide +kernel
theorem dX8_gathers_94 : decode cX8_gathers 94 = .ok (.dup2, 1) := by decide +kernel
theorem dX8_gathers_95 : decode cX8_gathers 95 = .ok (.iaload, 1) := by decide +kernel
theorem dX8_gathers_96 : decode cX8_gathers 96 = .ok (.iload_n 3, 1) := by decide +kernel
theorem dX8_gathers_97 : decode cX8_gathers 97 = .ok (.ifCond .le 20, 3) := by decide +kernel
theorem dX8_gathers_100 : decode cX8_gathers 100 = .ok (.iconst 1, 1) := by decide +kernel
theorem dX8_gathers_101 : decode cX8_gathers 101 = .ok (.aload_n 0, 1) := by decide +kernel
theorem dX8_gathers_102 : decode cX8_gathers 102 = .ok (.aload_n 0, 1) := by decide +kernel
theorem dX8_gathers_103 : decode cX8_gathers 103 = .ok (.iload_n 2, 1) := by decide +kernel
theorem dX8_gathers_104 : decode cX8_gathers 104 = .ok (.iload_n 3, 1) := by decide +kernel
theorem dX8_gathers_105 : decode cX8_gathers 105 = .ok (.iconst 1, 1) := by decide +kernel
theorem dX8_gathers_106 : decode cX8_gathers 106 = .ok (.isub, 1) := by decide +kernel
theorem dX8_gathers_107 : decode cX8_gathers 107 = .ok (.invokevirtual 72, 3) := by decide +kernel
theorem dX8_gathers_110 : decode cX8_gathers 110 = .ok (.invokevirtual 166, 3) := by decide +kernel
theorem dX8_gathers_113 : decode cX8_gathers 113 = .ok (.ishl, 1) := by decide +kernel
theorem dX8_gathers_114 : decode cX8_gathers 114 = .ok (.goto 4, 3) := by decide +kernel
theorem dX8_gathers_117 : decode cX8_gathers 117 = .ok (.iconst 0, 1) := by decide +kernel
theorem dX8_gathers_118 : decode cX8_gathers 118 = .ok (.ior, 1) := by decide +kernel
theorem dX8_gathers_119 : decode cX8_gathers 119 = .ok (.iastore, 1) := by decide +kernel
theorem dX8_gathers_120 : decode cX8_gathers 120 = .ok (.iinc 3 1, 3) := by decide +kernel
theorem dX8_gathers_123 : decode cX8_gathers 123 = .ok (.goto (-109), 3) := by decide +kernel
theorem dX8_gathers_126 : decode cX8_gathers 126 = .ok (.iinc 2 1, 3) := by decide +kernel
theorem dX8_gathers_129 : decode cX8_gathers 129 = .ok (.goto (-122), 3) := by decide +kernel
theorem dX8_gathers_132 : decode cX8_gathers 132 = .ok (.return_, 1) := by decide +kernel
theorem dX8_counts_0 : decode cX8_counts 0 = .ok (.iconst 0, 1) := by decide +kernel
theorem dX8_counts_1 : decode cX8_counts 1 = .ok (.istore_n 1, 1) := by decide +kernel
theorem dX8_counts_2 : decode cX8_counts 2 = .ok (.iload_n 1, 1) := by decide +kernel
theorem dX8_counts_3 : decode cX8_counts 3 = .ok (.iconst 1, 1) := by decide +kernel
theorem dX8_counts_4 : decode cX8_counts 4 = .ok (.aload_n 0, 1) := by decide +kernel
theorem dX8_counts_5 : decode cX8_counts 5 = .ok (.getfield 163, 3) := by decide +kernel
theorem dX8_counts_8 : decode cX8_counts 8 = .ok (.ishl, 1) := by decide +kernel
theorem dX8_counts_9 : decode cX8_counts 9 = .ok (.if_icmp .ge 81, 3) := by decide +kernel
theorem dX8_counts_12 : decode cX8_counts 12 = .ok (.aload_n 0, 1) := by decide +kernel
theorem dX8_counts_13 : decode cX8_counts 13 = .ok (.getfield 48, 3) := by decide +kernel
theorem dX8_counts_16 : decode cX8_counts 16 = .ok (.iload_n 1, 1) := by decide +kernel
theorem dX8_counts_17 : decode cX8_counts 17 = .ok (.iload_n 1, 1) := by decide +kernel
theorem dX8_counts_18 : decode cX8_counts 18 = .ok (.ifCond .ne 7, 3) := by decide +kernel
theorem dX8_counts_21 : decode cX8_counts 21 = .ok (.lconst 1, 1) := by decide +kernel
theorem dX8_counts_22 : decode cX8_counts 22 = .ok (.goto 4, 3) := by decide +kernel
theorem dX8_counts_25 : decode cX8_counts 25 = .ok (.lconst 0, 1) := by decide +kernel
theorem dX8_counts_26 : decode cX8_counts 26 = .ok (.lastore, 1) := by decide +kernel
theorem dX8_counts_27 : decode cX8_counts 27 = .ok (.iconst 0, 1) := by decide +kernel
theorem dX8_counts_28 : decode cX8_counts 28 = .ok (.istore_n 2, 1) := by decide +kernel
theorem dX8_counts_29 : decode cX8_counts 29 = .ok (.iload_n 2, 1) := by decide +kernel
theorem dX8_counts_30 : decode cX8_counts 30 = .ok (.aload_n 0, 1) := by decide +kernel
theorem dX8_counts_31 : decode cX8_counts 31 = .ok (.getfield 163, 3) := by decide +kernel
theorem dX8_counts_34 : decode cX8_counts 34 = .ok (.if_icmp .ge 50, 3) := by decide +kernel
theorem dX8_counts_37 : decode cX8_counts 37 = .ok (.iload_n 1, 1) := by decide +kernel
theorem dX8_counts_38 : decode cX8_counts 38 = .ok (.iconst 1, 1) := by decide +kernel
theorem dX8_counts_39 : decode cX8_counts 39 = .ok (.iload_n 2, 1) := by decide +kernel
theorem dX8_counts_40 : decode cX8_counts 40 = .ok (.ishl, 1) := by decide +kernel
theorem dX8_counts_41 : decode cX8_counts 41 = .ok (.iconst (-1), 1) := by decide +kernel
theorem dX8_counts_42 : decode cX8_counts 42 = .ok (.ixor, 1) := by decide +kernel
theorem dX8_counts_43 : decode cX8_counts 43 = .ok (.iand, 1) := by decide +kernel
theorem dX8_counts_44 : decode cX8_counts 44 = .ok (.istore_n 3, 1) := by decide +kernel
theorem dX8_counts_45 : decode cX8_counts 45 = .ok (.iload_n 3, 1) := by decide +kernel
theorem dX8_counts_46 : decode cX8_counts 46 = .ok (.iload_n 1, 1) := by decide +kernel
theorem dX8_counts_47 : decode cX8_counts 47 = .ok (.if_icmp .eq 31, 3) := by decide +kernel
theorem dX8_counts_50 : decode cX8_counts 50 = .ok (.aload_n 0, 1) := by decide +kernel
theorem dX8_counts_51 : decode cX8_counts 51 = .ok (.getfield 45, 3) := by decide +kernel
theorem dX8_counts_54 : decode cX8_counts 54 = .ok (.iload_n 2, 1) := by decide +kernel
theorem dX8_counts_55 : decode cX8_counts 55 = .ok (.iaload, 1) := by decide +kernel
theorem dX8_counts_56 : decode cX8_counts 56 = .ok (.iload_n 3, 1) := by decide +kernel
theorem dX8_counts_57 : decode cX8_counts 57 = .ok (.iconst (-1), 1) := by decide +kernel
theorem dX8_counts_58 : decode cX8_counts 58 = .ok (.ixor, 1) := by decide +kernel
theorem dX8_counts_59 : decode cX8_counts 59 = .ok (.iand, 1) := by decide +kernel
theorem dX8_counts_60 : decode cX8_counts 60 = .ok (.ifCond .ne 18, 3) := by decide +kernel
theorem dX8_counts_63 : decode cX8_counts 63 = .ok (.aload_n 0, 1) := by decide +kernel
theorem dX8_counts_64 : decode cX8_counts 64 = .ok (.getfield 48, 3) := by decide +kernel
theorem dX8_counts_67 : decode cX8_counts 67 = .ok (.iload_n 1, 1) := by decide +kernel
theorem dX8_counts_68 : decode cX8_counts 68 = .ok (.dup2, 1) := by decide +kernel
theorem dX8_counts_69 : decode cX8_counts 69 = .ok (.laload, 1) := by decide +kernel
theorem dX8_counts_70 : decode cX8_counts 70 = .ok (.aload_n 0, 1) := by decide +kernel
theorem dX8_counts_71 : decode cX8_counts 71 = .ok (.getfield 48, 3) := by decide +kernel
theorem dX8_counts_74 : decode cX8_counts 74 = .ok (.iload_n 3, 1) := by decide +kernel
theorem dX8_counts_75 : decode cX8_counts 75 = .ok (.laload, 1) := by decide +kernel
theorem dX8_counts_76 : decode cX8_counts 76 = .ok (.ladd, 1) := by decide +kernel
theorem dX8_counts_77 : decode cX8_counts 77 = .ok (.lastore, 1) := by decide +kernel
theorem dX8_counts_78 : decode cX8_counts 78 = .ok (.iinc 2 1, 3) := by decide +kernel
theorem dX8_counts_81 : decode cX8_counts 81 = .ok (.goto (-52), 3) := by decide +kernel
theorem dX8_counts_84 : decode cX8_counts 84 = .ok (.iinc 1 1, 3) := by decide +kernel
theorem dX8_counts_87 : decode cX8_counts 87 = .ok (.goto (-85), 3) := by decide +kernel
theorem dX8_counts_90 : decode cX8_counts 90 = .ok (.aload_n 0, 1) := by decide +kernel
theorem dX8_counts_91 : decode cX8_counts 91 = .ok (.getfield 48, 3) := by decide +kernel
theorem dX8_counts_94 : decode cX8_counts 94 = .ok (.iconst 1, 1) := by decide +kernel
theorem dX8_counts_95 : decode cX8_counts 95 = .ok (.aload_n 0, 1) := by decide +kernel
theorem dX8_counts_96 : decode cX8_counts 96 = .ok (.getfield 163, 3) := by decide +kernel
theorem dX8_counts_99 : decode cX8_counts 99 = .ok (.ishl, 1) := by decide +kernel
theorem dX8_counts_100 : decode cX8_counts 100 = .ok (.iconst 1, 1) := by decide +kernel
theorem dX8_counts_101 : decode cX8_counts 101 = .ok (.isub, 1) := by decide +kernel
theorem dX8_counts_102 : decode cX8_counts 102 = .ok (.laload, 1) := by decide +kernel
theorem dX8_counts_103 : decode cX8_counts 103 = .ok (.lreturn, 1) := by decide +kernel
theorem dX8_isSet_0 : decode cX8_isSet 0 = .ok (.iload_n 0, 1) := by decide +kernel
theorem dX8_isSet_1 : decode cX8_isSet 1 = .ok (.iconst 1, 1) := by decide +kernel
theorem dX8_isSet_2 : decode cX8_isSet 2 = .ok (.bipush 15, 2) := by decide +kernel
theorem dX8_isSet_4 : decode cX8_isSet 4 = .ok (.invokestatic 64, 3) := by decide +kernel
theorem dX8_isSet_7 : decode cX8_isSet 7 = .ok (.ireturn, 1) := by decide +kernel
theorem dX8_orders_0 : decode cX8_orders 0 = .ok (.aload_n 0, 1) := by decide +kernel
theorem dX8_orders_1 : decode cX8_orders 1 = .ok (.iconst 0, 1) := by decide +kernel
theorem dX8_orders_2 : decode cX8_orders 2 = .ok (.putfield 61, 3) := by decide +kernel
theorem dX8_orders_5 : decode cX8_orders 5 = .ok (.iload_n 1, 1) := by decide +kernel
theorem dX8_orders_6 : decode cX8_orders 6 = .ok (.invokestatic 169, 3) := by decide +kernel
theorem dX8_orders_9 : decode cX8_orders 9 = .ok (.ifCond .ne 7, 3) := by decide +kernel
theorem dX8_orders_12 : decode cX8_orders 12 = .ok (.ldc2_w 172, 3) := by decide +kernel
theorem dX8_orders_15 : decode cX8_orders 15 = .ok (.lreturn, 1) := by decide +kernel
theorem dX8_orders_16 : decode cX8_orders 16 = .ok (.aload_n 0, 1) := by decide +kernel
theorem dX8_orders_17 : decode cX8_orders 17 = .ok (.iload_n 1, 1) := by decide +kernel
theorem dX8_orders_18 : decode cX8_orders 18 = .ok (.invokevirtual 174, 3) := by decide +kernel
theorem dX8_orders_21 : decode cX8_orders 21 = .ok (.aload_n 0, 1) := by decide +kernel
theorem dX8_orders_22 : decode cX8_orders 22 = .ok (.getfield 163, 3) := by decide +kernel
theorem dX8_orders_25 : decode cX8_orders 25 = .ok (.bipush 12, 2) := by decide +kernel
theorem dX8_orders_27 : decode cX8_orders 27 = .ok (.if_icmp .le 9, 3) := by decide +kernel
theorem dX8_orders_30 : decode cX8_orders 30 = .ok (.ldc2_w 177, 3) := by decide +kernel
theorem dX8_orders_33 : decode cX8_orders 33 = .ok (.goto 7, 3) := by decide +kernel
theorem dX8_orders_36 : decode cX8_orders 36 = .ok (.aload_n 0, 1) := by decide +kernel
theorem dX8_orders_37 : decode cX8_orders 37 = .ok (.invokevirtual 179, 3) := by decide +kernel
theorem dX8_orders_40 : decode cX8_orders 40 = .ok (.lreturn, 1) := by decide +kernel
theorem dX8_quarrel_0 : decode cX8_quarrel 0 = .ok (.aload_n 0, 1) := by decide +kernel
theorem dX8_quarrel_1 : decode cX8_quarrel 1 = .ok (.iconst 0, 1) := by decide +kernel
theorem dX8_quarrel_2 : decode cX8_quarrel 2 = .ok (.putfield 61, 3) := by decide +kernel
theorem dX8_quarrel_5 : decode cX8_quarrel 5 = .ok (.iload_n 1, 1) := by decide +kernel
theorem dX8_quarrel_6 : decode cX8_quarrel 6 = .ok (.invokestatic 169, 3) := by decide +kernel
theorem dX8_quarrel_9 : decode cX8_quarrel 9 = .ok (.ifCond .eq 12, 3) := by decide +kernel
theorem dX8_quarrel_12 : decode cX8_quarrel 12 = .ok (.iload_n 2, 1) := by decide +kernel
theorem dX8_quarrel_13 : decode cX8_quarrel 13 = .ok (.iconst 0, 1) := by decide +kernel
theorem dX8_quarrel_14 : decode cX8_quarrel 14 = .ok (.iconst 1, 1) := by decide +kernel
theorem dX8_quarrel_15 : decode cX8_quarrel 15 = .ok (.invokestatic 64, 3) := by decide +kernel
theorem dX8_quarrel_18 : decode cX8_quarrel 18 = .ok (.ifCond .ne 5, 3) := by decide +kernel
theorem dX8_quarrel_21 : decode cX8_quarrel 21 = .ok (.iconst (-1), 1) := by decide +kernel
theorem dX8_quarrel_22 : decode cX8_quarrel 22 = .ok (.ireturn, 1) := by decide +kernel
theorem dX8_quarrel_23 : decode cX8_quarrel 23 = .ok (.aload_n 0, 1) := by decide +kernel
theorem dX8_quarrel_24 : decode cX8_quarrel 24 = .ok (.iload_n 1, 1) := by decide +kernel
theorem dX8_quarrel_25 : decode cX8_quarrel 25 = .ok (.invokevirtual 174, 3) := by decide +kernel
theorem dX8_quarrel_28 : decode cX8_quarrel 28 = .ok (.aload_n 0, 1) := by decide +kernel
theorem dX8_quarrel_29 : decode cX8_quarrel 29 = .ok (.getfield 163, 3) := by decide +kernel
theorem dX8_quarrel_32 : decode cX8_quarrel 32 = .ok (.bipush 12, 2) := by decide +kernel
theorem dX8_quarrel_34 : decode cX8_quarrel 34 = .ok (.if_icmp .le 6, 3) := by decide +kernel
theorem dX8_quarrel_37 : decode cX8_quarrel 37 = .ok (.bipush (-2), 2) := by decide +kernel
theorem dX8_quarrel_39 : decode cX8_quarrel 39 = .ok (.ireturn, 1) := by decide +kernel
theorem dX8_quarrel_40 : decode cX8_quarrel 40 = .ok (.bipush (-9), 2) := by decide +kernel
theorem dX8_quarrel_42 : decode cX8_quarrel 42 = .ok (.istore_n 3, 1) := by decide +kernel
theorem dX8_quarrel_43 : decode cX8_quarrel 43 = .ok (.iconst 1, 1) := by decide +kernel
theorem dX8_quarrel_44 : decode cX8_quarrel 44 = .ok (.istore 4, 2) := by decide +kernel
theorem dX8_quarrel_46 : decode cX8_quarrel 46 = .ok (.iload 4, 2) := by decide +kernel
theorem dX8_quarrel_48 : decode cX8_quarrel 48 = .ok (.bipush 16, 2) := by decide +kernel
theorem dX8_quarrel_50 : decode cX8_quarrel 50 = .ok (.if_icmp .ge 58, 3) := by decide +kernel
theorem dX8_quarrel_53 : decode cX8_quarrel 53 = .ok (.iload 4, 2) := by decide +kernel
theorem dX8_quarrel_55 : decode cX8_quarrel 55 = .ok (.iload_n 1, 1) := by decide +kernel
theorem dX8_quarrel_56 : decode cX8_quarrel 56 = .ok (.iconst (-1), 1) := by decide +kernel
theorem dX8_quarrel_57 : decode cX8_quarrel 57 = .ok (.ixor, 1) := by decide +kernel
theorem dX8_quarrel_58 : decode cX8_quarrel 58 = .ok (.iand, 1) := by decide +kernel
theorem dX8_quarrel_59 : decode cX8_quarrel 59 = .ok (.ifCond .ne 43, 3) := by decide +kernel
theorem dX8_quarrel_62 : decode cX8_quarrel 62 = .ok (.iload_n 3, 1) := by decide +kernel
theorem dX8_quarrel_63 : decode cX8_quarrel 63 = .ok (.bipush (-9), 2) := by decide +kernel
theorem dX8_quarrel_65 : decode cX8_quarrel 65 = .ok (.if_icmp .eq 15, 3) := by decide +kernel
theorem dX8_quarrel_68 : decode cX8_quarrel 68 = .ok (.iload 4, 2) := by decide +kernel
theorem dX8_quarrel_70 : decode cX8_quarrel 70 = .ok (.invokestatic 160, 3) := by decide +kernel
theorem dX8_quarrel_73 : decode cX8_quarrel 73 = .ok (.iload_n 3, 1) := by decide +kernel
theorem dX8_quarrel_74 : decode cX8_quarrel 74 = .ok (.invokestatic 160, 3) := by decide +kernel
theorem dX8_quarrel_77 : decode cX8_quarrel 77 = .ok (.if_icmp .ge 25, 3) := by decide +kernel
theorem dX8_quarrel_80 : decode cX8_quarrel 80 = .ok (.aload_n 0, 1) := by decide +kernel
theorem dX8_quarrel_81 : decode cX8_quarrel 81 = .ok (.iload 4, 2) := by decide +kernel
theorem dX8_quarrel_83 : decode cX8_quarrel 83 = .ok (.invokevirtual 174, 3) := by decide +kernel
theorem dX8_quarrel_86 : decode cX8_quarrel 86 = .ok (.aload_n 0, 1) := by decide +kernel
theorem dX8_quarrel_87 : decode cX8_quarrel 87 = .ok (.invokevirtual 179, 3) := by decide +kernel
theorem dX8_quarrel_90 : decode cX8_quarrel 90 = .ok (.lconst 0, 1) := by decide +kernel
theorem dX8_quarrel_91 : decode cX8_quarrel 91 = .ok (.lcmp, 1) := by decide +kernel
theorem dX8_quarrel_92 : decode cX8_quarrel 92 = .ok (.ifCond .ne 8, 3) := by decide +kernel
theorem dX8_quarrel_95 : decode cX8_quarrel 95 = .ok (.iload 4, 2) := by decide +kernel
theorem dX8_quarrel_97 : decode cX8_quarrel 97 = .ok (.goto 4, 3) := by decide +kernel
theorem dX8_quarrel_100 : decode cX8_quarrel 100 = .ok (.iload_n 3, 1) := by decide +kernel
theorem dX8_quarrel_101 : decode cX8_quarrel 101 = .ok (.istore_n 3, 1) := by decide +kernel
theorem dX8_quarrel_102 : decode cX8_quarrel 102 = .ok (.iinc 4 1, 3) := by decide +kernel
theorem dX8_quarrel_105 : decode cX8_quarrel 105 = .ok (.goto (-59), 3) := by decide +kernel
theorem dX8_quarrel_108 : decode cX8_quarrel 108 = .ok (.iload_n 3, 1) := by decide +kernel
theorem dX8_quarrel_109 : decode cX8_quarrel 109 = .ok (.bipush (-9), 2) := by decide +kernel
theorem dX8_quarrel_111 : decode cX8_quarrel 111 = .ok (.if_icmp .eq 8, 3) := by decide +kernel
theorem dX8_quarrel_114 : decode cX8_quarrel 114 = .ok (.iload_n 2, 1) := by decide +kernel
theorem dX8_quarrel_115 : decode cX8_quarrel 115 = .ok (.iconst 1, 1) := by decide +kernel
theorem dX8_quarrel_116 : decode cX8_quarrel 116 = .ok (.if_icmp .ne 7, 3) := by decide +kernel
theorem dX8_quarrel_119 : decode cX8_quarrel 119 = .ok (.iload_n 3, 1) := by decide +kernel
theorem dX8_quarrel_120 : decode cX8_quarrel 120 = .ok (.goto 7, 3) := by decide +kernel
theorem dX8_quarrel_123 : decode cX8_quarrel 123 = .ok (.iload_n 3, 1) := by decide +kernel
theorem dX8_quarrel_124 : decode cX8_quarrel 124 = .ok (.invokestatic 160, 3) := by decide +kernel
theorem dX8_quarrel_127 : decode cX8_quarrel 127 = .ok (.ireturn, 1) := by decide +kernel
theorem dX8_ahead_0 : decode cX8_ahead 0 = .ok (.aload_n 0, 1) := by decide +kernel
theorem dX8_ahead_1 : decode cX8_ahead 1 = .ok (.iconst 0, 1) := by decide +kernel
theorem dX8_ahead_2 : decode cX8_ahead 2 = .ok (.putfield 61, 3) := by decide +kernel
theorem dX8_ahead_5 : decode cX8_ahead 5 = .ok (.iload_n 1, 1) := by decide +kernel
theorem dX8_ahead_6 : decode cX8_ahead 6 = .ok (.invokestatic 169, 3) := by decide +kernel
theorem dX8_ahead_9 : decode cX8_ahead 9 = .ok (.ifCond .eq 22, 3) := by decide +kernel
theorem dX8_ahead_12 : decode cX8_ahead 12 = .ok (.iload_n 2, 1) := by decide +kernel
theorem dX8_ahead_13 : decode cX8_ahead 13 = .ok (.invokestatic 128, 3) := by decide +kernel
theorem dX8_ahead_16 : decode cX8_ahead 16 = .ok (.ifCond .eq 15, 3) := by decide +kernel
theorem dX8_ahead_19 : decode cX8_ahead 19 = .ok (.iload_n 3, 1) := by decide +kernel
theorem dX8_ahead_20 : decode cX8_ahead 20 = .ok (.invokestatic 128, 3) := by decide +kernel
theorem dX8_ahead_23 : decode cX8_ahead 23 = .ok (.ifCond .eq 8, 3) := by decide +kernel
theorem dX8_ahead_26 : decode cX8_ahead 26 = .ok (.iload_n 2, 1) := by decide +kernel
theorem dX8_ahead_27 : decode cX8_ahead 27 = .ok (.iload_n 3, 1) := by decide +kernel
theorem dX8_ahead_28 : decode cX8_ahead 28 = .ok (.if_icmp .ne 5, 3) := by decide +kernel
theorem dX8_ahead_31 : decode cX8_ahead 31 = .ok (.iconst (-1), 1) := by decide +kernel
theorem dX8_ahead_32 : decode cX8_ahead 32 = .ok (.ireturn, 1) := by decide +kernel
theorem dX8_ahead_33 : decode cX8_ahead 33 = .ok (.aload_n 0, 1) := by decide +kernel
theorem dX8_ahead_34 : decode cX8_ahead 34 = .ok (.iload_n 1, 1) := by decide +kernel
theorem dX8_ahead_35 : decode cX8_ahead 35 = .ok (.invokevirtual 174, 3) := by decide +kernel
theorem dX8_ahead_38 : decode cX8_ahead 38 = .ok (.aload_n 0, 1) := by decide +kernel
theorem dX8_ahead_39 : decode cX8_ahead 39 = .ok (.iload_n 2, 1) := by decide +kernel
theorem dX8_ahead_40 : decode cX8_ahead 40 = .ok (.invokevirtual 166, 3) := by decide +kernel
theorem dX8_ahead_43 : decode cX8_ahead 43 = .ok (.istore 4, 2) := by decide +kernel
theorem dX8_ahead_45 : decode cX8_ahead 45 = .ok (.aload_n 0, 1) := by decide +kernel
theorem dX8_ahead_46 : decode cX8_ahead 46 = .ok (.iload_n 3, 1) := by decide +kernel
theorem dX8_ahead_47 : decode cX8_ahead 47 = .ok (.invokevirtual 166, 3) := by decide +kernel
theorem dX8_ahead_50 : decode cX8_ahead 50 = .ok (.istore 5, 2) := by decide +kernel
theorem dX8_ahead_52 : decode cX8_ahead 52 = .ok (.iload 4, 2) := by decide +kernel
theorem dX8_ahead_54 : decode cX8_ahead 54 = .ok (.bipush (-9), 2) := by decide +kernel
theorem dX8_ahead_56 : decode cX8_ahead 56 = .ok (.if_icmp .eq 10, 3) := by decide +kernel
theorem dX8_ahead_59 : decode cX8_ahead 59 = .ok (.iload 5, 2) := by decide +kernel
theorem dX8_ahead_61 : decode cX8_ahead 61 = .ok (.bipush (-9), 2) := by decide +kernel
theorem dX8_ahead_63 : decode cX8_ahead 63 = .ok (.if_icmp .ne 5, 3) := by decide +kernel
theorem dX8_ahead_66 : decode cX8_ahead 66 = .ok (.iconst (-1), 1) := by decide +kernel
theorem dX8_ahead_67 : decode cX8_ahead 67 = .ok (.ireturn, 1) := by decide +kernel
theorem dX8_ahead_68 : decode cX8_ahead 68 = .ok (.aload_n 0, 1) := by decide +kernel
theorem dX8_ahead_69 : decode cX8_ahead 69 = .ok (.getfield 163, 3) := by decide +kernel
theorem dX8_ahead_72 : decode cX8_ahead 72 = .ok (.bipush 12, 2) := by decide +kernel
theorem dX8_ahead_74 : decode cX8_ahead 74 = .ok (.if_icmp .gt 12, 3) := by decide +kernel
theorem dX8_ahead_77 : decode cX8_ahead 77 = .ok (.aload_n 0, 1) := by decide +kernel
theorem dX8_ahead_78 : decode cX8_ahead 78 = .ok (.invokevirtual 179, 3) := by decide +kernel
theorem dX8_ahead_81 : decode cX8_ahead 81 = .ok (.lconst 0, 1) := by decide +kernel
theorem dX8_ahead_82 : decode cX8_ahead 82 = .ok (.lcmp, 1) := by decide +kernel
theorem dX8_ahead_83 : decode cX8_ahead 83 = .ok (.ifCond .ne 6, 3) := by decide +kernel
theorem dX8_ahead_86 : decode cX8_ahead 86 = .ok (.bipush (-2), 2) := by decide +kernel
theorem dX8_ahead_88 : decode cX8_ahead 88 = .ok (.ireturn, 1) := by decide +kernel
theorem dX8_ahead_89 : decode cX8_ahead 89 = .ok (.iconst 1, 1) := by decide +kernel
theorem dX8_ahead_90 : decode cX8_ahead 90 = .ok (.istore 6, 2) := by decide +kernel
theorem dX8_ahead_92 : decode cX8_ahead 92 = .ok (.iload 6, 2) := by decide +kernel
theorem dX8_ahead_94 : decode cX8_ahead 94 = .ok (.ifCond .eq 117, 3) := by decide +kernel
theorem dX8_ahead_97 : decode cX8_ahead 97 = .ok (.iconst 0, 1) := by decide +kernel
theorem dX8_ahead_98 : decode cX8_ahead 98 = .ok (.istore 6, 2) := by decide +kernel
theorem dX8_ahead_100 : decode cX8_ahead 100 = .ok (.iconst 0, 1) := by decide +kernel
theorem dX8_ahead_101 : decode cX8_ahead 101 = .ok (.istore 7, 2) := by decide +kernel
theorem dX8_ahead_103 : decode cX8_ahead 103 = .ok (.iload 7, 2) := by decide +kernel
theorem dX8_ahead_105 : decode cX8_ahead 105 = .ok (.aload_n 0, 1) := by decide +kernel
theorem dX8_ahead_106 : decode cX8_ahead 106 = .ok (.getfield 163, 3) := by decide +kernel
theorem dX8_ahead_109 : decode cX8_ahead 109 = .ok (.if_icmp .ge 99, 3) := by decide +kernel
theorem dX8_ahead_112 : decode cX8_ahead 112 = .ok (.aload_n 0, 1) := by decide +kernel
theorem dX8_ahead_113 : decode cX8_ahead 113 = .ok (.getfield 45, 3) := by decide +kernel
theorem dX8_ahead_116 : decode cX8_ahead 116 = .ok (.iload 7, 2) := by decide +kernel
theorem dX8_ahead_118 : decode cX8_ahead 118 = .ok (.iaload, 1) := by decide +kernel
theorem dX8_ahead_119 : decode cX8_ahead 119 = .ok (.istore 8, 2) := by decide +kernel
theorem dX8_ahead_121 : decode cX8_ahead 121 = .ok (.iconst 0, 1) := by decide +kernel
theorem dX8_ahead_122 : decode cX8_ahead 122 = .ok (.istore 9, 2) := by decide +kernel
theorem dX8_ahead_124 : decode cX8_ahead 124 = .ok (.iload 9, 2) := by decide +kernel
theorem dX8_ahead_126 : decode cX8_ahead 126 = .ok (.aload_n 0, 1) := by decide +kernel
theorem dX8_ahead_127 : decode cX8_ahead 127 = .ok (.getfield 163, 3) := by decide +kernel
theorem dX8_ahead_130 : decode cX8_ahead 130 = .ok (.if_icmp .ge 41, 3) := by decide +kernel
theorem dX8_ahead_133 : decode cX8_ahead 133 = .ok (.iload 8, 2) := by decide +kernel
theorem dX8_ahead_135 : decode cX8_ahead 135 = .ok (.aload_n 0, 1) := by decide +kernel
theorem dX8_ahead_136 : decode cX8_ahead 136 = .ok (.getfield 45, 3) := by decide +kernel
theorem dX8_ahead_139 : decode cX8_ahead 139 = .ok (.iload 7, 2) := by decide +kernel
theorem dX8_ahead_141 : decode cX8_ahead 141 = .ok (.iaload, 1) := by decide +kernel
theorem dX8_ahead_142 : decode cX8_ahead 142 = .ok (.iload 9, 2) := by decide +kernel
theorem dX8_ahead_144 : decode cX8_ahead 144 = .ok (.ishr, 1) := by decide +kernel
theorem dX8_ahead_145 : decode cX8_ahead 145 = .ok (.iconst 1, 1) := by decide +kernel
theorem dX8_ahead_146 : decode cX8_ahead 146 = .ok (.iand, 1) := by decide +kernel
theorem dX8_ahead_147 : decode cX8_ahead 147 = .ok (.iconst 1, 1) := by decide +kernel
theorem dX8_ahead_148 : decode cX8_ahead 148 = .ok (.if_icmp .ne 13, 3) := by decide +kernel
theorem dX8_ahead_151 : decode cX8_ahead 151 = .ok (.aload_n 0, 1) := by decide +kernel
theorem dX8_ahead_152 : decode cX8_ahead 152 = .ok (.getfield 45, 3) := by decide +kernel
theorem dX8_ahead_155 : decode cX8_ahead 155 = .ok (.iload 9, 2) := by decide +kernel
theorem dX8_ahead_157 : decode cX8_ahead 157 = .ok (.iaload, 1) := by decide +kernel
theorem dX8_ahead_158 : decode cX8_ahead 158 = .ok (.goto 4, 3) := by decide +kernel
theorem dX8_ahead_161 : decode cX8_ahead 161 = .ok (.iconst 0, 1) := by decide +kernel
theorem dX8_ahead_162 : decode cX8_ahead 162 = .ok (.ior, 1) := by decide +kernel
theorem dX8_ahead_163 : decode cX8_ahead 163 = .ok (.istore 8, 2) := by decide +kernel
theorem dX8_ahead_165 : decode cX8_ahead 165 = .ok (.iinc 9 1, 3) := by decide +kernel
theorem dX8_ahead_168 : decode cX8_ahead 168 = .ok (.goto (-44), 3) := by decide +kernel
theorem dX8_ahead_171 : decode cX8_ahead 171 = .ok (.iload 6, 2) := by decide +kernel
theorem dX8_ahead_173 : decode cX8_ahead 173 = .ok (.iload 8, 2) := by decide +kernel
theorem dX8_ahead_175 : decode cX8_ahead 175 = .ok (.aload_n 0, 1) := by decide +kernel
theorem dX8_ahead_176 : decode cX8_ahead 176 = .ok (.getfield 45, 3) := by decide +kernel
theorem dX8_ahead_179 : decode cX8_ahead 179 = .ok (.iload 7, 2) := by decide +kernel
theorem dX8_ahead_181 : decode cX8_ahead 181 = .ok (.iaload, 1) := by decide +kernel
theorem dX8_ahead_182 : decode cX8_ahead 182 = .ok (.if_icmp .eq 7, 3) := by decide +kernel
theorem dX8_ahead_185 : decode cX8_ahead 185 = .ok (.iconst 1, 1) := by decide +kernel
theorem dX8_ahead_186 : decode cX8_ahead 186 = .ok (.goto 4, 3) := by decide +kernel
theorem dX8_ahead_189 : decode cX8_ahead 189 = .ok (.iconst 0, 1) := by decide +kernel
theorem dX8_ahead_190 : decode cX8_ahead 190 = .ok (.ior, 1) := by decide +kernel
theorem dX8_ahead_191 : decode cX8_ahead 191 = .ok (.istore 6, 2) := by decide +kernel
theorem dX8_ahead_193 : decode cX8_ahead 193 = .ok (.aload_n 0, 1) := by decide +kernel
theorem dX8_ahead_194 : decode cX8_ahead 194 = .ok (.getfield 45, 3) := by decide +kernel
theorem dX8_ahead_197 : decode cX8_ahead 197 = .ok (.iload 7, 2) := by decide +kernel
theorem dX8_ahead_199 : decode cX8_ahead 199 = .ok (.iload 8, 2) := by decide +kernel
theorem dX8_ahead_201 : decode cX8_ahead 201 = .ok (.iastore, 1) := by decide +kernel
theorem dX8_ahead_202 : decode cX8_ahead 202 = .ok (.iinc 7 1, 3) := by decide +kernel
theorem dX8_ahead_205 : decode cX8_ahead 205 = .ok (.goto (-102), 3) := by decide +kernel
theorem dX8_ahead_208 : decode cX8_ahead 208 = .ok (.goto (-116), 3) := by decide +kernel
theorem dX8_ahead_211 : decode cX8_ahead 211 = .ok (.aload_n 0, 1) := by decide +kernel
theorem dX8_ahead_212 : decode cX8_ahead 212 = .ok (.getfield 45, 3) := by decide +kernel
theorem dX8_ahead_215 : decode cX8_ahead 215 = .ok (.iload 5, 2) := by decide +kernel
theorem dX8_ahead_217 : decode cX8_ahead 217 = .ok (.iaload, 1) := by decide +kernel
theorem dX8_ahead_218 : decode cX8_ahead 218 = .ok (.iload 4, 2) := by decide +kernel
theorem dX8_ahead_220 : decode cX8_ahead 220 = .ok (.ishr, 1) := by decide +kernel
theorem dX8_ahead_221 : decode cX8_ahead 221 = .ok (.iconst 1, 1) := by decide +kernel
theorem dX8_ahead_222 : decode cX8_ahead 222 = .ok (.iand, 1) := by decide +kernel
theorem dX8_ahead_223 : decode cX8_ahead 223 = .ok (.iconst 1, 1) := by decide +kernel
theorem dX8_ahead_224 : decode cX8_ahead 224 = .ok (.if_icmp .ne 7, 3) := by decide +kernel
theorem dX8_ahead_227 : decode cX8_ahead 227 = .ok (.iconst 1, 1) := by decide +kernel
theorem dX8_ahead_228 : decode cX8_ahead 228 = .ok (.goto 24, 3) := by decide +kernel
theorem dX8_ahead_231 : decode cX8_ahead 231 = .ok (.aload_n 0, 1) := by decide +kernel
end
section
theorem dX8_ahead_232 : decode cX8_ahead 232 = .ok (.getfield 45, 3) := by decide +kernel
theorem dX8_ahead_235 : decode cX8_ahead 235 = .ok (.iload 4, 2) := by decide +kernel
theorem dX8_ahead_237 : decode cX8_ahead 237 = .ok (.iaload, 1) := by decide +kernel
theorem dX8_ahead_238 : decode cX8_ahead 238 = .ok (.iload 5, 2) := by decide +kernel
theorem dX8_ahead_240 : decode cX8_ahead 240 = .ok (.ishr, 1) := by decide +kernel
theorem dX8_ahead_241 : decode cX8_ahead 241 = .ok (.iconst 1, 1) := by decide +kernel
theorem dX8_ahead_242 : decode cX8_ahead 242 = .ok (.iand, 1) := by decide +kernel
theorem dX8_ahead_243 : decode cX8_ahead 243 = .ok (.iconst 1, 1) := by decide +kernel
theorem dX8_ahead_244 : decode cX8_ahead 244 = .ok (.if_icmp .ne 7, 3) := by decide +kernel
theorem dX8_ahead_247 : decode cX8_ahead 247 = .ok (.iconst 0, 1) := by decide +kernel
theorem dX8_ahead_248 : decode cX8_ahead 248 = .ok (.goto 4, 3) := by decide +kernel
theorem dX8_ahead_251 : decode cX8_ahead 251 = .ok (.iconst 2, 1) := by decide +kernel
theorem dX8_ahead_252 : decode cX8_ahead 252 = .ok (.ireturn, 1) := by decide +kernel
theorem dX8_date_0 : decode cX8_date 0 = .ok (.aload_n 0, 1) := by decide +kernel
theorem dX8_date_1 : decode cX8_date 1 = .ok (.iconst 0, 1) := by decide +kernel
theorem dX8_date_2 : decode cX8_date 2 = .ok (.putfield 61, 3) := by decide +kernel
theorem dX8_date_5 : decode cX8_date 5 = .ok (.iload_n 1, 1) := by decide +kernel
theorem dX8_date_6 : decode cX8_date 6 = .ok (.invokestatic 128, 3) := by decide +kernel
theorem dX8_date_9 : decode cX8_date 9 = .ok (.ifCond .eq 20, 3) := by decide +kernel
theorem dX8_date_12 : decode cX8_date 12 = .ok (.iload_n 2, 1) := by decide +kernel
theorem dX8_date_13 : decode cX8_date 13 = .ok (.bipush (-9), 2) := by decide +kernel
theorem dX8_date_15 : decode cX8_date 15 = .ok (.if_icmp .eq 16, 3) := by decide +kernel
theorem dX8_date_18 : decode cX8_date 18 = .ok (.iload_n 2, 1) := by decide +kernel
theorem dX8_date_19 : decode cX8_date 19 = .ok (.iconst 0, 1) := by decide +kernel
theorem dX8_date_20 : decode cX8_date 20 = .ok (.sipush 2000, 3) := by decide +kernel
theorem dX8_date_23 : decode cX8_date 23 = .ok (.invokestatic 64, 3) := by decide +kernel
theorem dX8_date_26 : decode cX8_date 26 = .ok (.ifCond .ne 5, 3) := by decide +kernel
theorem dX8_date_29 : decode cX8_date 29 = .ok (.iconst (-1), 1) := by decide +kernel
theorem dX8_date_30 : decode cX8_date 30 = .ok (.ireturn, 1) := by decide +kernel
theorem dX8_date_31 : decode cX8_date 31 = .ok (.aload_n 0, 1) := by decide +kernel
theorem dX8_date_32 : decode cX8_date 32 = .ok (.getfield 7, 3) := by decide +kernel
theorem dX8_date_35 : decode cX8_date 35 = .ok (.bipush 64, 2) := by decide +kernel
theorem dX8_date_37 : decode cX8_date 37 = .ok (.iload_n 1, 1) := by decide +kernel
theorem dX8_date_38 : decode cX8_date 38 = .ok (.iadd, 1) := by decide +kernel
theorem dX8_date_39 : decode cX8_date 39 = .ok (.iaload, 1) := by decide +kernel
theorem dX8_date_40 : decode cX8_date 40 = .ok (.istore_n 3, 1) := by decide +kernel
theorem dX8_date_41 : decode cX8_date 41 = .ok (.aload_n 0, 1) := by decide +kernel
theorem dX8_date_42 : decode cX8_date 42 = .ok (.getfield 7, 3) := by decide +kernel
theorem dX8_date_45 : decode cX8_date 45 = .ok (.bipush 64, 2) := by decide +kernel
theorem dX8_date_47 : decode cX8_date 47 = .ok (.iload_n 1, 1) := by decide +kernel
theorem dX8_date_48 : decode cX8_date 48 = .ok (.iadd, 1) := by decide +kernel
theorem dX8_date_49 : decode cX8_date 49 = .ok (.iload_n 2, 1) := by decide +kernel
theorem dX8_date_50 : decode cX8_date 50 = .ok (.iastore, 1) := by decide +kernel
theorem dX8_date_51 : decode cX8_date 51 = .ok (.iload_n 3, 1) := by decide +kernel
theorem dX8_date_52 : decode cX8_date 52 = .ok (.ireturn, 1) := by decide +kernel
theorem dX8_link_0 : decode cX8_link 0 = .ok (.aload_n 0, 1) := by decide +kernel
theorem dX8_link_1 : decode cX8_link 1 = .ok (.iconst 0, 1) := by decide +kernel
theorem dX8_link_2 : decode cX8_link 2 = .ok (.putfield 61, 3) := by decide +kernel
theorem dX8_link_5 : decode cX8_link 5 = .ok (.iload_n 1, 1) := by decide +kernel
theorem dX8_link_6 : decode cX8_link 6 = .ok (.iconst 0, 1) := by decide +kernel
theorem dX8_link_7 : decode cX8_link 7 = .ok (.iconst 1, 1) := by decide +kernel
theorem dX8_link_8 : decode cX8_link 8 = .ok (.invokestatic 64, 3) := by decide +kernel
theorem dX8_link_11 : decode cX8_link 11 = .ok (.ifCond .eq 35, 3) := by decide +kernel
theorem dX8_link_14 : decode cX8_link 14 = .ok (.iload_n 2, 1) := by decide +kernel
theorem dX8_link_15 : decode cX8_link 15 = .ok (.iload_n 1, 1) := by decide +kernel
theorem dX8_link_16 : decode cX8_link 16 = .ok (.ifCond .ne 7, 3) := by decide +kernel
theorem dX8_link_19 : decode cX8_link 19 = .ok (.iconst 1, 1) := by decide +kernel
theorem dX8_link_20 : decode cX8_link 20 = .ok (.goto 7, 3) := by decide +kernel
theorem dX8_link_23 : decode cX8_link 23 = .ok (.aload_n 0, 1) := by decide +kernel
theorem dX8_link_24 : decode cX8_link 24 = .ok (.getfield 26, 3) := by decide +kernel
theorem dX8_link_27 : decode cX8_link 27 = .ok (.iload_n 1, 1) := by decide +kernel
theorem dX8_link_28 : decode cX8_link 28 = .ok (.ifCond .ne 10, 3) := by decide +kernel
theorem dX8_link_31 : decode cX8_link 31 = .ok (.aload_n 0, 1) := by decide +kernel
theorem dX8_link_32 : decode cX8_link 32 = .ok (.getfield 30, 3) := by decide +kernel
theorem dX8_link_35 : decode cX8_link 35 = .ok (.goto 5, 3) := by decide +kernel
theorem dX8_link_38 : decode cX8_link 38 = .ok (.bipush 60, 2) := by decide +kernel
theorem dX8_link_40 : decode cX8_link 40 = .ok (.invokestatic 64, 3) := by decide +kernel
theorem dX8_link_43 : decode cX8_link 43 = .ok (.ifCond .ne 5, 3) := by decide +kernel
theorem dX8_link_46 : decode cX8_link 46 = .ok (.iconst (-1), 1) := by decide +kernel
theorem dX8_link_47 : decode cX8_link 47 = .ok (.ireturn, 1) := by decide +kernel
theorem dX8_link_48 : decode cX8_link 48 = .ok (.iload_n 1, 1) := by decide +kernel
theorem dX8_link_49 : decode cX8_link 49 = .ok (.ifCond .ne 10, 3) := by decide +kernel
theorem dX8_link_52 : decode cX8_link 52 = .ok (.aload_n 0, 1) := by decide +kernel
theorem dX8_link_53 : decode cX8_link 53 = .ok (.getfield 26, 3) := by decide +kernel
theorem dX8_link_56 : decode cX8_link 56 = .ok (.goto 7, 3) := by decide +kernel
theorem dX8_link_59 : decode cX8_link 59 = .ok (.aload_n 0, 1) := by decide +kernel
theorem dX8_link_60 : decode cX8_link 60 = .ok (.getfield 30, 3) := by decide +kernel
theorem dX8_link_63 : decode cX8_link 63 = .ok (.istore_n 3, 1) := by decide +kernel
theorem dX8_link_64 : decode cX8_link 64 = .ok (.aload_n 0, 1) := by decide +kernel
theorem dX8_link_65 : decode cX8_link 65 = .ok (.iload_n 1, 1) := by decide +kernel
theorem dX8_link_66 : decode cX8_link 66 = .ok (.ifCond .ne 7, 3) := by decide +kernel
theorem dX8_link_69 : decode cX8_link 69 = .ok (.iload_n 2, 1) := by decide +kernel
theorem dX8_link_70 : decode cX8_link 70 = .ok (.goto 7, 3) := by decide +kernel
theorem dX8_link_73 : decode cX8_link 73 = .ok (.aload_n 0, 1) := by decide +kernel
theorem dX8_link_74 : decode cX8_link 74 = .ok (.getfield 26, 3) := by decide +kernel
theorem dX8_link_77 : decode cX8_link 77 = .ok (.putfield 26, 3) := by decide +kernel
theorem dX8_link_80 : decode cX8_link 80 = .ok (.aload_n 0, 1) := by decide +kernel
theorem dX8_link_81 : decode cX8_link 81 = .ok (.iload_n 1, 1) := by decide +kernel
theorem dX8_link_82 : decode cX8_link 82 = .ok (.iconst 1, 1) := by decide +kernel
theorem dX8_link_83 : decode cX8_link 83 = .ok (.if_icmp .ne 7, 3) := by decide +kernel
theorem dX8_link_86 : decode cX8_link 86 = .ok (.iload_n 2, 1) := by decide +kernel
theorem dX8_link_87 : decode cX8_link 87 = .ok (.goto 7, 3) := by decide +kernel
theorem dX8_link_90 : decode cX8_link 90 = .ok (.aload_n 0, 1) := by decide +kernel
theorem dX8_link_91 : decode cX8_link 91 = .ok (.getfield 30, 3) := by decide +kernel
theorem dX8_link_94 : decode cX8_link 94 = .ok (.putfield 30, 3) := by decide +kernel
theorem dX8_link_97 : decode cX8_link 97 = .ok (.iload_n 3, 1) := by decide +kernel
theorem dX8_link_98 : decode cX8_link 98 = .ok (.ireturn, 1) := by decide +kernel
theorem dX8_dateAt_0 : decode cX8_dateAt 0 = .ok (.aload_n 0, 1) := by decide +kernel
theorem dX8_dateAt_1 : decode cX8_dateAt 1 = .ok (.getfield 7, 3) := by decide +kernel
theorem dX8_dateAt_4 : decode cX8_dateAt 4 = .ok (.bipush 64, 2) := by decide +kernel
theorem dX8_dateAt_6 : decode cX8_dateAt 6 = .ok (.aload_n 0, 1) := by decide +kernel
theorem dX8_dateAt_7 : decode cX8_dateAt 7 = .ok (.iload_n 1, 1) := by decide +kernel
theorem dX8_dateAt_8 : decode cX8_dateAt 8 = .ok (.iload_n 2, 1) := by decide +kernel
theorem dX8_dateAt_9 : decode cX8_dateAt 9 = .ok (.invokevirtual 72, 3) := by decide +kernel
theorem dX8_dateAt_12 : decode cX8_dateAt 12 = .ok (.iadd, 1) := by decide +kernel
theorem dX8_dateAt_13 : decode cX8_dateAt 13 = .ok (.iaload, 1) := by decide +kernel
theorem dX8_dateAt_14 : decode cX8_dateAt 14 = .ok (.ireturn, 1) := by decide +kernel
theorem dX8_isWithin_0 : decode cX8_isWithin 0 = .ok (.aload_n 0, 1) := by decide +kernel
theorem dX8_isWithin_1 : decode cX8_isWithin 1 = .ok (.iload_n 1, 1) := by decide +kernel
theorem dX8_isWithin_2 : decode cX8_isWithin 2 = .ok (.iload_n 3, 1) := by decide +kernel
theorem dX8_isWithin_3 : decode cX8_isWithin 3 = .ok (.invokevirtual 183, 3) := by decide +kernel
theorem dX8_isWithin_6 : decode cX8_isWithin 6 = .ok (.aload_n 0, 1) := by decide +kernel
theorem dX8_isWithin_7 : decode cX8_isWithin 7 = .ok (.iload_n 1, 1) := by decide +kernel
theorem dX8_isWithin_8 : decode cX8_isWithin 8 = .ok (.iload_n 2, 1) := by decide +kernel
theorem dX8_isWithin_9 : decode cX8_isWithin 9 = .ok (.invokevirtual 183, 3) := by decide +kernel
theorem dX8_isWithin_12 : decode cX8_isWithin 12 = .ok (.isub, 1) := by decide +kernel
theorem dX8_isWithin_13 : decode cX8_isWithin 13 = .ok (.istore 4, 2) := by decide +kernel
theorem dX8_isWithin_15 : decode cX8_isWithin 15 = .ok (.iload 4, 2) := by decide +kernel
theorem dX8_isWithin_17 : decode cX8_isWithin 17 = .ok (.aload_n 0, 1) := by decide +kernel
theorem dX8_isWithin_18 : decode cX8_isWithin 18 = .ok (.getfield 26, 3) := by decide +kernel
theorem dX8_isWithin_21 : decode cX8_isWithin 21 = .ok (.iload_n 3, 1) := by decide +kernel
theorem dX8_isWithin_22 : decode cX8_isWithin 22 = .ok (.iload_n 2, 1) := by decide +kernel
theorem dX8_isWithin_23 : decode cX8_isWithin 23 = .ok (.isub, 1) := by decide +kernel
theorem dX8_isWithin_24 : decode cX8_isWithin 24 = .ok (.imul, 1) := by decide +kernel
theorem dX8_isWithin_25 : decode cX8_isWithin 25 = .ok (.aload_n 0, 1) := by decide +kernel
theorem dX8_isWithin_26 : decode cX8_isWithin 26 = .ok (.getfield 30, 3) := by decide +kernel
theorem dX8_isWithin_29 : decode cX8_isWithin 29 = .ok (.iload_n 3, 1) := by decide +kernel
theorem dX8_isWithin_30 : decode cX8_isWithin 30 = .ok (.iload_n 2, 1) := by decide +kernel
theorem dX8_isWithin_31 : decode cX8_isWithin 31 = .ok (.isub, 1) := by decide +kernel
theorem dX8_isWithin_32 : decode cX8_isWithin 32 = .ok (.imul, 1) := by decide +kernel
theorem dX8_isWithin_33 : decode cX8_isWithin 33 = .ok (.invokestatic 64, 3) := by decide +kernel
theorem dX8_isWithin_36 : decode cX8_isWithin 36 = .ok (.ireturn, 1) := by decide +kernel
theorem dX8_span_0 : decode cX8_span 0 = .ok (.aload_n 0, 1) := by decide +kernel
theorem dX8_span_1 : decode cX8_span 1 = .ok (.iconst 0, 1) := by decide +kernel
theorem dX8_span_2 : decode cX8_span 2 = .ok (.putfield 61, 3) := by decide +kernel
theorem dX8_span_5 : decode cX8_span 5 = .ok (.iload_n 1, 1) := by decide +kernel
theorem dX8_span_6 : decode cX8_span 6 = .ok (.invokestatic 124, 3) := by decide +kernel
theorem dX8_span_9 : decode cX8_span 9 = .ok (.ifCond .eq 27, 3) := by decide +kernel
theorem dX8_span_12 : decode cX8_span 12 = .ok (.iload_n 2, 1) := by decide +kernel
theorem dX8_span_13 : decode cX8_span 13 = .ok (.iconst 0, 1) := by decide +kernel
theorem dX8_span_14 : decode cX8_span 14 = .ok (.aload_n 0, 1) := by decide +kernel
theorem dX8_span_15 : decode cX8_span 15 = .ok (.iload_n 1, 1) := by decide +kernel
theorem dX8_span_16 : decode cX8_span 16 = .ok (.invokevirtual 68, 3) := by decide +kernel
theorem dX8_span_19 : decode cX8_span 19 = .ok (.iconst 1, 1) := by decide +kernel
theorem dX8_span_20 : decode cX8_span 20 = .ok (.isub, 1) := by decide +kernel
theorem dX8_span_21 : decode cX8_span 21 = .ok (.invokestatic 64, 3) := by decide +kernel
theorem dX8_span_24 : decode cX8_span 24 = .ok (.ifCond .eq 12, 3) := by decide +kernel
theorem dX8_span_27 : decode cX8_span 27 = .ok (.iload_n 3, 1) := by decide +kernel
theorem dX8_span_28 : decode cX8_span 28 = .ok (.iconst 0, 1) := by decide +kernel
theorem dX8_span_29 : decode cX8_span 29 = .ok (.iconst 1, 1) := by decide +kernel
theorem dX8_span_30 : decode cX8_span 30 = .ok (.invokestatic 64, 3) := by decide +kernel
theorem dX8_span_33 : decode cX8_span 33 = .ok (.ifCond .ne 6, 3) := by decide +kernel
theorem dX8_span_36 : decode cX8_span 36 = .ok (.ldc 186, 2) := by decide +kernel
theorem dX8_span_38 : decode cX8_span 38 = .ok (.ireturn, 1) := by decide +kernel
theorem dX8_span_39 : decode cX8_span 39 = .ok (.ldc 186, 2) := by decide +kernel
theorem dX8_span_41 : decode cX8_span 41 = .ok (.istore 4, 2) := by decide +kernel
theorem dX8_span_43 : decode cX8_span 43 = .ok (.bipush (-9), 2) := by decide +kernel
theorem dX8_span_45 : decode cX8_span 45 = .ok (.istore 5, 2) := by decide +kernel
theorem dX8_span_47 : decode cX8_span 47 = .ok (.iconst 0, 1) := by decide +kernel
theorem dX8_span_48 : decode cX8_span 48 = .ok (.istore 6, 2) := by decide +kernel
theorem dX8_span_50 : decode cX8_span 50 = .ok (.iload 6, 2) := by decide +kernel
theorem dX8_span_52 : decode cX8_span 52 = .ok (.aload_n 0, 1) := by decide +kernel
theorem dX8_span_53 : decode cX8_span 53 = .ok (.iload_n 1, 1) := by decide +kernel
theorem dX8_span_54 : decode cX8_span 54 = .ok (.invokevirtual 68, 3) := by decide +kernel
theorem dX8_span_57 : decode cX8_span 57 = .ok (.if_icmp .ge 137, 3) := by decide +kernel
theorem dX8_span_60 : decode cX8_span 60 = .ok (.aload_n 0, 1) := by decide +kernel
theorem dX8_span_61 : decode cX8_span 61 = .ok (.iload_n 1, 1) := by decide +kernel
theorem dX8_span_62 : decode cX8_span 62 = .ok (.iload 6, 2) := by decide +kernel
theorem dX8_span_64 : decode cX8_span 64 = .ok (.invokevirtual 183, 3) := by decide +kernel
theorem dX8_span_67 : decode cX8_span 67 = .ok (.bipush (-9), 2) := by decide +kernel
theorem dX8_span_69 : decode cX8_span 69 = .ok (.if_icmp .eq 119, 3) := by decide +kernel
theorem dX8_span_72 : decode cX8_span 72 = .ok (.iload 5, 2) := by decide +kernel
theorem dX8_span_74 : decode cX8_span 74 = .ok (.bipush (-9), 2) := by decide +kernel
theorem dX8_span_76 : decode cX8_span 76 = .ok (.if_icmp .eq 18, 3) := by decide +kernel
theorem dX8_span_79 : decode cX8_span 79 = .ok (.aload_n 0, 1) := by decide +kernel
theorem dX8_span_80 : decode cX8_span 80 = .ok (.iload_n 1, 1) := by decide +kernel
theorem dX8_span_81 : decode cX8_span 81 = .ok (.iload 5, 2) := by decide +kernel
theorem dX8_span_83 : decode cX8_span 83 = .ok (.iload 6, 2) := by decide +kernel
theorem dX8_span_85 : decode cX8_span 85 = .ok (.invokevirtual 187, 3) := by decide +kernel
theorem dX8_span_88 : decode cX8_span 88 = .ok (.ifCond .ne 6, 3) := by decide +kernel
theorem dX8_span_91 : decode cX8_span 91 = .ok (.ldc 186, 2) := by decide +kernel
theorem dX8_span_93 : decode cX8_span 93 = .ok (.ireturn, 1) := by decide +kernel
theorem dX8_span_94 : decode cX8_span 94 = .ok (.iload 6, 2) := by decide +kernel
theorem dX8_span_96 : decode cX8_span 96 = .ok (.istore 5, 2) := by decide +kernel
theorem dX8_span_98 : decode cX8_span 98 = .ok (.iload 6, 2) := by decide +kernel
theorem dX8_span_100 : decode cX8_span 100 = .ok (.iload_n 2, 1) := by decide +kernel
theorem dX8_span_101 : decode cX8_span 101 = .ok (.if_icmp .ge 7, 3) := by decide +kernel
theorem dX8_span_104 : decode cX8_span 104 = .ok (.iconst 1, 1) := by decide +kernel
theorem dX8_span_105 : decode cX8_span 105 = .ok (.goto 4, 3) := by decide +kernel
theorem dX8_span_108 : decode cX8_span 108 = .ok (.iconst 0, 1) := by decide +kernel
theorem dX8_span_109 : decode cX8_span 109 = .ok (.iload_n 3, 1) := by decide +kernel
theorem dX8_span_110 : decode cX8_span 110 = .ok (.ifCond .ne 7, 3) := by decide +kernel
theorem dX8_span_113 : decode cX8_span 113 = .ok (.iconst 1, 1) := by decide +kernel
theorem dX8_span_114 : decode cX8_span 114 = .ok (.goto 4, 3) := by decide +kernel
theorem dX8_span_117 : decode cX8_span 117 = .ok (.iconst 0, 1) := by decide +kernel
theorem dX8_span_118 : decode cX8_span 118 = .ok (.if_icmp .ne 10, 3) := by decide +kernel
theorem dX8_span_121 : decode cX8_span 121 = .ok (.aload_n 0, 1) := by decide +kernel
theorem dX8_span_122 : decode cX8_span 122 = .ok (.getfield 26, 3) := by decide +kernel
theorem dX8_span_125 : decode cX8_span 125 = .ok (.goto 7, 3) := by decide +kernel
theorem dX8_span_128 : decode cX8_span 128 = .ok (.aload_n 0, 1) := by decide +kernel
theorem dX8_span_129 : decode cX8_span 129 = .ok (.getfield 30, 3) := by decide +kernel
theorem dX8_span_132 : decode cX8_span 132 = .ok (.istore 7, 2) := by decide +kernel
theorem dX8_span_134 : decode cX8_span 134 = .ok (.aload_n 0, 1) := by decide +kernel
theorem dX8_span_135 : decode cX8_span 135 = .ok (.iload_n 1, 1) := by decide +kernel
theorem dX8_span_136 : decode cX8_span 136 = .ok (.iload 6, 2) := by decide +kernel
theorem dX8_span_138 : decode cX8_span 138 = .ok (.invokevirtual 183, 3) := by decide +kernel
theorem dX8_span_141 : decode cX8_span 141 = .ok (.iload 7, 2) := by decide +kernel
theorem dX8_span_143 : decode cX8_span 143 = .ok (.iload_n 2, 1) := by decide +kernel
theorem dX8_span_144 : decode cX8_span 144 = .ok (.iload 6, 2) := by decide +kernel
theorem dX8_span_146 : decode cX8_span 146 = .ok (.isub, 1) := by decide +kernel
theorem dX8_span_147 : decode cX8_span 147 = .ok (.imul, 1) := by decide +kernel
theorem dX8_span_148 : decode cX8_span 148 = .ok (.iadd, 1) := by decide +kernel
theorem dX8_span_149 : decode cX8_span 149 = .ok (.istore 8, 2) := by decide +kernel
theorem dX8_span_151 : decode cX8_span 151 = .ok (.iload 4, 2) := by decide +kernel
theorem dX8_span_153 : decode cX8_span 153 = .ok (.ldc 186, 2) := by decide +kernel
theorem dX8_span_155 : decode cX8_span 155 = .ok (.if_icmp .eq 24, 3) := by decide +kernel
theorem dX8_span_158 : decode cX8_span 158 = .ok (.iload_n 3, 1) := by decide +kernel
theorem dX8_span_159 : decode cX8_span 159 = .ok (.ifCond .ne 13, 3) := by decide +kernel
theorem dX8_span_162 : decode cX8_span 162 = .ok (.iload 8, 2) := by decide +kernel
theorem dX8_span_164 : decode cX8_span 164 = .ok (.iload 4, 2) := by decide +kernel
theorem dX8_span_166 : decode cX8_span 166 = .ok (.if_icmp .le 18, 3) := by decide +kernel
theorem dX8_span_169 : decode cX8_span 169 = .ok (.goto 10, 3) := by decide +kernel
theorem dX8_span_172 : decode cX8_span 172 = .ok (.iload 8, 2) := by decide +kernel
theorem dX8_span_174 : decode cX8_span 174 = .ok (.iload 4, 2) := by decide +kernel
theorem dX8_span_176 : decode cX8_span 176 = .ok (.if_icmp .ge 8, 3) := by decide +kernel
theorem dX8_span_179 : decode cX8_span 179 = .ok (.iload 8, 2) := by decide +kernel
theorem dX8_span_181 : decode cX8_span 181 = .ok (.goto 5, 3) := by decide +kernel
theorem dX8_span_184 : decode cX8_span 184 = .ok (.iload 4, 2) := by decide +kernel
theorem dX8_span_186 : decode cX8_span 186 = .ok (.istore 4, 2) := by decide +kernel
theorem dX8_span_188 : decode cX8_span 188 = .ok (.iinc 6 1, 3) := by decide +kernel
theorem dX8_span_191 : decode cX8_span 191 = .ok (.goto (-141), 3) := by decide +kernel
theorem dX8_span_194 : decode cX8_span 194 = .ok (.iload 4, 2) := by decide +kernel
theorem dX8_span_196 : decode cX8_span 196 = .ok (.ireturn, 1) := by decide +kernel
theorem dX8_lost_0 : decode cX8_lost 0 = .ok (.aload_n 0, 1) := by decide +kernel
theorem dX8_lost_1 : decode cX8_lost 1 = .ok (.iconst 0, 1) := by decide +kernel
theorem dX8_lost_2 : decode cX8_lost 2 = .ok (.putfield 61, 3) := by decide +kernel
theorem dX8_lost_5 : decode cX8_lost 5 = .ok (.iload_n 1, 1) := by decide +kernel
theorem dX8_lost_6 : decode cX8_lost 6 = .ok (.invokestatic 124, 3) := by decide +kernel
theorem dX8_lost_9 : decode cX8_lost 9 = .ok (.ifCond .ne 5, 3) := by decide +kernel
theorem dX8_lost_12 : decode cX8_lost 12 = .ok (.iconst (-1), 1) := by decide +kernel
theorem dX8_lost_13 : decode cX8_lost 13 = .ok (.ireturn, 1) := by decide +kernel
theorem dX8_lost_14 : decode cX8_lost 14 = .ok (.iconst 0, 1) := by decide +kernel
theorem dX8_lost_15 : decode cX8_lost 15 = .ok (.istore_n 2, 1) := by decide +kernel
theorem dX8_lost_16 : decode cX8_lost 16 = .ok (.bipush (-9), 2) := by decide +kernel
theorem dX8_lost_18 : decode cX8_lost 18 = .ok (.istore_n 3, 1) := by decide +kernel
theorem dX8_lost_19 : decode cX8_lost 19 = .ok (.iconst 0, 1) := by decide +kernel
theorem dX8_lost_20 : decode cX8_lost 20 = .ok (.istore 4, 2) := by decide +kernel
theorem dX8_lost_22 : decode cX8_lost 22 = .ok (.iload 4, 2) := by decide +kernel
theorem dX8_lost_24 : decode cX8_lost 24 = .ok (.aload_n 0, 1) := by decide +kernel
theorem dX8_lost_25 : decode cX8_lost 25 = .ok (.iload_n 1, 1) := by decide +kernel
theorem dX8_lost_26 : decode cX8_lost 26 = .ok (.invokevirtual 68, 3) := by decide +kernel
theorem dX8_lost_29 : decode cX8_lost 29 = .ok (.if_icmp .ge 95, 3) := by decide +kernel
theorem dX8_lost_32 : decode cX8_lost 32 = .ok (.aload_n 0, 1) := by decide +kernel
theorem dX8_lost_33 : decode cX8_lost 33 = .ok (.iload_n 1, 1) := by decide +kernel
theorem dX8_lost_34 : decode cX8_lost 34 = .ok (.iload 4, 2) := by decide +kernel
theorem dX8_lost_36 : decode cX8_lost 36 = .ok (.invokevirtual 183, 3) := by decide +kernel
theorem dX8_lost_39 : decode cX8_lost 39 = .ok (.bipush (-9), 2) := by decide +kernel
theorem dX8_lost_41 : decode cX8_lost 41 = .ok (.if_icmp .eq 77, 3) := by decide +kernel
theorem dX8_lost_44 : decode cX8_lost 44 = .ok (.iload_n 3, 1) := by decide +kernel
theorem dX8_lost_45 : decode cX8_lost 45 = .ok (.bipush (-9), 2) := by decide +kernel
theorem dX8_lost_47 : decode cX8_lost 47 = .ok (.if_icmp .eq 68, 3) := by decide +kernel
theorem dX8_lost_50 : decode cX8_lost 50 = .ok (.aload_n 0, 1) := by decide +kernel
theorem dX8_lost_51 : decode cX8_lost 51 = .ok (.iload_n 1, 1) := by decide +kernel
theorem dX8_lost_52 : decode cX8_lost 52 = .ok (.iload 4, 2) := by decide +kernel
theorem dX8_lost_54 : decode cX8_lost 54 = .ok (.invokevirtual 183, 3) := by decide +kernel
theorem dX8_lost_57 : decode cX8_lost 57 = .ok (.aload_n 0, 1) := by decide +kernel
theorem dX8_lost_58 : decode cX8_lost 58 = .ok (.iload_n 1, 1) := by decide +kernel
theorem dX8_lost_59 : decode cX8_lost 59 = .ok (.iload_n 3, 1) := by decide +kernel
theorem dX8_lost_60 : decode cX8_lost 60 = .ok (.invokevirtual 183, 3) := by decide +kernel
theorem dX8_lost_63 : decode cX8_lost 63 = .ok (.isub, 1) := by decide +kernel
theorem dX8_lost_64 : decode cX8_lost 64 = .ok (.istore 5, 2) := by decide +kernel
theorem dX8_lost_66 : decode cX8_lost 66 = .ok (.iload 4, 2) := by decide +kernel
theorem dX8_lost_68 : decode cX8_lost 68 = .ok (.iload_n 3, 1) := by decide +kernel
theorem dX8_lost_69 : decode cX8_lost 69 = .ok (.isub, 1) := by decide +kernel
theorem dX8_lost_70 : decode cX8_lost 70 = .ok (.istore 6, 2) := by decide +kernel
theorem dX8_lost_72 : decode cX8_lost 72 = .ok (.iload 6, 2) := by decide +kernel
theorem dX8_lost_74 : decode cX8_lost 74 = .ok (.aload_n 0, 1) := by decide +kernel
theorem dX8_lost_75 : decode cX8_lost 75 = .ok (.getfield 30, 3) := by decide +kernel
theorem dX8_lost_78 : decode cX8_lost 78 = .ok (.imul, 1) := by decide +kernel
theorem dX8_lost_79 : decode cX8_lost 79 = .ok (.iload 5, 2) := by decide +kernel
theorem dX8_lost_81 : decode cX8_lost 81 = .ok (.if_icmp .ge 9, 3) := by decide +kernel
theorem dX8_lost_84 : decode cX8_lost 84 = .ok (.iinc 6 1, 3) := by decide +kernel
theorem dX8_lost_87 : decode cX8_lost 87 = .ok (.goto (-15), 3) := by decide +kernel
theorem dX8_lost_90 : decode cX8_lost 90 = .ok (.iload 6, 2) := by decide +kernel
theorem dX8_lost_92 : decode cX8_lost 92 = .ok (.aload_n 0, 1) := by decide +kernel
theorem dX8_lost_93 : decode cX8_lost 93 = .ok (.getfield 26, 3) := by decide +kernel
theorem dX8_lost_96 : decode cX8_lost 96 = .ok (.imul, 1) := by decide +kernel
theorem dX8_lost_97 : decode cX8_lost 97 = .ok (.iload 5, 2) := by decide +kernel
theorem dX8_lost_99 : decode cX8_lost 99 = .ok (.if_icmp .le 6, 3) := by decide +kernel
theorem dX8_lost_102 : decode cX8_lost 102 = .ok (.bipush (-2), 2) := by decide +kernel
theorem dX8_lost_104 : decode cX8_lost 104 = .ok (.ireturn, 1) := by decide +kernel
theorem dX8_lost_105 : decode cX8_lost 105 = .ok (.iload_n 2, 1) := by decide +kernel
theorem dX8_lost_106 : decode cX8_lost 106 = .ok (.iload 6, 2) := by decide +kernel
theorem dX8_lost_108 : decode cX8_lost 108 = .ok (.iload 4, 2) := by decide +kernel
theorem dX8_lost_110 : decode cX8_lost 110 = .ok (.iload_n 3, 1) := by decide +kernel
theorem dX8_lost_111 : decode cX8_lost 111 = .ok (.isub, 1) := by decide +kernel
theorem dX8_lost_112 : decode cX8_lost 112 = .ok (.isub, 1) := by decide +kernel
theorem dX8_lost_113 : decode cX8_lost 113 = .ok (.iadd, 1) := by decide +kernel
theorem dX8_lost_114 : decode cX8_lost 114 = .ok (.istore_n 2, 1) := by decide +kernel
theorem dX8_lost_115 : decode cX8_lost 115 = .ok (.iload 4, 2) := by decide +kernel
theorem dX8_lost_117 : decode cX8_lost 117 = .ok (.istore_n 3, 1) := by decide +kernel
theorem dX8_lost_118 : decode cX8_lost 118 = .ok (.iinc 4 1, 3) := by decide +kernel
theorem dX8_lost_121 : decode cX8_lost 121 = .ok (.goto (-99), 3) := by decide +kernel
theorem dX8_lost_124 : decode cX8_lost 124 = .ok (.iload_n 2, 1) := by decide +kernel
theorem dX8_lost_125 : decode cX8_lost 125 = .ok (.ireturn, 1) := by decide +kernel
theorem dX8_court_0 : decode cX8_court 0 = .ok (.aload_n 0, 1) := by decide +kernel
theorem dX8_court_1 : decode cX8_court 1 = .ok (.iconst 0, 1) := by decide +kernel
theorem dX8_court_2 : decode cX8_court 2 = .ok (.putfield 61, 3) := by decide +kernel
theorem dX8_court_5 : decode cX8_court 5 = .ok (.iload_n 1, 1) := by decide +kernel
theorem dX8_court_6 : decode cX8_court 6 = .ok (.invokestatic 169, 3) := by decide +kernel
theorem dX8_court_9 : decode cX8_court 9 = .ok (.ifCond .eq 49, 3) := by decide +kernel
theorem dX8_court_12 : decode cX8_court 12 = .ok (.iload_n 2, 1) := by decide +kernel
theorem dX8_court_13 : decode cX8_court 13 = .ok (.iconst 0, 1) := by decide +kernel
theorem dX8_court_14 : decode cX8_court 14 = .ok (.iconst 5, 1) := by decide +kernel
theorem dX8_court_15 : decode cX8_court 15 = .ok (.invokestatic 64, 3) := by decide +kernel
theorem dX8_court_18 : decode cX8_court 18 = .ok (.ifCond .eq 40, 3) := by decide +kernel
theorem dX8_court_21 : decode cX8_court 21 = .ok (.iload_n 3, 1) := by decide +kernel
theorem dX8_court_22 : decode cX8_court 22 = .ok (.iconst 0, 1) := by decide +kernel
theorem dX8_court_23 : decode cX8_court 23 = .ok (.iconst 5, 1) := by decide +kernel
theorem dX8_court_24 : decode cX8_court 24 = .ok (.invokestatic 64, 3) := by decide +kernel
theorem dX8_court_27 : decode cX8_court 27 = .ok (.ifCond .eq 31, 3) := by decide +kernel
theorem dX8_court_30 : decode cX8_court 30 = .ok (.aload_n 0, 1) := by decide +kernel
theorem dX8_court_31 : decode cX8_court 31 = .ok (.getfield 7, 3) := by decide +kernel
theorem dX8_court_34 : decode cX8_court 34 = .ok (.bipush 58, 2) := by decide +kernel
theorem dX8_court_36 : decode cX8_court 36 = .ok (.iload_n 2, 1) := by decide +kernel
theorem dX8_court_37 : decode cX8_court 37 = .ok (.iadd, 1) := by decide +kernel
theorem dX8_court_38 : decode cX8_court 38 = .ok (.iaload, 1) := by decide +kernel
theorem dX8_court_39 : decode cX8_court 39 = .ok (.bipush (-9), 2) := by decide +kernel
theorem dX8_court_41 : decode cX8_court 41 = .ok (.if_icmp .eq 17, 3) := by decide +kernel
theorem dX8_court_44 : decode cX8_court 44 = .ok (.aload_n 0, 1) := by decide +kernel
theorem dX8_court_45 : decode cX8_court 45 = .ok (.getfield 7, 3) := by decide +kernel
theorem dX8_court_48 : decode cX8_court 48 = .ok (.bipush 58, 2) := by decide +kernel
theorem dX8_court_50 : decode cX8_court 50 = .ok (.iload_n 3, 1) := by decide +kernel
theorem dX8_court_51 : decode cX8_court 51 = .ok (.iadd, 1) := by decide +kernel
theorem dX8_court_52 : decode cX8_court 52 = .ok (.iaload, 1) := by decide +kernel
theorem dX8_court_53 : decode cX8_court 53 = .ok (.bipush (-9), 2) := by decide +kernel
theorem dX8_court_55 : decode cX8_court 55 = .ok (.if_icmp .ne 6, 3) := by decide +kernel
theorem dX8_court_58 : decode cX8_court 58 = .ok (.ldc 186, 2) := by decide +kernel
theorem dX8_court_60 : decode cX8_court 60 = .ok (.ireturn, 1) := by decide +kernel
theorem dX8_court_61 : decode cX8_court 61 = .ok (.iconst 0, 1) := by decide +kernel
theorem dX8_court_62 : decode cX8_court 62 = .ok (.istore 4, 2) := by decide +kernel
theorem dX8_court_64 : decode cX8_court 64 = .ok (.iconst 0, 1) := by decide +kernel
theorem dX8_court_65 : decode cX8_court 65 = .ok (.istore 5, 2) := by decide +kernel
theorem dX8_court_67 : decode cX8_court 67 = .ok (.iload 5, 2) := by decide +kernel
theorem dX8_court_69 : decode cX8_court 69 = .ok (.iconst 4, 1) := by decide +kernel
theorem dX8_court_70 : decode cX8_court 70 = .ok (.if_icmp .ge 121, 3) := by decide +kernel
theorem dX8_court_73 : decode cX8_court 73 = .ok (.aload_n 0, 1) := by decide +kernel
theorem dX8_court_74 : decode cX8_court 74 = .ok (.iload 5, 2) := by decide +kernel
theorem dX8_court_76 : decode cX8_court 76 = .ok (.aload_n 0, 1) := by decide +kernel
theorem dX8_court_77 : decode cX8_court 77 = .ok (.getfield 7, 3) := by decide +kernel
theorem dX8_court_80 : decode cX8_court 80 = .ok (.bipush 58, 2) := by decide +kernel
theorem dX8_court_82 : decode cX8_court 82 = .ok (.iload_n 2, 1) := by decide +kernel
theorem dX8_court_83 : decode cX8_court 83 = .ok (.iadd, 1) := by decide +kernel
theorem dX8_court_84 : decode cX8_court 84 = .ok (.iaload, 1) := by decide +kernel
theorem dX8_court_85 : decode cX8_court 85 = .ok (.invokevirtual 131, 3) := by decide +kernel
theorem dX8_court_88 : decode cX8_court 88 = .ok (.istore 6, 2) := by decide +kernel
theorem dX8_court_90 : decode cX8_court 90 = .ok (.aload_n 0, 1) := by decide +kernel
theorem dX8_court_91 : decode cX8_court 91 = .ok (.iload 5, 2) := by decide +kernel
theorem dX8_court_93 : decode cX8_court 93 = .ok (.aload_n 0, 1) := by decide +kernel
theorem dX8_court_94 : decode cX8_court 94 = .ok (.getfield 7, 3) := by decide +kernel
theorem dX8_court_97 : decode cX8_court 97 = .ok (.bipush 58, 2) := by decide +kernel
theorem dX8_court_99 : decode cX8_court 99 = .ok (.iload_n 3, 1) := by decide +kernel
theorem dX8_court_100 : decode cX8_court 100 = .ok (.iadd, 1) := by decide +kernel
theorem dX8_court_101 : decode cX8_court 101 = .ok (.iaload, 1) := by decide +kernel
theorem dX8_court_102 : decode cX8_court 102 = .ok (.invokevirtual 131, 3) := by decide +kernel
theorem dX8_court_105 : decode cX8_court 105 = .ok (.istore 7, 2) := by decide +kernel
theorem dX8_court_107 : decode cX8_court 107 = .ok (.iload 6, 2) := by decide +kernel
theorem dX8_court_109 : decode cX8_court 109 = .ok (.bipush (-9), 2) := by decide +kernel
theorem dX8_court_111 : decode cX8_court 111 = .ok (.if_icmp .ne 8, 3) := by decide +kernel
theorem dX8_court_114 : decode cX8_court 114 = .ok (.bipush 99, 2) := by decide +kernel
theorem dX8_court_116 : decode cX8_court 116 = .ok (.goto 5, 3) := by decide +kernel
theorem dX8_court_119 : decode cX8_court 119 = .ok (.iload 6, 2) := by decide +kernel
theorem dX8_court_121 : decode cX8_court 121 = .ok (.istore 8, 2) := by decide +kernel
theorem dX8_court_123 : decode cX8_court 123 = .ok (.iload 7, 2) := by decide +kernel
theorem dX8_court_125 : decode cX8_court 125 = .ok (.bipush (-9), 2) := by decide +kernel
theorem dX8_court_127 : decode cX8_court 127 = .ok (.if_icmp .ne 8, 3) := by decide +kernel
theorem dX8_court_130 : decode cX8_court 130 = .ok (.bipush 99, 2) := by decide +kernel
theorem dX8_court_132 : decode cX8_court 132 = .ok (.goto 5, 3) := by decide +kernel
theorem dX8_court_135 : decode cX8_court 135 = .ok (.iload 7, 2) := by decide +kernel
theorem dX8_court_137 : decode cX8_court 137 = .ok (.istore 9, 2) := by decide +kernel
theorem dX8_court_139 : decode cX8_court 139 = .ok (.iload 8, 2) := by decide +kernel
theorem dX8_court_141 : decode cX8_court 141 = .ok (.iload 9, 2) := by decide +kernel
theorem dX8_court_143 : decode cX8_court 143 = .ok (.if_icmp .ge 7, 3) := by decide +kernel
theorem dX8_court_146 : decode cX8_court 146 = .ok (.iconst 1, 1) := by decide +kernel
theorem dX8_court_147 : decode cX8_court 147 = .ok (.goto 15, 3) := by decide +kernel
theorem dX8_court_150 : decode cX8_court 150 = .ok (.iload 8, 2) := by decide +kernel
theorem dX8_court_152 : decode cX8_court 152 = .ok (.iload 9, 2) := by decide +kernel
theorem dX8_court_154 : decode cX8_court 154 = .ok (.if_icmp .le 7, 3) := by decide +kernel
theorem dX8_court_157 : decode cX8_court 157 = .ok (.iconst (-1), 1) := by decide +kernel
theorem dX8_court_158 : decode cX8_court 158 = .ok (.goto 4, 3) := by decide +kernel
theorem dX8_court_161 : decode cX8_court 161 = .ok (.iconst 0, 1) := by decide +kernel
theorem dX8_court_162 : decode cX8_court 162 = .ok (.istore 10, 2) := by decide +kernel
theorem dX8_court_164 : decode cX8_court 164 = .ok (.iload 4, 2) := by decide +kernel
theorem dX8_court_166 : decode cX8_court 166 = .ok (.iload_n 1, 1) := by decide +kernel
theorem dX8_court_167 : decode cX8_court 167 = .ok (.iload 5, 2) := by decide +kernel
theorem dX8_court_169 : decode cX8_court 169 = .ok (.ishr, 1) := by decide +kernel
theorem dX8_court_170 : decode cX8_court 170 = .ok (.iconst 1, 1) := by decide +kernel
theorem dX8_court_171 : decode cX8_court 171 = .ok (.iand, 1) := by decide +kernel
theorem dX8_court_172 : decode cX8_court 172 = .ok (.iconst 1, 1) := by decide +kernel
theorem dX8_court_173 : decode cX8_court 173 = .ok (.if_icmp .ne 8, 3) := by decide +kernel
theorem dX8_court_176 : decode cX8_court 176 = .ok (.iload 10, 2) := by decide +kernel
theorem dX8_court_178 : decode cX8_court 178 = .ok (.goto 4, 3) := by decide +kernel
theorem dX8_court_181 : decode cX8_court 181 = .ok (.iconst 0, 1) := by decide +kernel
theorem dX8_court_182 : decode cX8_court 182 = .ok (.iadd, 1) := by decide +kernel
theorem dX8_court_183 : decode cX8_court 183 = .ok (.istore 4, 2) := by decide +kernel
theorem dX8_court_185 : decode cX8_court 185 = .ok (.iinc 5 1, 3) := by decide +kernel
theorem dX8_court_188 : decode cX8_court 188 = .ok (.goto (-121), 3) := by decide +kernel
theorem dX8_court_191 : decode cX8_court 191 = .ok (.iload 4, 2) := by decide +kernel
theorem dX8_court_193 : decode cX8_court 193 = .ok (.ireturn, 1) := by decide +kernel
theorem dX8_worth_0 : decode cX8_worth 0 = .ok (.aload_n 0, 1) := by decide +kernel
theorem dX8_worth_1 : decode cX8_worth 1 = .ok (.iconst 0, 1) := by decide +kernel
theorem dX8_worth_2 : decode cX8_worth 2 = .ok (.putfield 61, 3) := by decide +kernel
theorem dX8_worth_5 : decode cX8_worth 5 = .ok (.iload_n 1, 1) := by decide +kernel
theorem dX8_worth_6 : decode cX8_worth 6 = .ok (.iconst 0, 1) := by decide +kernel
theorem dX8_worth_7 : decode cX8_worth 7 = .ok (.iconst 5, 1) := by decide +kernel
theorem dX8_worth_8 : decode cX8_worth 8 = .ok (.invokestatic 64, 3) := by decide +kernel
theorem dX8_worth_11 : decode cX8_worth 11 = .ok (.ifCond .eq 10, 3) := by decide +kernel
theorem dX8_worth_14 : decode cX8_worth 14 = .ok (.iload_n 2, 1) := by decide +kernel
theorem dX8_worth_15 : decode cX8_worth 15 = .ok (.invokestatic 128, 3) := by decide +kernel
theorem dX8_worth_18 : decode cX8_worth 18 = .ok (.ifCond .ne 5, 3) := by decide +kernel
theorem dX8_worth_21 : decode cX8_worth 21 = .ok (.iconst (-1), 1) := by decide +kernel
theorem dX8_worth_22 : decode cX8_worth 22 = .ok (.ireturn, 1) := by decide +kernel
theorem dX8_worth_23 : decode cX8_worth 23 = .ok (.iconst 0, 1) := by decide +kernel
theorem dX8_worth_24 : decode cX8_worth 24 = .ok (.istore_n 3, 1) := by decide +kernel
theorem dX8_worth_25 : decode cX8_worth 25 = .ok (.iconst 0, 1) := by decide +kernel
theorem dX8_worth_26 : decode cX8_worth 26 = .ok (.istore 4, 2) := by decide +kernel
theorem dX8_worth_28 : decode cX8_worth 28 = .ok (.iconst 0, 1) := by decide +kernel
theorem dX8_worth_29 : decode cX8_worth 29 = .ok (.istore 5, 2) := by decide +kernel
theorem dX8_worth_31 : decode cX8_worth 31 = .ok (.iload 5, 2) := by decide +kernel
theorem dX8_worth_33 : decode cX8_worth 33 = .ok (.iconst 4, 1) := by decide +kernel
theorem dX8_worth_34 : decode cX8_worth 34 = .ok (.if_icmp .ge 29, 3) := by decide +kernel
theorem dX8_worth_37 : decode cX8_worth 37 = .ok (.iload_n 3, 1) := by decide +kernel
theorem dX8_worth_38 : decode cX8_worth 38 = .ok (.aload_n 0, 1) := by decide +kernel
theorem dX8_worth_39 : decode cX8_worth 39 = .ok (.iload 5, 2) := by decide +kernel
theorem dX8_worth_41 : decode cX8_worth 41 = .ok (.iload_n 2, 1) := by decide +kernel
theorem dX8_worth_42 : decode cX8_worth 42 = .ok (.invokevirtual 131, 3) := by decide +kernel
theorem dX8_worth_45 : decode cX8_worth 45 = .ok (.bipush (-9), 2) := by decide +kernel
theorem dX8_worth_47 : decode cX8_worth 47 = .ok (.if_icmp .eq 7, 3) := by decide +kernel
theorem dX8_worth_50 : decode cX8_worth 50 = .ok (.iconst 1, 1) := by decide +kernel
theorem dX8_worth_51 : decode cX8_worth 51 = .ok (.goto 4, 3) := by decide +kernel
theorem dX8_worth_54 : decode cX8_worth 54 = .ok (.iconst 0, 1) := by decide +kernel
theorem dX8_worth_55 : decode cX8_worth 55 = .ok (.iadd, 1) := by decide +kernel
theorem dX8_worth_56 : decode cX8_worth 56 = .ok (.istore_n 3, 1) := by decide +kernel
theorem dX8_worth_57 : decode cX8_worth 57 = .ok (.iinc 5 1, 3) := by decide +kernel
theorem dX8_worth_60 : decode cX8_worth 60 = .ok (.goto (-29), 3) := by decide +kernel
theorem dX8_worth_63 : decode cX8_worth 63 = .ok (.iconst 0, 1) := by decide +kernel
theorem dX8_worth_64 : decode cX8_worth 64 = .ok (.istore 5, 2) := by decide +kernel
theorem dX8_worth_66 : decode cX8_worth 66 = .ok (.iload 5, 2) := by decide +kernel
theorem dX8_worth_68 : decode cX8_worth 68 = .ok (.bipush 6, 2) := by decide +kernel
theorem dX8_worth_70 : decode cX8_worth 70 = .ok (.if_icmp .ge 33, 3) := by decide +kernel
theorem dX8_worth_73 : decode cX8_worth 73 = .ok (.iload 4, 2) := by decide +kernel
theorem dX8_worth_75 : decode cX8_worth 75 = .ok (.aload_n 0, 1) := by decide +kernel
theorem dX8_worth_76 : decode cX8_worth 76 = .ok (.getfield 7, 3) := by decide +kernel
theorem dX8_worth_79 : decode cX8_worth 79 = .ok (.bipush 58, 2) := by decide +kernel
theorem dX8_worth_81 : decode cX8_worth 81 = .ok (.iload 5, 2) := by decide +kernel
theorem dX8_worth_83 : decode cX8_worth 83 = .ok (.iadd, 1) := by decide +kernel
theorem dX8_worth_84 : decode cX8_worth 84 = .ok (.iaload, 1) := by decide +kernel
theorem dX8_worth_85 : decode cX8_worth 85 = .ok (.iload_n 2, 1) := by decide +kernel
theorem dX8_worth_86 : decode cX8_worth 86 = .ok (.if_icmp .ne 7, 3) := by decide +kernel
theorem dX8_worth_89 : decode cX8_worth 89 = .ok (.iconst 1, 1) := by decide +kernel
theorem dX8_worth_90 : decode cX8_worth 90 = .ok (.goto 4, 3) := by decide +kernel
theorem dX8_worth_93 : decode cX8_worth 93 = .ok (.iconst 0, 1) := by decide +kernel
theorem dX8_worth_94 : decode cX8_worth 94 = .ok (.iadd, 1) := by decide +kernel
theorem dX8_worth_95 : decode cX8_worth 95 = .ok (.istore 4, 2) := by decide +kernel
theorem dX8_worth_97 : decode cX8_worth 97 = .ok (.iinc 5 1, 3) := by decide +kernel
theorem dX8_worth_100 : decode cX8_worth 100 = .ok (.goto (-34), 3) := by decide +kernel
theorem dX8_worth_103 : decode cX8_worth 103 = .ok (.iload_n 3, 1) := by decide +kernel
theorem dX8_worth_104 : decode cX8_worth 104 = .ok (.iconst 2, 1) := by decide +kernel
theorem dX8_worth_105 : decode cX8_worth 105 = .ok (.iload 4, 2) := by decide +kernel
theorem dX8_worth_107 : decode cX8_worth 107 = .ok (.imul, 1) := by decide +kernel
theorem dX8_worth_108 : decode cX8_worth 108 = .ok (.iadd, 1) := by decide +kernel
theorem dX8_worth_109 : decode cX8_worth 109 = .ok (.istore 5, 2) := by decide +kernel
theorem dX8_worth_111 : decode cX8_worth 111 = .ok (.iload_n 3, 1) := by decide +kernel
theorem dX8_worth_112 : decode cX8_worth 112 = .ok (.aload_n 0, 1) := by decide +kernel
theorem dX8_worth_113 : decode cX8_worth 113 = .ok (.getfield 7, 3) := by decide +kernel
theorem dX8_worth_116 : decode cX8_worth 116 = .ok (.bipush 64, 2) := by decide +kernel
theorem dX8_worth_118 : decode cX8_worth 118 = .ok (.iload_n 2, 1) := by decide +kernel
theorem dX8_worth_119 : decode cX8_worth 119 = .ok (.iadd, 1) := by decide +kernel
theorem dX8_worth_120 : decode cX8_worth 120 = .ok (.iaload, 1) := by decide +kernel
theorem dX8_worth_121 : decode cX8_worth 121 = .ok (.bipush (-9), 2) := by decide +kernel
theorem dX8_worth_123 : decode cX8_worth 123 = .ok (.if_icmp .eq 8, 3) := by decide +kernel
theorem dX8_worth_126 : decode cX8_worth 126 = .ok (.bipush 7, 2) := by decide +kernel
theorem dX8_worth_128 : decode cX8_worth 128 = .ok (.goto 4, 3) := by decide +kernel
theorem dX8_worth_131 : decode cX8_worth 131 = .ok (.iconst 0, 1) := by decide +kernel
theorem dX8_worth_132 : decode cX8_worth 132 = .ok (.iadd, 1) := by decide +kernel
theorem dX8_worth_133 : decode cX8_worth 133 = .ok (.istore 6, 2) := by decide +kernel
theorem dX8_worth_135 : decode cX8_worth 135 = .ok (.aload_n 0, 1) := by decide +kernel
theorem dX8_worth_136 : decode cX8_worth 136 = .ok (.dup, 1) := by decide +kernel
theorem dX8_worth_137 : decode cX8_worth 137 = .ok (.getfield 190, 3) := by decide +kernel
theorem dX8_worth_140 : decode cX8_worth 140 = .ok (.iload_n 1, 1) := by decide +kernel
theorem dX8_worth_141 : decode cX8_worth 141 = .ok (.ifCond .ne 7, 3) := by decide +kernel
theorem dX8_worth_144 : decode cX8_worth 144 = .ok (.lconst 1, 1) := by decide +kernel
theorem dX8_worth_145 : decode cX8_worth 145 = .ok (.goto 50, 3) := by decide +kernel
theorem dX8_worth_148 : decode cX8_worth 148 = .ok (.iload_n 1, 1) := by decide +kernel
theorem dX8_worth_149 : decode cX8_worth 149 = .ok (.iconst 1, 1) := by decide +kernel
theorem dX8_worth_150 : decode cX8_worth 150 = .ok (.if_icmp .ne 9, 3) := by decide +kernel
theorem dX8_worth_153 : decode cX8_worth 153 = .ok (.ldc2_w 194, 3) := by decide +kernel
theorem dX8_worth_156 : decode cX8_worth 156 = .ok (.goto 39, 3) := by decide +kernel
theorem dX8_worth_159 : decode cX8_worth 159 = .ok (.iload_n 1, 1) := by decide +kernel
theorem dX8_worth_160 : decode cX8_worth 160 = .ok (.iconst 2, 1) := by decide +kernel
theorem dX8_worth_161 : decode cX8_worth 161 = .ok (.if_icmp .ne 9, 3) := by decide +kernel
theorem dX8_worth_164 : decode cX8_worth 164 = .ok (.ldc2_w 196, 3) := by decide +kernel
theorem dX8_worth_167 : decode cX8_worth 167 = .ok (.goto 28, 3) := by decide +kernel
theorem dX8_worth_170 : decode cX8_worth 170 = .ok (.iload_n 1, 1) := by decide +kernel
theorem dX8_worth_171 : decode cX8_worth 171 = .ok (.iconst 3, 1) := by decide +kernel
theorem dX8_worth_172 : decode cX8_worth 172 = .ok (.if_icmp .ne 9, 3) := by decide +kernel
theorem dX8_worth_175 : decode cX8_worth 175 = .ok (.ldc2_w 198, 3) := by decide +kernel
theorem dX8_worth_178 : decode cX8_worth 178 = .ok (.goto 17, 3) := by decide +kernel
theorem dX8_worth_181 : decode cX8_worth 181 = .ok (.iload_n 1, 1) := by decide +kernel
theorem dX8_worth_182 : decode cX8_worth 182 = .ok (.iconst 4, 1) := by decide +kernel
theorem dX8_worth_183 : decode cX8_worth 183 = .ok (.if_icmp .ne 9, 3) := by decide +kernel
theorem dX8_worth_186 : decode cX8_worth 186 = .ok (.ldc2_w 200, 3) := by decide +kernel
theorem dX8_worth_189 : decode cX8_worth 189 = .ok (.goto 6, 3) := by decide +kernel
theorem dX8_worth_192 : decode cX8_worth 192 = .ok (.ldc2_w 202, 3) := by decide +kernel
theorem dX8_worth_195 : decode cX8_worth 195 = .ok (.ladd, 1) := by decide +kernel
theorem dX8_worth_196 : decode cX8_worth 196 = .ok (.putfield 190, 3) := by decide +kernel
theorem dX8_worth_199 : decode cX8_worth 199 = .ok (.iload_n 1, 1) := by decide +kernel
theorem dX8_worth_200 : decode cX8_worth 200 = .ok (.ifCond .ne 7, 3) := by decide +kernel
theorem dX8_worth_203 : decode cX8_worth 203 = .ok (.iload_n 3, 1) := by decide +kernel
theorem dX8_worth_204 : decode cX8_worth 204 = .ok (.goto 55, 3) := by decide +kernel
theorem dX8_worth_207 : decode cX8_worth 207 = .ok (.iload_n 1, 1) := by decide +kernel
theorem dX8_worth_208 : decode cX8_worth 208 = .ok (.iconst 1, 1) := by decide +kernel
theorem dX8_worth_209 : decode cX8_worth 209 = .ok (.if_icmp .ne 13, 3) := by decide +kernel
theorem dX8_worth_212 : decode cX8_worth 212 = .ok (.iload_n 3, 1) := by decide +kernel
theorem dX8_worth_213 : decode cX8_worth 213 = .ok (.aload_n 0, 1) := by decide +kernel
theorem dX8_worth_214 : decode cX8_worth 214 = .ok (.iload_n 2, 1) := by decide +kernel
theorem dX8_worth_215 : decode cX8_worth 215 = .ok (.invokevirtual 134, 3) := by decide +kernel
theorem dX8_worth_218 : decode cX8_worth 218 = .ok (.iadd, 1) := by decide +kernel
theorem dX8_worth_219 : decode cX8_worth 219 = .ok (.goto 40, 3) := by decide +kernel
theorem dX8_worth_222 : decode cX8_worth 222 = .ok (.iload_n 1, 1) := by decide +kernel
theorem dX8_worth_223 : decode cX8_worth 223 = .ok (.iconst 2, 1) := by decide +kernel
theorem dX8_worth_224 : decode cX8_worth 224 = .ok (.if_icmp .ne 8, 3) := by decide +kernel
theorem dX8_worth_227 : decode cX8_worth 227 = .ok (.iload 5, 2) := by decide +kernel
theorem dX8_worth_229 : decode cX8_worth 229 = .ok (.goto 30, 3) := by decide +kernel
theorem dX8_worth_232 : decode cX8_worth 232 = .ok (.iload_n 1, 1) := by decide +kernel
theorem dX8_worth_233 : decode cX8_worth 233 = .ok (.iconst 3, 1) := by decide +kernel
theorem dX8_worth_234 : decode cX8_worth 234 = .ok (.if_icmp .ne 11, 3) := by decide +kernel
theorem dX8_worth_237 : decode cX8_worth 237 = .ok (.iload 5, 2) := by decide +kernel
theorem dX8_worth_239 : decode cX8_worth 239 = .ok (.iload 5, 2) := by decide +kernel
theorem dX8_worth_241 : decode cX8_worth 241 = .ok (.imul, 1) := by decide +kernel
theorem dX8_worth_242 : decode cX8_worth 242 = .ok (.goto 17, 3) := by decide +kernel
theorem dX8_worth_245 : decode cX8_worth 245 = .ok (.iload_n 1, 1) := by decide +kernel
theorem dX8_worth_246 : decode cX8_worth 246 = .ok (.iconst 4, 1) := by decide +kernel
theorem dX8_worth_247 : decode cX8_worth 247 = .ok (.if_icmp .ne 8, 3) := by decide +kernel
theorem dX8_worth_250 : decode cX8_worth 250 = .ok (.iload 6, 2) := by decide +kernel
theorem dX8_worth_252 : decode cX8_worth 252 = .ok (.goto 7, 3) := by decide +kernel
theorem dX8_worth_255 : decode cX8_worth 255 = .ok (.iload 6, 2) := by decide +kernel
theorem dX8_worth_257 : decode cX8_worth 257 = .ok (.iconst 2, 1) := by decide +kernel
theorem dX8_worth_258 : decode cX8_worth 258 = .ok (.idiv, 1) := by decide +kernel
theorem dX8_worth_259 : decode cX8_worth 259 = .ok (.ireturn, 1) := by decide +kernel
theorem dX8_together_0 : decode cX8_together 0 = .ok (.aload_n 0, 1) := by decide +kernel
theorem dX8_together_1 : decode cX8_together 1 = .ok (.iconst 0, 1) := by decide +kernel
theorem dX8_together_2 : decode cX8_together 2 = .ok (.invokevirtual 68, 3) := by decide +kernel
theorem dX8_together_5 : decode cX8_together 5 = .ok (.aload_n 0, 1) := by decide +kernel
theorem dX8_together_6 : decode cX8_together 6 = .ok (.iconst 1, 1) := by decide +kernel
theorem dX8_together_7 : decode cX8_together 7 = .ok (.invokevirtual 68, 3) := by decide +kernel
theorem dX8_together_10 : decode cX8_together 10 = .ok (.iadd, 1) := by decide +kernel
theorem dX8_together_11 : decode cX8_together 11 = .ok (.aload_n 0, 1) := by decide +kernel
theorem dX8_together_12 : decode cX8_together 12 = .ok (.iconst 2, 1) := by decide +kernel
theorem dX8_together_13 : decode cX8_together 13 = .ok (.invokevirtual 68, 3) := by decide +kernel
theorem dX8_together_16 : decode cX8_together 16 = .ok (.iadd, 1) := by decide +kernel
theorem dX8_together_17 : decode cX8_together 17 = .ok (.aload_n 0, 1) := by decide +kernel
theorem dX8_together_18 : decode cX8_together 18 = .ok (.iconst 3, 1) := by decide +kernel
theorem dX8_together_19 : decode cX8_together 19 = .ok (.invokevirtual 68, 3) := by decide +kernel
theorem dX8_together_22 : decode cX8_together 22 = .ok (.iadd, 1) := by decide +kernel
theorem dX8_together_23 : decode cX8_together 23 = .ok (.ireturn, 1) := by decide +kernel
theorem dX8_keep_0 : decode cX8_keep 0 = .ok (.aload_n 0, 1) := by decide +kernel
theorem dX8_keep_1 : decode cX8_keep 1 = .ok (.iconst 0, 1) := by decide +kernel
theorem dX8_keep_2 : decode cX8_keep 2 = .ok (.putfield 61, 3) := by decide +kernel
theorem dX8_keep_5 : decode cX8_keep 5 = .ok (.iload_n 1, 1) := by decide +kernel
theorem dX8_keep_6 : decode cX8_keep 6 = .ok (.iconst 0, 1) := by decide +kernel
theorem dX8_keep_7 : decode cX8_keep 7 = .ok (.iconst 1, 1) := by decide +kernel
theorem dX8_keep_8 : decode cX8_keep 8 = .ok (.invokestatic 64, 3) := by decide +kernel
theorem dX8_keep_11 : decode cX8_keep 11 = .ok (.ifCond .ne 5, 3) := by decide +kernel
theorem dX8_keep_14 : decode cX8_keep 14 = .ok (.iconst (-1), 1) := by decide +kernel
theorem dX8_keep_15 : decode cX8_keep 15 = .ok (.ireturn, 1) := by decide +kernel
theorem dX8_keep_16 : decode cX8_keep 16 = .ok (.iconst 0, 1) := by decide +kernel
theorem dX8_keep_17 : decode cX8_keep 17 = .ok (.istore_n 2, 1) := by decide +kernel
theorem dX8_keep_18 : decode cX8_keep 18 = .ok (.iload_n 2, 1) := by decide +kernel
theorem dX8_keep_19 : decode cX8_keep 19 = .ok (.bipush 90, 2) := by decide +kernel
theorem dX8_keep_21 : decode cX8_keep 21 = .ok (.if_icmp .ge 26, 3) := by decide +kernel
theorem dX8_keep_24 : decode cX8_keep 24 = .ok (.aload_n 0, 1) := by decide +kernel
theorem dX8_keep_25 : decode cX8_keep 25 = .ok (.getfield 13, 3) := by decide +kernel
theorem dX8_keep_28 : decode cX8_keep 28 = .ok (.bipush 90, 2) := by decide +kernel
theorem dX8_keep_30 : decode cX8_keep 30 = .ok (.iload_n 1, 1) := by decide +kernel
theorem dX8_keep_31 : decode cX8_keep 31 = .ok (.imul, 1) := by decide +kernel
theorem dX8_keep_32 : decode cX8_keep 32 = .ok (.iload_n 2, 1) := by decide +kernel
theorem dX8_keep_33 : decode cX8_keep 33 = .ok (.iadd, 1) := by decide +kernel
theorem dX8_keep_34 : decode cX8_keep 34 = .ok (.aload_n 0, 1) := by decide +kernel
theorem dX8_keep_35 : decode cX8_keep 35 = .ok (.getfield 7, 3) := by decide +kernel
theorem dX8_keep_38 : decode cX8_keep 38 = .ok (.iload_n 2, 1) := by decide +kernel
theorem dX8_keep_39 : decode cX8_keep 39 = .ok (.iaload, 1) := by decide +kernel
theorem dX8_keep_40 : decode cX8_keep 40 = .ok (.iastore, 1) := by decide +kernel
theorem dX8_keep_41 : decode cX8_keep 41 = .ok (.iinc 2 1, 3) := by decide +kernel
theorem dX8_keep_44 : decode cX8_keep 44 = .ok (.goto (-26), 3) := by decide +kernel
theorem dX8_keep_47 : decode cX8_keep 47 = .ok (.aload_n 0, 1) := by decide +kernel
theorem dX8_keep_48 : decode cX8_keep 48 = .ok (.getfield 16, 3) := by decide +kernel
theorem dX8_keep_51 : decode cX8_keep 51 = .ok (.iload_n 1, 1) := by decide +kernel
theorem dX8_keep_52 : decode cX8_keep 52 = .ok (.iconst 1, 1) := by decide +kernel
theorem dX8_keep_53 : decode cX8_keep 53 = .ok (.bastore, 1) := by decide +kernel
theorem dX8_keep_54 : decode cX8_keep 54 = .ok (.aload_n 0, 1) := by decide +kernel
theorem dX8_keep_55 : decode cX8_keep 55 = .ok (.invokevirtual 204, 3) := by decide +kernel
theorem dX8_keep_58 : decode cX8_keep 58 = .ok (.ireturn, 1) := by decide +kernel
theorem dX8_back_0 : decode cX8_back 0 = .ok (.aload_n 0, 1) := by decide +kernel
theorem dX8_back_1 : decode cX8_back 1 = .ok (.iconst 0, 1) := by decide +kernel
theorem dX8_back_2 : decode cX8_back 2 = .ok (.putfield 61, 3) := by decide +kernel
theorem dX8_back_5 : decode cX8_back 5 = .ok (.iload_n 1, 1) := by decide +kernel
theorem dX8_back_6 : decode cX8_back 6 = .ok (.iconst 0, 1) := by decide +kernel
theorem dX8_back_7 : decode cX8_back 7 = .ok (.iconst 1, 1) := by decide +kernel
theorem dX8_back_8 : decode cX8_back 8 = .ok (.invokestatic 64, 3) := by decide +kernel
theorem dX8_back_11 : decode cX8_back 11 = .ok (.ifCond .ne 5, 3) := by decide +kernel
theorem dX8_back_14 : decode cX8_back 14 = .ok (.iconst (-1), 1) := by decide +kernel
theorem dX8_back_15 : decode cX8_back 15 = .ok (.ireturn, 1) := by decide +kernel
theorem dX8_back_16 : decode cX8_back 16 = .ok (.aload_n 0, 1) := by decide +kernel
theorem dX8_back_17 : decode cX8_back 17 = .ok (.getfield 16, 3) := by decide +kernel
theorem dX8_back_20 : decode cX8_back 20 = .ok (.iload_n 1, 1) := by decide +kernel
theorem dX8_back_21 : decode cX8_back 21 = .ok (.baload, 1) := by decide +kernel
theorem dX8_back_22 : decode cX8_back 22 = .ok (.ifCond .ne 6, 3) := by decide +kernel
theorem dX8_back_25 : decode cX8_back 25 = .ok (.bipush (-2), 2) := by decide +kernel
theorem dX8_back_27 : decode cX8_back 27 = .ok (.ireturn, 1) := by decide +kernel
theorem dX8_back_28 : decode cX8_back 28 = .ok (.iconst 0, 1) := by decide +kernel
theorem dX8_back_29 : decode cX8_back 29 = .ok (.istore_n 2, 1) := by decide +kernel
theorem dX8_back_30 : decode cX8_back 30 = .ok (.iload_n 2, 1) := by decide +kernel
theorem dX8_back_31 : decode cX8_back 31 = .ok (.bipush 90, 2) := by decide +kernel
theorem dX8_back_33 : decode cX8_back 33 = .ok (.if_icmp .ge 26, 3) := by decide +kernel
theorem dX8_back_36 : decode cX8_back 36 = .ok (.aload_n 0, 1) := by decide +kernel
theorem dX8_back_37 : decode cX8_back 37 = .ok (.getfield 7, 3) := by decide +kernel
theorem dX8_back_40 : decode cX8_back 40 = .ok (.iload_n 2, 1) := by decide +kernel
theorem dX8_back_41 : decode cX8_back 41 = .ok (.aload_n 0, 1) := by decide +kernel
theorem dX8_back_42 : decode cX8_back 42 = .ok (.getfield 13, 3) := by decide +kernel
theorem dX8_back_45 : decode cX8_back 45 = .ok (.bipush 90, 2) := by decide +kernel
theorem dX8_back_47 : decode cX8_back 47 = .ok (.iload_n 1, 1) := by decide +kernel
theorem dX8_back_48 : decode cX8_back 48 = .ok (.imul, 1) := by decide +kernel
theorem dX8_back_49 : decode cX8_back 49 = .ok (.iload_n 2, 1) := by decide +kernel
theorem dX8_back_50 : decode cX8_back 50 = .ok (.iadd, 1) := by decide +kernel
theorem dX8_back_51 : decode cX8_back 51 = .ok (.iaload, 1) := by decide +kernel
theorem dX8_back_52 : decode cX8_back 52 = .ok (.iastore, 1) := by decide +kernel
theorem dX8_back_53 : decode cX8_back 53 = .ok (.iinc 2 1, 3) := by decide +kernel
theorem dX8_back_56 : decode cX8_back 56 = .ok (.goto (-26), 3) := by decide +kernel
theorem dX8_back_59 : decode cX8_back 59 = .ok (.aload_n 0, 1) := by decide +kernel
theorem dX8_back_60 : decode cX8_back 60 = .ok (.invokevirtual 204, 3) := by decide +kernel
theorem dX8_back_63 : decode cX8_back 63 = .ok (.ireturn, 1) := by decide +kernel
theorem dX8_count_0 : decode cX8_count 0 = .ok (.aload_n 0, 1) := by decide +kernel
theorem dX8_count_1 : decode cX8_count 1 = .ok (.iconst 0, 1) := by decide +kernel
theorem dX8_count_2 : decode cX8_count 2 = .ok (.putfield 61, 3) := by decide +kernel
theorem dX8_count_5 : decode cX8_count 5 = .ok (.iconst 0, 1) := by decide +kernel
theorem dX8_count_6 : decode cX8_count 6 = .ok (.istore_n 2, 1) := by decide +kernel
theorem dX8_count_7 : decode cX8_count 7 = .ok (.iconst 0, 1) := by decide +kernel
theorem dX8_count_8 : decode cX8_count 8 = .ok (.istore_n 3, 1) := by decide +kernel
theorem dX8_count_9 : decode cX8_count 9 = .ok (.iconst 0, 1) := by decide +kernel
theorem dX8_count_10 : decode cX8_count 10 = .ok (.istore 4, 2) := by decide +kernel
theorem dX8_count_12 : decode cX8_count 12 = .ok (.iload 4, 2) := by decide +kernel
theorem dX8_count_14 : decode cX8_count 14 = .ok (.bipush 6, 2) := by decide +kernel
theorem dX8_count_16 : decode cX8_count 16 = .ok (.if_icmp .ge 32, 3) := by decide +kernel
theorem dX8_count_19 : decode cX8_count 19 = .ok (.iload_n 2, 1) := by decide +kernel
theorem dX8_count_20 : decode cX8_count 20 = .ok (.aload_n 0, 1) := by decide +kernel
theorem dX8_count_21 : decode cX8_count 21 = .ok (.getfield 7, 3) := by decide +kernel
theorem dX8_count_24 : decode cX8_count 24 = .ok (.bipush 58, 2) := by decide +kernel
theorem dX8_count_26 : decode cX8_count 26 = .ok (.iload 4, 2) := by decide +kernel
theorem dX8_count_28 : decode cX8_count 28 = .ok (.iadd, 1) := by decide +kernel
theorem dX8_count_29 : decode cX8_count 29 = .ok (.iaload, 1) := by decide +kernel
theorem dX8_count_30 : decode cX8_count 30 = .ok (.bipush (-9), 2) := by decide +kernel
theorem dX8_count_32 : decode cX8_count 32 = .ok (.if_icmp .eq 7, 3) := by decide +kernel
theorem dX8_count_35 : decode cX8_count 35 = .ok (.iconst 1, 1) := by decide +kernel
theorem dX8_count_36 : decode cX8_count 36 = .ok (.goto 4, 3) := by decide +kernel
theorem dX8_count_39 : decode cX8_count 39 = .ok (.iconst 0, 1) := by decide +kernel
theorem dX8_count_40 : decode cX8_count 40 = .ok (.iadd, 1) := by decide +kernel
theorem dX8_count_41 : decode cX8_count 41 = .ok (.istore_n 2, 1) := by decide +kernel
theorem dX8_count_42 : decode cX8_count 42 = .ok (.iinc 4 1, 3) := by decide +kernel
theorem dX8_count_45 : decode cX8_count 45 = .ok (.goto (-33), 3) := by decide +kernel
theorem dX8_count_48 : decode cX8_count 48 = .ok (.iconst 0, 1) := by decide +kernel
theorem dX8_count_49 : decode cX8_count 49 = .ok (.istore 4, 2) := by decide +kernel
theorem dX8_count_51 : decode cX8_count 51 = .ok (.iload 4, 2) := by decide +kernel
theorem dX8_count_53 : decode cX8_count 53 = .ok (.bipush 26, 2) := by decide +kernel
theorem dX8_count_55 : decode cX8_count 55 = .ok (.if_icmp .ge 32, 3) := by decide +kernel
theorem dX8_count_58 : decode cX8_count 58 = .ok (.iload_n 3, 1) := by decide +kernel
theorem dX8_count_59 : decode cX8_count 59 = .ok (.aload_n 0, 1) := by decide +kernel
theorem dX8_count_60 : decode cX8_count 60 = .ok (.getfield 7, 3) := by decide +kernel
theorem dX8_count_63 : decode cX8_count 63 = .ok (.bipush 64, 2) := by decide +kernel
theorem dX8_count_65 : decode cX8_count 65 = .ok (.iload 4, 2) := by decide +kernel
theorem dX8_count_67 : decode cX8_count 67 = .ok (.iadd, 1) := by decide +kernel
theorem dX8_count_68 : decode cX8_count 68 = .ok (.iaload, 1) := by decide +kernel
theorem dX8_count_69 : decode cX8_count 69 = .ok (.bipush (-9), 2) := by decide +kernel
theorem dX8_count_71 : decode cX8_count 71 = .ok (.if_icmp .eq 7, 3) := by decide +kernel
theorem dX8_count_74 : decode cX8_count 74 = .ok (.iconst 1, 1) := by decide +kernel
theorem dX8_count_75 : decode cX8_count 75 = .ok (.goto 4, 3) := by decide +kernel
theorem dX8_count_78 : decode cX8_count 78 = .ok (.iconst 0, 1) := by decide +kernel
theorem dX8_count_79 : decode cX8_count 79 = .ok (.iadd, 1) := by decide +kernel
theorem dX8_count_80 : decode cX8_count 80 = .ok (.istore_n 3, 1) := by decide +kernel
theorem dX8_count_81 : decode cX8_count 81 = .ok (.iinc 4 1, 3) := by decide +kernel
theorem dX8_count_84 : decode cX8_count 84 = .ok (.goto (-33), 3) := by decide +kernel
theorem dX8_count_87 : decode cX8_count 87 = .ok (.iload_n 1, 1) := by decide +kernel
theorem dX8_count_88 : decode cX8_count 88 = .ok (.ifCond .ne 10, 3) := by decide +kernel
theorem dX8_count_91 : decode cX8_count 91 = .ok (.aload_n 0, 1) := by decide +kernel
theorem dX8_count_92 : decode cX8_count 92 = .ok (.invokevirtual 204, 3) := by decide +kernel
theorem dX8_count_95 : decode cX8_count 95 = .ok (.goto 34, 3) := by decide +kernel
theorem dX8_count_98 : decode cX8_count 98 = .ok (.iload_n 1, 1) := by decide +kernel
theorem dX8_count_99 : decode cX8_count 99 = .ok (.iconst 1, 1) := by decide +kernel
theorem dX8_count_100 : decode cX8_count 100 = .ok (.if_icmp .ne 10, 3) := by decide +kernel
theorem dX8_count_103 : decode cX8_count 103 = .ok (.aload_n 0, 1) := by decide +kernel
theorem dX8_count_104 : decode cX8_count 104 = .ok (.getfield 76, 3) := by decide +kernel
theorem dX8_count_107 : decode cX8_count 107 = .ok (.goto 22, 3) := by decide +kernel
theorem dX8_count_110 : decode cX8_count 110 = .ok (.iload_n 1, 1) := by decide +kernel
theorem dX8_count_111 : decode cX8_count 111 = .ok (.iconst 2, 1) := by decide +kernel
theorem dX8_count_112 : decode cX8_count 112 = .ok (.if_icmp .ne 7, 3) := by decide +kernel
theorem dX8_count_115 : decode cX8_count 115 = .ok (.iload_n 2, 1) := by decide +kernel
theorem dX8_count_116 : decode cX8_count 116 = .ok (.goto 13, 3) := by decide +kernel
theorem dX8_count_119 : decode cX8_count 119 = .ok (.iload_n 1, 1) := by decide +kernel
theorem dX8_count_120 : decode cX8_count 120 = .ok (.iconst 3, 1) := by decide +kernel
theorem dX8_count_121 : decode cX8_count 121 = .ok (.if_icmp .ne 7, 3) := by decide +kernel
theorem dX8_count_124 : decode cX8_count 124 = .ok (.iload_n 3, 1) := by decide +kernel
theorem dX8_count_125 : decode cX8_count 125 = .ok (.goto 4, 3) := by decide +kernel
theorem dX8_count_128 : decode cX8_count 128 = .ok (.iconst (-1), 1) := by decide +kernel
theorem dX8_count_129 : decode cX8_count 129 = .ok (.ireturn, 1) := by decide +kernel
theorem dX8_trace_0 : decode cX8_trace 0 = .ok (.aload_n 0, 1) := by decide +kernel
theorem dX8_trace_1 : decode cX8_trace 1 = .ok (.iconst 0, 1) := by decide +kernel
theorem dX8_trace_2 : decode cX8_trace 2 = .ok (.putfield 61, 3) := by decide +kernel
theorem dX8_trace_5 : decode cX8_trace 5 = .ok (.aload_n 0, 1) := by decide +kernel
theorem dX8_trace_6 : decode cX8_trace 6 = .ok (.getfield 190, 3) := by decide +kernel
theorem dX8_trace_9 : decode cX8_trace 9 = .ok (.lreturn, 1) := by decide +kernel
theorem dJ6_compare_7cf53_0 : decode cJ6_compare_7cf53 0 = .ok (.iload_n 0, 1) := by decide +kernel
theorem dJ6_compare_7cf53_1 : decode cJ6_compare_7cf53 1 = .ok (.iload_n 1, 1) := by decide +kernel
theorem dJ6_compare_7cf53_2 : decode cJ6_compare_7cf53 2 = .ok (.if_icmp .ge 7, 3) := by decide +kernel
theorem dJ6_compare_7cf53_5 : decode cJ6_compare_7cf53 5 = .ok (.iconst (-1), 1) := by decide +kernel
theorem dJ6_compare_7cf53_6 : decode cJ6_compare_7cf53 6 = .ok (.goto 13, 3) := by decide +kernel
theorem dJ6_compare_7cf53_9 : decode cJ6_compare_7cf53 9 = .ok (.iload_n 0, 1) := by decide +kernel
theorem dJ6_compare_7cf53_10 : decode cJ6_compare_7cf53 10 = .ok (.iload_n 1, 1) := by decide +kernel
theorem dJ6_compare_7cf53_11 : decode cJ6_compare_7cf53 11 = .ok (.if_icmp .ne 7, 3) := by decide +kernel
theorem dJ6_compare_7cf53_14 : decode cJ6_compare_7cf53 14 = .ok (.iconst 0, 1) := by decide +kernel
theorem dJ6_compare_7cf53_15 : decode cJ6_compare_7cf53 15 = .ok (.goto 4, 3) := by decide +kernel
theorem dJ6_compare_7cf53_18 : decode cJ6_compare_7cf53 18 = .ok (.iconst 1, 1) := by decide +kernel
theorem dJ6_compare_7cf53_19 : decode cJ6_compare_7cf53 19 = .ok (.ireturn, 1) := by decide +kernel
theorem dJ6_bitCount_0f7a4_0 : decode cJ6_bitCount_0f7a4 0 = .ok (.iload_n 0, 1) := by decide +kernel
theorem dJ6_bitCount_0f7a4_1 : decode cJ6_bitCount_0f7a4 1 = .ok (.iload_n 0, 1) := by decide +kernel
theorem dJ6_bitCount_0f7a4_2 : decode cJ6_bitCount_0f7a4 2 = .ok (.iconst 1, 1) := by decide +kernel
theorem dJ6_bitCount_0f7a4_3 : decode cJ6_bitCount_0f7a4 3 = .ok (.iushr, 1) := by decide +kernel
theorem dJ6_bitCount_0f7a4_4 : decode cJ6_bitCount_0f7a4 4 = .ok (.ldc_w 265, 3) := by decide +kernel
theorem dJ6_bitCount_0f7a4_7 : decode cJ6_bitCount_0f7a4 7 = .ok (.iand, 1) := by decide +kernel
theorem dJ6_bitCount_0f7a4_8 : decode cJ6_bitCount_0f7a4 8 = .ok (.isub, 1) := by decide +kernel
theorem dJ6_bitCount_0f7a4_9 : decode cJ6_bitCount_0f7a4 9 = .ok (.istore_n 0, 1) := by decide +kernel
theorem dJ6_bitCount_0f7a4_10 : decode cJ6_bitCount_0f7a4 10 = .ok (.iload_n 0, 1) := by decide +kernel
theorem dJ6_bitCount_0f7a4_11 : decode cJ6_bitCount_0f7a4 11 = .ok (.ldc_w 266, 3) := by decide +kernel
theorem dJ6_bitCount_0f7a4_14 : decode cJ6_bitCount_0f7a4 14 = .ok (.iand, 1) := by decide +kernel
theorem dJ6_bitCount_0f7a4_15 : decode cJ6_bitCount_0f7a4 15 = .ok (.iload_n 0, 1) := by decide +kernel
theorem dJ6_bitCount_0f7a4_16 : decode cJ6_bitCount_0f7a4 16 = .ok (.iconst 2, 1) := by decide +kernel
theorem dJ6_bitCount_0f7a4_17 : decode cJ6_bitCount_0f7a4 17 = .ok (.iushr, 1) := by decide +kernel
theorem dJ6_bitCount_0f7a4_18 : decode cJ6_bitCount_0f7a4 18 = .ok (.ldc_w 266, 3) := by decide +kernel
theorem dJ6_bitCount_0f7a4_21 : decode cJ6_bitCount_0f7a4 21 = .ok (.iand, 1) := by decide +kernel
theorem dJ6_bitCount_0f7a4_22 : decode cJ6_bitCount_0f7a4 22 = .ok (.iadd, 1) := by decide +kernel
theorem dJ6_bitCount_0f7a4_23 : decode cJ6_bitCount_0f7a4 23 = .ok (.istore_n 0, 1) := by decide +kernel
theorem dJ6_bitCount_0f7a4_24 : decode cJ6_bitCount_0f7a4 24 = .ok (.iload_n 0, 1) := by decide +kernel
theorem dJ6_bitCount_0f7a4_25 : decode cJ6_bitCount_0f7a4 25 = .ok (.iload_n 0, 1) := by decide +kernel
theorem dJ6_bitCount_0f7a4_26 : decode cJ6_bitCount_0f7a4 26 = .ok (.iconst 4, 1) := by decide +kernel
theorem dJ6_bitCount_0f7a4_27 : decode cJ6_bitCount_0f7a4 27 = .ok (.iushr, 1) := by decide +kernel
theorem dJ6_bitCount_0f7a4_28 : decode cJ6_bitCount_0f7a4 28 = .ok (.iadd, 1) := by decide +kernel
theorem dJ6_bitCount_0f7a4_29 : decode cJ6_bitCount_0f7a4 29 = .ok (.ldc_w 267, 3) := by decide +kernel
theorem dJ6_bitCount_0f7a4_32 : decode cJ6_bitCount_0f7a4 32 = .ok (.iand, 1) := by decide +kernel
theorem dJ6_bitCount_0f7a4_33 : decode cJ6_bitCount_0f7a4 33 = .ok (.istore_n 0, 1) := by decide +kernel
theorem dJ6_bitCount_0f7a4_34 : decode cJ6_bitCount_0f7a4 34 = .ok (.iload_n 0, 1) := by decide +kernel
theorem dJ6_bitCount_0f7a4_35 : decode cJ6_bitCount_0f7a4 35 = .ok (.iload_n 0, 1) := by decide +kernel
theorem dJ6_bitCount_0f7a4_36 : decode cJ6_bitCount_0f7a4 36 = .ok (.bipush 8, 2) := by decide +kernel
theorem dJ6_bitCount_0f7a4_38 : decode cJ6_bitCount_0f7a4 38 = .ok (.iushr, 1) := by decide +kernel
theorem dJ6_bitCount_0f7a4_39 : decode cJ6_bitCount_0f7a4 39 = .ok (.iadd, 1) := by decide +kernel
theorem dJ6_bitCount_0f7a4_40 : decode cJ6_bitCount_0f7a4 40 = .ok (.istore_n 0, 1) := by decide +kernel
theorem dJ6_bitCount_0f7a4_41 : decode cJ6_bitCount_0f7a4 41 = .ok (.iload_n 0, 1) := by decide +kernel
theorem dJ6_bitCount_0f7a4_42 : decode cJ6_bitCount_0f7a4 42 = .ok (.iload_n 0, 1) := by decide +kernel
theorem dJ6_bitCount_0f7a4_43 : decode cJ6_bitCount_0f7a4 43 = .ok (.bipush 16, 2) := by decide +kernel
theorem dJ6_bitCount_0f7a4_45 : decode cJ6_bitCount_0f7a4 45 = .ok (.iushr, 1) := by decide +kernel
theorem dJ6_bitCount_0f7a4_46 : decode cJ6_bitCount_0f7a4 46 = .ok (.iadd, 1) := by decide +kernel
theorem dJ6_bitCount_0f7a4_47 : decode cJ6_bitCount_0f7a4 47 = .ok (.istore_n 0, 1) := by decide +kernel
theorem dJ6_bitCount_0f7a4_48 : decode cJ6_bitCount_0f7a4 48 = .ok (.iload_n 0, 1) := by decide +kernel
theorem dJ6_bitCount_0f7a4_49 : decode cJ6_bitCount_0f7a4 49 = .ok (.bipush 63, 2) := by decide +kernel
theorem dJ6_bitCount_0f7a4_51 : decode cJ6_bitCount_0f7a4 51 = .ok (.iand, 1) := by decide +kernel
theorem dJ6_bitCount_0f7a4_52 : decode cJ6_bitCount_0f7a4 52 = .ok (.ireturn, 1) := by decide +kernel
theorem dJ9_max_7cf53_0 : decode cJ9_max_7cf53 0 = .ok (.iload_n 0, 1) := by decide +kernel
theorem dJ9_max_7cf53_1 : decode cJ9_max_7cf53 1 = .ok (.iload_n 1, 1) := by decide +kernel
theorem dJ9_max_7cf53_2 : decode cJ9_max_7cf53 2 = .ok (.if_icmp .lt 7, 3) := by decide +kernel
theorem dJ9_max_7cf53_5 : decode cJ9_max_7cf53 5 = .ok (.iload_n 0, 1) := by decide +kernel
theorem dJ9_max_7cf53_6 : decode cJ9_max_7cf53 6 = .ok (.goto 4, 3) := by decide +kernel
theorem dJ9_max_7cf53_9 : decode cJ9_max_7cf53 9 = .ok (.iload_n 1, 1) := by decide +kernel
theorem dJ9_max_7cf53_10 : decode cJ9_max_7cf53 10 = .ok (.ireturn, 1) := by decide +kernel
theorem dJ9_min_7cf53_0 : decode cJ9_min_7cf53 0 = .ok (.iload_n 0, 1) := by decide +kernel
theorem dJ9_min_7cf53_1 : decode cJ9_min_7cf53 1 = .ok (.iload_n 1, 1) := by decide +kernel
theorem dJ9_min_7cf53_2 : decode cJ9_min_7cf53 2 = .ok (.if_icmp .gt 7, 3) := by decide +kernel
theorem dJ9_min_7cf53_5 : decode cJ9_min_7cf53 5 = .ok (.iload_n 0, 1) := by decide +kernel
theorem dJ9_min_7cf53_6 : decode cJ9_min_7cf53 6 = .ok (.goto 4, 3) := by decide +kernel
theorem dJ9_min_7cf53_9 : decode cJ9_min_7cf53 9 = .ok (.iload_n 1, 1) := by decide +kernel
theorem dJ9_min_7cf53_10 : decode cJ9_min_7cf53 10 = .ok (.ireturn, 1) := by decide +kernel
theorem dJ0_length_8abf5_0 : decode cJ0_length_8abf5 0 = .ok (.aload_n 0, 1) := by decide +kernel
theorem dJ0_length_8abf5_1 : decode cJ0_length_8abf5 1 = .ok (.getfield 9, 3) := by decide +kernel
theorem dJ0_length_8abf5_4 : decode cJ0_length_8abf5 4 = .ok (.arraylength, 1) := by decide +kernel
theorem dJ0_length_8abf5_5 : decode cJ0_length_8abf5 5 = .ok (.aload_n 0, 1) := by decide +kernel
theorem dJ0_length_8abf5_6 : decode cJ0_length_8abf5 6 = .ok (.invokevirtual 335, 3) := by decide +kernel
theorem dJ0_length_8abf5_9 : decode cJ0_length_8abf5 9 = .ok (.ishr, 1) := by decide +kernel
theorem dJ0_length_8abf5_10 : decode cJ0_length_8abf5 10 = .ok (.ireturn, 1) := by decide +kernel
theorem dJ0_charAt_5068e_0 : decode cJ0_charAt_5068e 0 = .ok (.aload_n 0, 1) := by decide +kernel
theorem dJ0_charAt_5068e_1 : decode cJ0_charAt_5068e 1 = .ok (.invokevirtual 492, 3) := by decide +kernel
theorem dJ0_charAt_5068e_4 : decode cJ0_charAt_5068e 4 = .ok (.ifCond .eq 12, 3) := by decide +kernel
theorem dJ0_charAt_5068e_7 : decode cJ0_charAt_5068e 7 = .ok (.aload_n 0, 1) := by decide +kernel
theorem dJ0_charAt_5068e_8 : decode cJ0_charAt_5068e 8 = .ok (.getfield 9, 3) := by decide +kernel
theorem dJ0_charAt_5068e_11 : decode cJ0_charAt_5068e 11 = .ok (.iload_n 1, 1) := by decide +kernel
theorem dJ0_charAt_5068e_12 : decode cJ0_charAt_5068e 12 = .ok (.invokestatic 495, 3) := by decide +kernel
theorem dJ0_charAt_5068e_15 : decode cJ0_charAt_5068e 15 = .ok (.ireturn, 1) := by decide +kernel
theorem dJ0_charAt_5068e_16 : decode cJ0_charAt_5068e 16 = .ok (.aload_n 0, 1) := by decide +kernel
theorem dJ0_charAt_5068e_17 : decode cJ0_charAt_5068e 17 = .ok (.getfield 9, 3) := by decide +kernel
theorem dJ0_charAt_5068e_20 : decode cJ0_charAt_5068e 20 = .ok (.iload_n 1, 1) := by decide +kernel
theorem dJ0_charAt_5068e_21 : decode cJ0_charAt_5068e 21 = .ok (.invokestatic 498, 3) := by decide +kernel
theorem dJ0_charAt_5068e_24 : decode cJ0_charAt_5068e 24 = .ok (.ireturn, 1) := by decide +kernel
theorem dJ0_coder_7d493_0 : decode cJ0_coder_7d493 0 = .ok (.getstatic 38, 3) := by decide +kernel
theorem dJ0_coder_7d493_3 : decode cJ0_coder_7d493 3 = .ok (.ifCond .eq 10, 3) := by decide +kernel
theorem dJ0_coder_7d493_6 : decode cJ0_coder_7d493 6 = .ok (.aload_n 0, 1) := by decide +kernel
theorem dJ0_coder_7d493_7 : decode cJ0_coder_7d493 7 = .ok (.getfield 15, 3) := by decide +kernel
theorem dJ0_coder_7d493_10 : decode cJ0_coder_7d493 10 = .ok (.goto 4, 3) := by decide +kernel
theorem dJ0_coder_7d493_13 : decode cJ0_coder_7d493 13 = .ok (.iconst 1, 1) := by decide +kernel
theorem dJ0_coder_7d493_14 : decode cJ0_coder_7d493 14 = .ok (.ireturn, 1) := by decide +kernel
theorem dJ0_isLatin1_aae02_0 : decode cJ0_isLatin1_aae02 0 = .ok (.getstatic 38, 3) := by decide +kernel
theorem dJ0_isLatin1_aae02_3 : decode cJ0_isLatin1_aae02 3 = .ok (.ifCond .eq 14, 3) := by decide +kernel
theorem dJ0_isLatin1_aae02_6 : decode cJ0_isLatin1_aae02 6 = .ok (.aload_n 0, 1) := by decide +kernel
theorem dJ0_isLatin1_aae02_7 : decode cJ0_isLatin1_aae02 7 = .ok (.getfield 15, 3) := by decide +kernel
theorem dJ0_isLatin1_aae02_10 : decode cJ0_isLatin1_aae02 10 = .ok (.ifCond .ne 7, 3) := by decide +kernel
theorem dJ0_isLatin1_aae02_13 : decode cJ0_isLatin1_aae02 13 = .ok (.iconst 1, 1) := by decide +kernel
theorem dJ0_isLatin1_aae02_14 : decode cJ0_isLatin1_aae02 14 = .ok (.goto 4, 3) := by decide +kernel
theorem dJ0_isLatin1_aae02_17 : decode cJ0_isLatin1_aae02 17 = .ok (.iconst 0, 1) := by decide +kernel
theorem dJ0_isLatin1_aae02_18 : decode cJ0_isLatin1_aae02 18 = .ok (.ireturn, 1) := by decide +kernel
theorem dJ0_checkIndex_df160_0 : decode cJ0_checkIndex_df160 0 = .ok (.iload_n 0, 1) := by decide +kernel
theorem dJ0_checkIndex_df160_1 : decode cJ0_checkIndex_df160 1 = .ok (.iload_n 1, 1) := by decide +kernel
theorem dJ0_checkIndex_df160_2 : decode cJ0_checkIndex_df160 2 = .ok (.getstatic 1053, 3) := by decide +kernel
theorem dJ0_checkIndex_df160_5 : decode cJ0_checkIndex_df160 5 = .ok (.invokestatic 1059, 3) := by decide +kernel
theorem dJ0_checkIndex_df160_8 : decode cJ0_checkIndex_df160 8 = .ok (.pop, 1) := by decide +kernel
theorem dJ0_checkIndex_df160_9 : decode cJ0_checkIndex_df160 9 = .ok (.return_, 1) := by decide +kernel
theorem dJ1_charAt_3b067_0 : decode cJ1_charAt_3b067 0 = .ok (.iload_n 1, 1) := by decide +kernel
theorem dJ1_charAt_3b067_1 : decode cJ1_charAt_3b067 1 = .ok (.aload_n 0, 1) := by decide +kernel
theorem dJ1_charAt_3b067_2 : decode cJ1_charAt_3b067 2 = .ok (.arraylength, 1) := by decide +kernel
theorem dJ1_charAt_3b067_3 : decode cJ1_charAt_3b067 3 = .ok (.invokestatic 9, 3) := by decide +kernel
theorem dJ1_charAt_3b067_6 : decode cJ1_charAt_3b067 6 = .ok (.aload_n 0, 1) := by decide +kernel
theorem dJ1_charAt_3b067_7 : decode cJ1_charAt_3b067 7 = .ok (.iload_n 1, 1) := by decide +kernel
theorem dJ1_charAt_3b067_8 : decode cJ1_charAt_3b067 8 = .ok (.baload, 1) := by decide +kernel
theorem dJ1_charAt_3b067_9 : decode cJ1_charAt_3b067 9 = .ok (.sipush 255, 3) := by decide +kernel
theorem dJ1_charAt_3b067_12 : decode cJ1_charAt_3b067 12 = .ok (.iand, 1) := by decide +kernel
theorem dJ1_charAt_3b067_13 : decode cJ1_charAt_3b067 13 = .ok (.i2c, 1) := by decide +kernel
theorem dJ1_charAt_3b067_14 : decode cJ1_charAt_3b067 14 = .ok (.ireturn, 1) := by decide +kernel
theorem dJ2_getChar_3b067_0 : decode cJ2_getChar_3b067 0 = .ok (.getstatic 44, 3) := by decide +kernel
theorem dJ2_getChar_3b067_3 : decode cJ2_getChar_3b067 3 = .ok (.ifCond .ne 25, 3) := by decide +kernel
theorem dJ2_getChar_3b067_6 : decode cJ2_getChar_3b067 6 = .ok (.iload_n 1, 1) := by decide +kernel
theorem dJ2_getChar_3b067_7 : decode cJ2_getChar_3b067 7 = .ok (.ifCond .lt 11, 3) := by decide +kernel
theorem dJ2_getChar_3b067_10 : decode cJ2_getChar_3b067 10 = .ok (.iload_n 1, 1) := by decide +kernel
theorem dJ2_getChar_3b067_11 : decode cJ2_getChar_3b067 11 = .ok (.aload_n 0, 1) := by decide +kernel
theorem dJ2_getChar_3b067_12 : decode cJ2_getChar_3b067 12 = .ok (.invokestatic 48, 3) := by decide +kernel
theorem dJ2_getChar_3b067_15 : decode cJ2_getChar_3b067 15 = .ok (.if_icmp .lt 13, 3) := by decide +kernel
theorem dJ2_getChar_3b067_18 : decode cJ2_getChar_3b067 18 = .ok (.new 52, 3) := by decide +kernel
theorem dJ2_getChar_3b067_21 : decode cJ2_getChar_3b067 21 = .ok (.dup, 1) := by decide +kernel
theorem dJ2_getChar_3b067_22 : decode cJ2_getChar_3b067 22 = .ok (.ldc 54, 2) := by decide +kernel
theorem dJ2_getChar_3b067_24 : decode cJ2_getChar_3b067 24 = .ok (.invokespecial 56, 3) := by decide +kernel
theorem dJ2_getChar_3b067_27 : decode cJ2_getChar_3b067 27 = .ok (.athrow, 1) := by decide +kernel
theorem dJ2_getChar_3b067_28 : decode cJ2_getChar_3b067 28 = .ok (.iload_n 1, 1) := by decide +kernel
theorem dJ2_getChar_3b067_29 : decode cJ2_getChar_3b067 29 = .ok (.iconst 1, 1) := by decide +kernel
theorem dJ2_getChar_3b067_30 : decode cJ2_getChar_3b067 30 = .ok (.ishl, 1) := by decide +kernel
theorem dJ2_getChar_3b067_31 : decode cJ2_getChar_3b067 31 = .ok (.istore_n 1, 1) := by decide +kernel
theorem dJ2_getChar_3b067_32 : decode cJ2_getChar_3b067 32 = .ok (.aload_n 0, 1) := by decide +kernel
theorem dJ2_getChar_3b067_33 : decode cJ2_getChar_3b067 33 = .ok (.iload_n 1, 1) := by decide +kernel
theorem dJ2_getChar_3b067_34 : decode cJ2_getChar_3b067 34 = .ok (.iinc 1 1, 3) := by decide +kernel
theorem dJ2_getChar_3b067_37 : decode cJ2_getChar_3b067 37 = .ok (.baload, 1) := by decide +kernel
theorem dJ2_getChar_3b067_38 : decode cJ2_getChar_3b067 38 = .ok (.sipush 255, 3) := by decide +kernel
theorem dJ2_getChar_3b067_41 : decode cJ2_getChar_3b067 41 = .ok (.iand, 1) := by decide +kernel
theorem dJ2_getChar_3b067_42 : decode cJ2_getChar_3b067 42 = .ok (.getstatic 59, 3) := by decide +kernel
theorem dJ2_getChar_3b067_45 : decode cJ2_getChar_3b067 45 = .ok (.ishl, 1) := by decide +kernel
theorem dJ2_getChar_3b067_46 : decode cJ2_getChar_3b067 46 = .ok (.aload_n 0, 1) := by decide +kernel
theorem dJ2_getChar_3b067_47 : decode cJ2_getChar_3b067 47 = .ok (.iload_n 1, 1) := by decide +kernel
theorem dJ2_getChar_3b067_48 : decode cJ2_getChar_3b067 48 = .ok (.baload, 1) := by decide +kernel
theorem dJ2_getChar_3b067_49 : decode cJ2_getChar_3b067 49 = .ok (.sipush 255, 3) := by decide +kernel
theorem dJ2_getChar_3b067_52 : decode cJ2_getChar_3b067 52 = .ok (.iand, 1) := by decide +kernel
theorem dJ2_getChar_3b067_53 : decode cJ2_getChar_3b067 53 = .ok (.getstatic 63, 3) := by decide +kernel
theorem dJ2_getChar_3b067_56 : decode cJ2_getChar_3b067 56 = .ok (.ishl, 1) := by decide +kernel
theorem dJ2_getChar_3b067_57 : decode cJ2_getChar_3b067 57 = .ok (.ior, 1) := by decide +kernel
theorem dJ2_getChar_3b067_58 : decode cJ2_getChar_3b067 58 = .ok (.i2c, 1) := by decide +kernel
theorem dJ2_getChar_3b067_59 : decode cJ2_getChar_3b067 59 = .ok (.ireturn, 1) := by decide +kernel
theorem dJ2_length_9d52b_0 : decode cJ2_length_9d52b 0 = .ok (.aload_n 0, 1) := by decide +kernel
theorem dJ2_length_9d52b_1 : decode cJ2_length_9d52b 1 = .ok (.arraylength, 1) := by decide +kernel
theorem dJ2_length_9d52b_2 : decode cJ2_length_9d52b 2 = .ok (.iconst 1, 1) := by decide +kernel
theorem dJ2_length_9d52b_3 : decode cJ2_length_9d52b 3 = .ok (.ishr, 1) := by decide +kernel
theorem dJ2_length_9d52b_4 : decode cJ2_length_9d52b 4 = .ok (.ireturn, 1) := by decide +kernel
theorem dJ2_charAt_3b067_0 : decode cJ2_charAt_3b067 0 = .ok (.iload_n 1, 1) := by decide +kernel
theorem dJ2_charAt_3b067_1 : decode cJ2_charAt_3b067 1 = .ok (.aload_n 0, 1) := by decide +kernel
theorem dJ2_charAt_3b067_2 : decode cJ2_charAt_3b067 2 = .ok (.invokestatic 67, 3) := by decide +kernel
theorem dJ2_charAt_3b067_5 : decode cJ2_charAt_3b067 5 = .ok (.aload_n 0, 1) := by decide +kernel
theorem dJ2_charAt_3b067_6 : decode cJ2_charAt_3b067 6 = .ok (.iload_n 1, 1) := by decide +kernel
theorem dJ2_charAt_3b067_7 : decode cJ2_charAt_3b067 7 = .ok (.invokestatic 71, 3) := by decide +kernel
theorem dJ2_charAt_3b067_10 : decode cJ2_charAt_3b067 10 = .ok (.ireturn, 1) := by decide +kernel
theorem dJ2_checkIndex_2214a_0 : decode cJ2_checkIndex_2214a 0 = .ok (.iload_n 0, 1) := by decide +kernel
theorem dJ2_checkIndex_2214a_1 : decode cJ2_checkIndex_2214a 1 = .ok (.aload_n 1, 1) := by decide +kernel
theorem dJ2_checkIndex_2214a_2 : decode cJ2_checkIndex_2214a 2 = .ok (.invokestatic 48, 3) := by decide +kernel
theorem dJ2_checkIndex_2214a_5 : decode cJ2_checkIndex_2214a 5 = .ok (.invokestatic 414, 3) := by decide +kernel
theorem dJ2_checkIndex_2214a_8 : decode cJ2_checkIndex_2214a 8 = .ok (.return_, 1) := by decide +kernel
theorem dJ7_fill_53178_0 : decode cJ7_fill_53178 0 = .ok (.iconst 0, 1) := by decide +kernel
theorem dJ7_fill_53178_1 : decode cJ7_fill_53178 1 = .ok (.istore_n 2, 1) := by decide +kernel
theorem dJ7_fill_53178_2 : decode cJ7_fill_53178 2 = .ok (.aload_n 0, 1) := by decide +kernel
theorem dJ7_fill_53178_3 : decode cJ7_fill_53178 3 = .ok (.arraylength, 1) := by decide +kernel
theorem dJ7_fill_53178_4 : decode cJ7_fill_53178 4 = .ok (.istore_n 3, 1) := by decide +kernel
theorem dJ7_fill_53178_5 : decode cJ7_fill_53178 5 = .ok (.iload_n 2, 1) := by decide +kernel
theorem dJ7_fill_53178_6 : decode cJ7_fill_53178 6 = .ok (.iload_n 3, 1) := by decide +kernel
theorem dJ7_fill_53178_7 : decode cJ7_fill_53178 7 = .ok (.if_icmp .ge 13, 3) := by decide +kernel
theorem dJ7_fill_53178_10 : decode cJ7_fill_53178 10 = .ok (.aload_n 0, 1) := by decide +kernel
theorem dJ7_fill_53178_11 : decode cJ7_fill_53178 11 = .ok (.iload_n 2, 1) := by decide +kernel
theorem dJ7_fill_53178_12 : decode cJ7_fill_53178 12 = .ok (.iload_n 1, 1) := by decide +kernel
theorem dJ7_fill_53178_13 : decode cJ7_fill_53178 13 = .ok (.iastore, 1) := by decide +kernel
theorem dJ7_fill_53178_14 : decode cJ7_fill_53178 14 = .ok (.iinc 2 1, 3) := by decide +kernel
theorem dJ7_fill_53178_17 : decode cJ7_fill_53178 17 = .ok (.goto (-12), 3) := by decide +kernel
theorem dJ7_fill_53178_20 : decode cJ7_fill_53178 20 = .ok (.return_, 1) := by decide +kernel
theorem dJ3_checkIndex_8e157_0 : decode cJ3_checkIndex_8e157 0 = .ok (.iload_n 0, 1) := by decide +kernel
theorem dJ3_checkIndex_8e157_1 : decode cJ3_checkIndex_8e157 1 = .ok (.ifCond .lt 8, 3) := by decide +kernel
theorem dJ3_checkIndex_8e157_4 : decode cJ3_checkIndex_8e157 4 = .ok (.iload_n 0, 1) := by decide +kernel
theorem dJ3_checkIndex_8e157_5 : decode cJ3_checkIndex_8e157 5 = .ok (.iload_n 1, 1) := by decide +kernel
theorem dJ3_checkIndex_8e157_6 : decode cJ3_checkIndex_8e157 6 = .ok (.if_icmp .lt 10, 3) := by decide +kernel
theorem dJ3_checkIndex_8e157_9 : decode cJ3_checkIndex_8e157 9 = .ok (.aload_n 2, 1) := by decide +kernel
theorem dJ3_checkIndex_8e157_10 : decode cJ3_checkIndex_8e157 10 = .ok (.iload_n 0, 1) := by decide +kernel
theorem dJ3_checkIndex_8e157_11 : decode cJ3_checkIndex_8e157 11 = .ok (.iload_n 1, 1) := by decide +kernel
theorem dJ3_checkIndex_8e157_12 : decode cJ3_checkIndex_8e157 12 = .ok (.invokestatic 95, 3) := by decide +kernel
theorem dJ3_checkIndex_8e157_15 : decode cJ3_checkIndex_8e157 15 = .ok (.athrow, 1) := by decide +kernel
theorem dJ3_checkIndex_8e157_16 : decode cJ3_checkIndex_8e157 16 = .ok (.iload_n 0, 1) := by decide +kernel
theorem dJ3_checkIndex_8e157_17 : decode cJ3_checkIndex_8e157 17 = .ok (.ireturn, 1) := by decide +kernel
theorem dL_law_0 : decode cL_law 0 = .ok (.new 7, 3) := by decide +kernel
theorem dL_law_3 : decode cL_law 3 = .ok (.dup, 1) := by decide +kernel
theorem dL_law_4 : decode cL_law 4 = .ok (.invokespecial 9, 3) := by decide +kernel
theorem dL_law_7 : decode cL_law 7 = .ok (.astore_n 1, 1) := by decide +kernel
theorem dL_law_8 : decode cL_law 8 = .ok (.new 10, 3) := by decide +kernel
theorem dL_law_11 : decode cL_law 11 = .ok (.dup, 1) := by decide +kernel
theorem dL_law_12 : decode cL_law 12 = .ok (.invokespecial 12, 3) := by decide +kernel
theorem dL_law_15 : decode cL_law 15 = .ok (.astore_n 2, 1) := by decide +kernel
theorem dL_law_16 : decode cL_law 16 = .ok (.iconst 0, 1) := by decide +kernel
theorem dL_law_17 : decode cL_law 17 = .ok (.istore_n 3, 1) := by decide +kernel
theorem dL_law_18 : decode cL_law 18 = .ok (.iload_n 3, 1) := by decide +kernel
theorem dL_law_19 : decode cL_law 19 = .ok (.aload_n 0, 1) := by decide +kernel
theorem dL_law_20 : decode cL_law 20 = .ok (.arraylength, 1) := by decide +kernel
theorem dL_law_21 : decode cL_law 21 = .ok (.iconst 5, 1) := by decide +kernel
theorem dL_law_22 : decode cL_law 22 = .ok (.isub, 1) := by decide +kernel
theorem dL_law_23 : decode cL_law 23 = .ok (.if_icmp .gt 945, 3) := by decide +kernel
theorem dL_law_26 : decode cL_law 26 = .ok (.aload_n 0, 1) := by decide +kernel
theorem dL_law_27 : decode cL_law 27 = .ok (.iload_n 3, 1) := by decide +kernel
theorem dL_law_28 : decode cL_law 28 = .ok (.iaload, 1) := by decide +kernel
theorem dL_law_29 : decode cL_law 29 = .ok (.bipush 31, 2) := by decide +kernel
theorem dL_law_31 : decode cL_law 31 = .ok (.iand, 1) := by decide +kernel
theorem dL_law_32 : decode cL_law 32 = .ok (.tableswitch 930 0 25 #[120, 183, 196, 209, 232, 255, 288, 321, 364, 387, 420, 443, 496, 539, 563, 596, 639, 672, 705, 748, 771, 814, 847, 870, 893, 916], 120) := by decide +kernel
theorem dL_law_152 : decode cL_law 152 = .ok (.aload_n 1, 1) := by decide +kernel
theorem dL_law_153 : decode cL_law 153 = .ok (.aload_n 0, 1) := by decide +kernel
theorem dL_law_154 : decode cL_law 154 = .ok (.iload_n 3, 1) := by decide +kernel
theorem dL_law_155 : decode cL_law 155 = .ok (.iconst 1, 1) := by decide +kernel
theorem dL_law_156 : decode cL_law 156 = .ok (.iadd, 1) := by decide +kernel
theorem dL_law_157 : decode cL_law 157 = .ok (.iaload, 1) := by decide +kernel
theorem dL_law_158 : decode cL_law 158 = .ok (.i2l, 1) := by decide +kernel
theorem dL_law_159 : decode cL_law 159 = .ok (.bipush 32, 2) := by decide +kernel
theorem dL_law_161 : decode cL_law 161 = .ok (.lshl, 1) := by decide +kernel
theorem dL_law_162 : decode cL_law 162 = .ok (.aload_n 0, 1) := by decide +kernel
theorem dL_law_163 : decode cL_law 163 = .ok (.iload_n 3, 1) := by decide +kernel
theorem dL_law_164 : decode cL_law 164 = .ok (.iconst 2, 1) := by decide +kernel
theorem dL_law_165 : decode cL_law 165 = .ok (.iadd, 1) := by decide +kernel
theorem dL_law_166 : decode cL_law 166 = .ok (.iaload, 1) := by decide +kernel
theorem dL_law_167 : decode cL_law 167 = .ok (.i2l, 1) := by decide +kernel
theorem dL_law_168 : decode cL_law 168 = .ok (.ldc2_w 13, 3) := by decide +kernel
theorem dL_law_171 : decode cL_law 171 = .ok (.land, 1) := by decide +kernel
theorem dL_law_172 : decode cL_law 172 = .ok (.lor, 1) := by decide +kernel
theorem dL_law_173 : decode cL_law 173 = .ok (.aload_n 0, 1) := by decide +kernel
theorem dL_law_174 : decode cL_law 174 = .ok (.iload_n 3, 1) := by decide +kernel
theorem dL_law_175 : decode cL_law 175 = .ok (.iconst 3, 1) := by decide +kernel
theorem dL_law_176 : decode cL_law 176 = .ok (.iadd, 1) := by decide +kernel
theorem dL_law_177 : decode cL_law 177 = .ok (.iaload, 1) := by decide +kernel
theorem dL_law_178 : decode cL_law 178 = .ok (.invokevirtual 15, 3) := by decide +kernel
theorem dL_law_181 : decode cL_law 181 = .ok (.aload_n 2, 1) := by decide +kernel
theorem dL_law_182 : decode cL_law 182 = .ok (.aload_n 0, 1) := by decide +kernel
theorem dL_law_183 : decode cL_law 183 = .ok (.iload_n 3, 1) := by decide +kernel
theorem dL_law_184 : decode cL_law 184 = .ok (.iconst 1, 1) := by decide +kernel
theorem dL_law_185 : decode cL_law 185 = .ok (.iadd, 1) := by decide +kernel
theorem dL_law_186 : decode cL_law 186 = .ok (.iaload, 1) := by decide +kernel
theorem dL_law_187 : decode cL_law 187 = .ok (.i2l, 1) := by decide +kernel
theorem dL_law_188 : decode cL_law 188 = .ok (.bipush 32, 2) := by decide +kernel
theorem dL_law_190 : decode cL_law 190 = .ok (.lshl, 1) := by decide +kernel
theorem dL_law_191 : decode cL_law 191 = .ok (.aload_n 0, 1) := by decide +kernel
theorem dL_law_192 : decode cL_law 192 = .ok (.iload_n 3, 1) := by decide +kernel
theorem dL_law_193 : decode cL_law 193 = .ok (.iconst 2, 1) := by decide +kernel
theorem dL_law_194 : decode cL_law 194 = .ok (.iadd, 1) := by decide +kernel
theorem dL_law_195 : decode cL_law 195 = .ok (.iaload, 1) := by decide +kernel
theorem dL_law_196 : decode cL_law 196 = .ok (.i2l, 1) := by decide +kernel
theorem dL_law_197 : decode cL_law 197 = .ok (.ldc2_w 13, 3) := by decide +kernel
theorem dL_law_200 : decode cL_law 200 = .ok (.land, 1) := by decide +kernel
theorem dL_law_201 : decode cL_law 201 = .ok (.lor, 1) := by decide +kernel
theorem dL_law_202 : decode cL_law 202 = .ok (.aload_n 0, 1) := by decide +kernel
theorem dL_law_203 : decode cL_law 203 = .ok (.iload_n 3, 1) := by decide +kernel
theorem dL_law_204 : decode cL_law 204 = .ok (.iconst 3, 1) := by decide +kernel
theorem dL_law_205 : decode cL_law 205 = .ok (.iadd, 1) := by decide +kernel
theorem dL_law_206 : decode cL_law 206 = .ok (.iaload, 1) := by decide +kernel
theorem dL_law_207 : decode cL_law 207 = .ok (.invokevirtual 19, 3) := by decide +kernel
theorem dL_law_210 : decode cL_law 210 = .ok (.if_icmp .eq 752, 3) := by decide +kernel
theorem dL_law_213 : decode cL_law 213 = .ok (.iconst 0, 1) := by decide +kernel
theorem dL_law_214 : decode cL_law 214 = .ok (.ireturn, 1) := by decide +kernel
theorem dL_law_215 : decode cL_law 215 = .ok (.aload_n 1, 1) := by decide +kernel
theorem dL_law_216 : decode cL_law 216 = .ok (.invokevirtual 20, 3) := by decide +kernel
theorem dL_law_219 : decode cL_law 219 = .ok (.aload_n 2, 1) := by decide +kernel
theorem dL_law_220 : decode cL_law 220 = .ok (.invokevirtual 24, 3) := by decide +kernel
theorem dL_law_223 : decode cL_law 223 = .ok (.if_icmp .eq 739, 3) := by decide +kernel
theorem dL_law_226 : decode cL_law 226 = .ok (.iconst 0, 1) := by decide +kernel
theorem dL_law_227 : decode cL_law 227 = .ok (.ireturn, 1) := by decide +kernel
theorem dL_law_228 : decode cL_law 228 = .ok (.aload_n 1, 1) := by decide +kernel
theorem dL_law_229 : decode cL_law 229 = .ok (.invokevirtual 25, 3) := by decide +kernel
theorem dL_law_232 : decode cL_law 232 = .ok (.aload_n 2, 1) := by decide +kernel
theorem dL_law_233 : decode cL_law 233 = .ok (.invokevirtual 28, 3) := by decide +kernel
theorem dL_law_236 : decode cL_law 236 = .ok (.if_icmp .eq 726, 3) := by decide +kernel
theorem dL_law_239 : decode cL_law 239 = .ok (.iconst 0, 1) := by decide +kernel
theorem dL_law_240 : decode cL_law 240 = .ok (.ireturn, 1) := by decide +kernel
theorem dL_law_241 : decode cL_law 241 = .ok (.aload_n 1, 1) := by decide +kernel
theorem dL_law_242 : decode cL_law 242 = .ok (.aload_n 0, 1) := by decide +kernel
theorem dL_law_243 : decode cL_law 243 = .ok (.iload_n 3, 1) := by decide +kernel
theorem dL_law_244 : decode cL_law 244 = .ok (.iconst 1, 1) := by decide +kernel
theorem dL_law_245 : decode cL_law 245 = .ok (.iadd, 1) := by decide +kernel
theorem dL_law_246 : decode cL_law 246 = .ok (.iaload, 1) := by decide +kernel
theorem dL_law_247 : decode cL_law 247 = .ok (.invokevirtual 29, 3) := by decide +kernel
theorem dL_law_250 : decode cL_law 250 = .ok (.aload_n 2, 1) := by decide +kernel
theorem dL_law_251 : decode cL_law 251 = .ok (.aload_n 0, 1) := by decide +kernel
theorem dL_law_252 : decode cL_law 252 = .ok (.iload_n 3, 1) := by decide +kernel
theorem dL_law_253 : decode cL_law 253 = .ok (.iconst 1, 1) := by decide +kernel
theorem dL_law_254 : decode cL_law 254 = .ok (.iadd, 1) := by decide +kernel
theorem dL_law_255 : decode cL_law 255 = .ok (.iaload, 1) := by decide +kernel
theorem dL_law_256 : decode cL_law 256 = .ok (.invokevirtual 33, 3) := by decide +kernel
theorem dL_law_259 : decode cL_law 259 = .ok (.if_icmp .eq 703, 3) := by decide +kernel
theorem dL_law_262 : decode cL_law 262 = .ok (.iconst 0, 1) := by decide +kernel
theorem dL_law_263 : decode cL_law 263 = .ok (.ireturn, 1) := by decide +kernel
theorem dL_law_264 : decode cL_law 264 = .ok (.aload_n 1, 1) := by decide +kernel
theorem dL_law_265 : decode cL_law 265 = .ok (.aload_n 0, 1) := by decide +kernel
theorem dL_law_266 : decode cL_law 266 = .ok (.iload_n 3, 1) := by decide +kernel
theorem dL_law_267 : decode cL_law 267 = .ok (.iconst 1, 1) := by decide +kernel
theorem dL_law_268 : decode cL_law 268 = .ok (.iadd, 1) := by decide +kernel
theorem dL_law_269 : decode cL_law 269 = .ok (.iaload, 1) := by decide +kernel
theorem dL_law_270 : decode cL_law 270 = .ok (.invokevirtual 34, 3) := by decide +kernel
theorem dL_law_273 : decode cL_law 273 = .ok (.aload_n 2, 1) := by decide +kernel
theorem dL_law_274 : decode cL_law 274 = .ok (.aload_n 0, 1) := by decide +kernel
theorem dL_law_275 : decode cL_law 275 = .ok (.iload_n 3, 1) := by decide +kernel
theorem dL_law_276 : decode cL_law 276 = .ok (.iconst 1, 1) := by decide +kernel
theorem dL_law_277 : decode cL_law 277 = .ok (.iadd, 1) := by decide +kernel
theorem dL_law_278 : decode cL_law 278 = .ok (.iaload, 1) := by decide +kernel
theorem dL_law_279 : decode cL_law 279 = .ok (.invokevirtual 37, 3) := by decide +kernel
theorem dL_law_282 : decode cL_law 282 = .ok (.if_icmp .eq 680, 3) := by decide +kernel
theorem dL_law_285 : decode cL_law 285 = .ok (.iconst 0, 1) := by decide +kernel
theorem dL_law_286 : decode cL_law 286 = .ok (.ireturn, 1) := by decide +kernel
theorem dL_law_287 : decode cL_law 287 = .ok (.aload_n 1, 1) := by decide +kernel
theorem dL_law_288 : decode cL_law 288 = .ok (.aload_n 0, 1) := by decide +kernel
theorem dL_law_289 : decode cL_law 289 = .ok (.iload_n 3, 1) := by decide +kernel
theorem dL_law_290 : decode cL_law 290 = .ok (.iconst 1, 1) := by decide +kernel
theorem dL_law_291 : decode cL_law 291 = .ok (.iadd, 1) := by decide +kernel
theorem dL_law_292 : decode cL_law 292 = .ok (.iaload, 1) := by decide +kernel
theorem dL_law_293 : decode cL_law 293 = .ok (.aload_n 0, 1) := by decide +kernel
theorem dL_law_294 : decode cL_law 294 = .ok (.iload_n 3, 1) := by decide +kernel
theorem dL_law_295 : decode cL_law 295 = .ok (.iconst 2, 1) := by decide +kernel
theorem dL_law_296 : decode cL_law 296 = .ok (.iadd, 1) := by decide +kernel
theorem dL_law_297 : decode cL_law 297 = .ok (.iaload, 1) := by decide +kernel
theorem dL_law_298 : decode cL_law 298 = .ok (.invokevirtual 38, 3) := by decide +kernel
theorem dL_law_301 : decode cL_law 301 = .ok (.aload_n 2, 1) := by decide +kernel
theorem dL_law_302 : decode cL_law 302 = .ok (.aload_n 0, 1) := by decide +kernel
theorem dL_law_303 : decode cL_law 303 = .ok (.iload_n 3, 1) := by decide +kernel
theorem dL_law_304 : decode cL_law 304 = .ok (.iconst 1, 1) := by decide +kernel
theorem dL_law_305 : decode cL_law 305 = .ok (.iadd, 1) := by decide +kernel
theorem dL_law_306 : decode cL_law 306 = .ok (.iaload, 1) := by decide +kernel
theorem dL_law_307 : decode cL_law 307 = .ok (.aload_n 0, 1) := by decide +kernel
theorem dL_law_308 : decode cL_law 308 = .ok (.iload_n 3, 1) := by decide +kernel
theorem dL_law_309 : decode cL_law 309 = .ok (.iconst 2, 1) := by decide +kernel
theorem dL_law_310 : decode cL_law 310 = .ok (.iadd, 1) := by decide +kernel
theorem dL_law_311 : decode cL_law 311 = .ok (.iaload, 1) := by decide +kernel
theorem dL_law_312 : decode cL_law 312 = .ok (.invokevirtual 42, 3) := by decide +kernel
theorem dL_law_315 : decode cL_law 315 = .ok (.if_icmp .eq 647, 3) := by decide +kernel
theorem dL_law_318 : decode cL_law 318 = .ok (.iconst 0, 1) := by decide +kernel
theorem dL_law_319 : decode cL_law 319 = .ok (.ireturn, 1) := by decide +kernel
theorem dL_law_320 : decode cL_law 320 = .ok (.aload_n 1, 1) := by decide +kernel
theorem dL_law_321 : decode cL_law 321 = .ok (.aload_n 0, 1) := by decide +kernel
theorem dL_law_322 : decode cL_law 322 = .ok (.iload_n 3, 1) := by decide +kernel
theorem dL_law_323 : decode cL_law 323 = .ok (.iconst 1, 1) := by decide +kernel
theorem dL_law_324 : decode cL_law 324 = .ok (.iadd, 1) := by decide +kernel
theorem dL_law_325 : decode cL_law 325 = .ok (.iaload, 1) := by decide +kernel
theorem dL_law_326 : decode cL_law 326 = .ok (.aload_n 0, 1) := by decide +kernel
theorem dL_law_327 : decode cL_law 327 = .ok (.iload_n 3, 1) := by decide +kernel
theorem dL_law_328 : decode cL_law 328 = .ok (.iconst 2, 1) := by decide +kernel
theorem dL_law_329 : decode cL_law 329 = .ok (.iadd, 1) := by decide +kernel
theorem dL_law_330 : decode cL_law 330 = .ok (.iaload, 1) := by decide +kernel
theorem dL_law_331 : decode cL_law 331 = .ok (.invokevirtual 43, 3) := by decide +kernel
theorem dL_law_334 : decode cL_law 334 = .ok (.aload_n 2, 1) := by decide +kernel
theorem dL_law_335 : decode cL_law 335 = .ok (.aload_n 0, 1) := by decide +kernel
theorem dL_law_336 : decode cL_law 336 = .ok (.iload_n 3, 1) := by decide +kernel
theorem dL_law_337 : decode cL_law 337 = .ok (.iconst 1, 1) := by decide +kernel
theorem dL_law_338 : decode cL_law 338 = .ok (.iadd, 1) := by decide +kernel
theorem dL_law_339 : decode cL_law 339 = .ok (.iaload, 1) := by decide +kernel
theorem dL_law_340 : decode cL_law 340 = .ok (.aload_n 0, 1) := by decide +kernel
theorem dL_law_341 : decode cL_law 341 = .ok (.iload_n 3, 1) := by decide +kernel
theorem dL_law_342 : decode cL_law 342 = .ok (.iconst 2, 1) := by decide +kernel
theorem dL_law_343 : decode cL_law 343 = .ok (.iadd, 1) := by decide +kernel
theorem dL_law_344 : decode cL_law 344 = .ok (.iaload, 1) := by decide +kernel
theorem dL_law_345 : decode cL_law 345 = .ok (.invokevirtual 46, 3) := by decide +kernel
theorem dL_law_348 : decode cL_law 348 = .ok (.if_icmp .eq 614, 3) := by decide +kernel
theorem dL_law_351 : decode cL_law 351 = .ok (.iconst 0, 1) := by decide +kernel
theorem dL_law_352 : decode cL_law 352 = .ok (.ireturn, 1) := by decide +kernel
theorem dL_law_353 : decode cL_law 353 = .ok (.aload_n 1, 1) := by decide +kernel
theorem dL_law_354 : decode cL_law 354 = .ok (.aload_n 0, 1) := by decide +kernel
theorem dL_law_355 : decode cL_law 355 = .ok (.iload_n 3, 1) := by decide +kernel
theorem dL_law_356 : decode cL_law 356 = .ok (.iconst 1, 1) := by decide +kernel
theorem dL_law_357 : decode cL_law 357 = .ok (.iadd, 1) := by decide +kernel
theorem dL_law_358 : decode cL_law 358 = .ok (.iaload, 1) := by decide +kernel
theorem dL_law_359 : decode cL_law 359 = .ok (.aload_n 0, 1) := by decide +kernel
theorem dL_law_360 : decode cL_law 360 = .ok (.iload_n 3, 1) := by decide +kernel
theorem dL_law_361 : decode cL_law 361 = .ok (.iconst 2, 1) := by decide +kernel
theorem dL_law_362 : decode cL_law 362 = .ok (.iadd, 1) := by decide +kernel
theorem dL_law_363 : decode cL_law 363 = .ok (.iaload, 1) := by decide +kernel
theorem dL_law_364 : decode cL_law 364 = .ok (.aload_n 0, 1) := by decide +kernel
theorem dL_law_365 : decode cL_law 365 = .ok (.iload_n 3, 1) := by decide +kernel
theorem dL_law_366 : decode cL_law 366 = .ok (.iconst 3, 1) := by decide +kernel
theorem dL_law_367 : decode cL_law 367 = .ok (.iadd, 1) := by decide +kernel
theorem dL_law_368 : decode cL_law 368 = .ok (.iaload, 1) := by decide +kernel
theorem dL_law_369 : decode cL_law 369 = .ok (.invokevirtual 47, 3) := by decide +kernel
theorem dL_law_372 : decode cL_law 372 = .ok (.aload_n 2, 1) := by decide +kernel
theorem dL_law_373 : decode cL_law 373 = .ok (.aload_n 0, 1) := by decide +kernel
theorem dL_law_374 : decode cL_law 374 = .ok (.iload_n 3, 1) := by decide +kernel
theorem dL_law_375 : decode cL_law 375 = .ok (.iconst 1, 1) := by decide +kernel
theorem dL_law_376 : decode cL_law 376 = .ok (.iadd, 1) := by decide +kernel
theorem dL_law_377 : decode cL_law 377 = .ok (.iaload, 1) := by decide +kernel
theorem dL_law_378 : decode cL_law 378 = .ok (.aload_n 0, 1) := by decide +kernel
theorem dL_law_379 : decode cL_law 379 = .ok (.iload_n 3, 1) := by decide +kernel
theorem dL_law_380 : decode cL_law 380 = .ok (.iconst 2, 1) := by decide +kernel
theorem dL_law_381 : decode cL_law 381 = .ok (.iadd, 1) := by decide +kernel
theorem dL_law_382 : decode cL_law 382 = .ok (.iaload, 1) := by decide +kernel
theorem dL_law_383 : decode cL_law 383 = .ok (.aload_n 0, 1) := by decide +kernel
theorem dL_law_384 : decode cL_law 384 = .ok (.iload_n 3, 1) := by decide +kernel
theorem dL_law_385 : decode cL_law 385 = .ok (.iconst 3, 1) := by decide +kernel
theorem dL_law_386 : decode cL_law 386 = .ok (.iadd, 1) := by decide +kernel
theorem dL_law_387 : decode cL_law 387 = .ok (.iaload, 1) := by decide +kernel
theorem dL_law_388 : decode cL_law 388 = .ok (.invokevirtual 51, 3) := by decide +kernel
theorem dL_law_391 : decode cL_law 391 = .ok (.if_icmp .eq 571, 3) := by decide +kernel
theorem dL_law_394 : decode cL_law 394 = .ok (.iconst 0, 1) := by decide +kernel
theorem dL_law_395 : decode cL_law 395 = .ok (.ireturn, 1) := by decide +kernel
theorem dL_law_396 : decode cL_law 396 = .ok (.aload_n 1, 1) := by decide +kernel
theorem dL_law_397 : decode cL_law 397 = .ok (.aload_n 0, 1) := by decide +kernel
theorem dL_law_398 : decode cL_law 398 = .ok (.iload_n 3, 1) := by decide +kernel
theorem dL_law_399 : decode cL_law 399 = .ok (.iconst 1, 1) := by decide +kernel
theorem dL_law_400 : decode cL_law 400 = .ok (.iadd, 1) := by decide +kernel
theorem dL_law_401 : decode cL_law 401 = .ok (.iaload, 1) := by decide +kernel
theorem dL_law_402 : decode cL_law 402 = .ok (.invokevirtual 52, 3) := by decide +kernel
theorem dL_law_405 : decode cL_law 405 = .ok (.aload_n 2, 1) := by decide +kernel
theorem dL_law_406 : decode cL_law 406 = .ok (.aload_n 0, 1) := by decide +kernel
theorem dL_law_407 : decode cL_law 407 = .ok (.iload_n 3, 1) := by decide +kernel
theorem dL_law_408 : decode cL_law 408 = .ok (.iconst 1, 1) := by decide +kernel
theorem dL_law_409 : decode cL_law 409 = .ok (.iadd, 1) := by decide +kernel
theorem dL_law_410 : decode cL_law 410 = .ok (.iaload, 1) := by decide +kernel
theorem dL_law_411 : decode cL_law 411 = .ok (.invokevirtual 55, 3) := by decide +kernel
theorem dL_law_414 : decode cL_law 414 = .ok (.if_icmp .eq 548, 3) := by decide +kernel
theorem dL_law_417 : decode cL_law 417 = .ok (.iconst 0, 1) := by decide +kernel
theorem dL_law_418 : decode cL_law 418 = .ok (.ireturn, 1) := by decide +kernel
theorem dL_law_419 : decode cL_law 419 = .ok (.aload_n 1, 1) := by decide +kernel
theorem dL_law_420 : decode cL_law 420 = .ok (.aload_n 0, 1) := by decide +kernel
theorem dL_law_421 : decode cL_law 421 = .ok (.iload_n 3, 1) := by decide +kernel
theorem dL_law_422 : decode cL_law 422 = .ok (.iconst 1, 1) := by decide +kernel
theorem dL_law_423 : decode cL_law 423 = .ok (.iadd, 1) := by decide +kernel
theorem dL_law_424 : decode cL_law 424 = .ok (.iaload, 1) := by decide +kernel
theorem dL_law_425 : decode cL_law 425 = .ok (.aload_n 0, 1) := by decide +kernel
theorem dL_law_426 : decode cL_law 426 = .ok (.iload_n 3, 1) := by decide +kernel
theorem dL_law_427 : decode cL_law 427 = .ok (.iconst 2, 1) := by decide +kernel
theorem dL_law_428 : decode cL_law 428 = .ok (.iadd, 1) := by decide +kernel
theorem dL_law_429 : decode cL_law 429 = .ok (.iaload, 1) := by decide +kernel
theorem dL_law_430 : decode cL_law 430 = .ok (.invokevirtual 56, 3) := by decide +kernel
theorem dL_law_433 : decode cL_law 433 = .ok (.aload_n 2, 1) := by decide +kernel
theorem dL_law_434 : decode cL_law 434 = .ok (.aload_n 0, 1) := by decide +kernel
theorem dL_law_435 : decode cL_law 435 = .ok (.iload_n 3, 1) := by decide +kernel
theorem dL_law_436 : decode cL_law 436 = .ok (.iconst 1, 1) := by decide +kernel
theorem dL_law_437 : decode cL_law 437 = .ok (.iadd, 1) := by decide +kernel
theorem dL_law_438 : decode cL_law 438 = .ok (.iaload, 1) := by decide +kernel
theorem dL_law_439 : decode cL_law 439 = .ok (.aload_n 0, 1) := by decide +kernel
theorem dL_law_440 : decode cL_law 440 = .ok (.iload_n 3, 1) := by decide +kernel
theorem dL_law_441 : decode cL_law 441 = .ok (.iconst 2, 1) := by decide +kernel
theorem dL_law_442 : decode cL_law 442 = .ok (.iadd, 1) := by decide +kernel
theorem dL_law_443 : decode cL_law 443 = .ok (.iaload, 1) := by decide +kernel
theorem dL_law_444 : decode cL_law 444 = .ok (.invokevirtual 59, 3) := by decide +kernel
theorem dL_law_447 : decode cL_law 447 = .ok (.if_icmp .eq 515, 3) := by decide +kernel
theorem dL_law_450 : decode cL_law 450 = .ok (.iconst 0, 1) := by decide +kernel
theorem dL_law_451 : decode cL_law 451 = .ok (.ireturn, 1) := by decide +kernel
theorem dL_law_452 : decode cL_law 452 = .ok (.aload_n 1, 1) := by decide +kernel
theorem dL_law_453 : decode cL_law 453 = .ok (.aload_n 0, 1) := by decide +kernel
theorem dL_law_454 : decode cL_law 454 = .ok (.iload_n 3, 1) := by decide +kernel
theorem dL_law_455 : decode cL_law 455 = .ok (.iconst 1, 1) := by decide +kernel
theorem dL_law_456 : decode cL_law 456 = .ok (.iadd, 1) := by decide +kernel
theorem dL_law_457 : decode cL_law 457 = .ok (.iaload, 1) := by decide +kernel
theorem dL_law_458 : decode cL_law 458 = .ok (.invokevirtual 60, 3) := by decide +kernel
theorem dL_law_461 : decode cL_law 461 = .ok (.aload_n 2, 1) := by decide +kernel
theorem dL_law_462 : decode cL_law 462 = .ok (.aload_n 0, 1) := by decide +kernel
theorem dL_law_463 : decode cL_law 463 = .ok (.iload_n 3, 1) := by decide +kernel
theorem dL_law_464 : decode cL_law 464 = .ok (.iconst 1, 1) := by decide +kernel
theorem dL_law_465 : decode cL_law 465 = .ok (.iadd, 1) := by decide +kernel
theorem dL_law_466 : decode cL_law 466 = .ok (.iaload, 1) := by decide +kernel
theorem dL_law_467 : decode cL_law 467 = .ok (.invokevirtual 63, 3) := by decide +kernel
theorem dL_law_470 : decode cL_law 470 = .ok (.if_icmp .eq 492, 3) := by decide +kernel
theorem dL_law_473 : decode cL_law 473 = .ok (.iconst 0, 1) := by decide +kernel
theorem dL_law_474 : decode cL_law 474 = .ok (.ireturn, 1) := by decide +kernel
theorem dL_law_475 : decode cL_law 475 = .ok (.aload_n 1, 1) := by decide +kernel
theorem dL_law_476 : decode cL_law 476 = .ok (.aload_n 0, 1) := by decide +kernel
theorem dL_law_477 : decode cL_law 477 = .ok (.iload_n 3, 1) := by decide +kernel
theorem dL_law_478 : decode cL_law 478 = .ok (.iconst 1, 1) := by decide +kernel
theorem dL_law_479 : decode cL_law 479 = .ok (.iadd, 1) := by decide +kernel
theorem dL_law_480 : decode cL_law 480 = .ok (.iaload, 1) := by decide +kernel
theorem dL_law_481 : decode cL_law 481 = .ok (.aload_n 0, 1) := by decide +kernel
theorem dL_law_482 : decode cL_law 482 = .ok (.iload_n 3, 1) := by decide +kernel
theorem dL_law_483 : decode cL_law 483 = .ok (.iconst 2, 1) := by decide +kernel
theorem dL_law_484 : decode cL_law 484 = .ok (.iadd, 1) := by decide +kernel
theorem dL_law_485 : decode cL_law 485 = .ok (.iaload, 1) := by decide +kernel
theorem dL_law_486 : decode cL_law 486 = .ok (.aload_n 0, 1) := by decide +kernel
theorem dL_law_487 : decode cL_law 487 = .ok (.iload_n 3, 1) := by decide +kernel
theorem dL_law_488 : decode cL_law 488 = .ok (.iconst 3, 1) := by decide +kernel
theorem dL_law_489 : decode cL_law 489 = .ok (.iadd, 1) := by decide +kernel
theorem dL_law_490 : decode cL_law 490 = .ok (.iaload, 1) := by decide +kernel
theorem dL_law_491 : decode cL_law 491 = .ok (.aload_n 0, 1) := by decide +kernel
theorem dL_law_492 : decode cL_law 492 = .ok (.iload_n 3, 1) := by decide +kernel
theorem dL_law_493 : decode cL_law 493 = .ok (.iconst 4, 1) := by decide +kernel
theorem dL_law_494 : decode cL_law 494 = .ok (.iadd, 1) := by decide +kernel
theorem dL_law_495 : decode cL_law 495 = .ok (.iaload, 1) := by decide +kernel
theorem dL_law_496 : decode cL_law 496 = .ok (.invokevirtual 64, 3) := by decide +kernel
theorem dL_law_499 : decode cL_law 499 = .ok (.aload_n 2, 1) := by decide +kernel
theorem dL_law_500 : decode cL_law 500 = .ok (.aload_n 0, 1) := by decide +kernel
theorem dL_law_501 : decode cL_law 501 = .ok (.iload_n 3, 1) := by decide +kernel
theorem dL_law_502 : decode cL_law 502 = .ok (.iconst 1, 1) := by decide +kernel
theorem dL_law_503 : decode cL_law 503 = .ok (.iadd, 1) := by decide +kernel
theorem dL_law_504 : decode cL_law 504 = .ok (.iaload, 1) := by decide +kernel
theorem dL_law_505 : decode cL_law 505 = .ok (.aload_n 0, 1) := by decide +kernel
theorem dL_law_506 : decode cL_law 506 = .ok (.iload_n 3, 1) := by decide +kernel
theorem dL_law_507 : decode cL_law 507 = .ok (.iconst 2, 1) := by decide +kernel
theorem dL_law_508 : decode cL_law 508 = .ok (.iadd, 1) := by decide +kernel
theorem dL_law_509 : decode cL_law 509 = .ok (.iaload, 1) := by decide +kernel
theorem dL_law_510 : decode cL_law 510 = .ok (.aload_n 0, 1) := by decide +kernel
theorem dL_law_511 : decode cL_law 511 = .ok (.iload_n 3, 1) := by decide +kernel
theorem dL_law_512 : decode cL_law 512 = .ok (.iconst 3, 1) := by decide +kernel
theorem dL_law_513 : decode cL_law 513 = .ok (.iadd, 1) := by decide +kernel
theorem dL_law_514 : decode cL_law 514 = .ok (.iaload, 1) := by decide +kernel
theorem dL_law_515 : decode cL_law 515 = .ok (.aload_n 0, 1) := by decide +kernel
theorem dL_law_516 : decode cL_law 516 = .ok (.iload_n 3, 1) := by decide +kernel
theorem dL_law_517 : decode cL_law 517 = .ok (.iconst 4, 1) := by decide +kernel
theorem dL_law_518 : decode cL_law 518 = .ok (.iadd, 1) := by decide +kernel
theorem dL_law_519 : decode cL_law 519 = .ok (.iaload, 1) := by decide +kernel
theorem dL_law_520 : decode cL_law 520 = .ok (.invokevirtual 68, 3) := by decide +kernel
theorem dL_law_523 : decode cL_law 523 = .ok (.if_icmp .eq 439, 3) := by decide +kernel
theorem dL_law_526 : decode cL_law 526 = .ok (.iconst 0, 1) := by decide +kernel
theorem dL_law_527 : decode cL_law 527 = .ok (.ireturn, 1) := by decide +kernel
theorem dL_law_528 : decode cL_law 528 = .ok (.aload_n 1, 1) := by decide +kernel
theorem dL_law_529 : decode cL_law 529 = .ok (.aload_n 0, 1) := by decide +kernel
theorem dL_law_530 : decode cL_law 530 = .ok (.iload_n 3, 1) := by decide +kernel
theorem dL_law_531 : decode cL_law 531 = .ok (.iconst 1, 1) := by decide +kernel
theorem dL_law_532 : decode cL_law 532 = .ok (.iadd, 1) := by decide +kernel
theorem dL_law_533 : decode cL_law 533 = .ok (.iaload, 1) := by decide +kernel
theorem dL_law_534 : decode cL_law 534 = .ok (.aload_n 0, 1) := by decide +kernel
theorem dL_law_535 : decode cL_law 535 = .ok (.iload_n 3, 1) := by decide +kernel
theorem dL_law_536 : decode cL_law 536 = .ok (.iconst 2, 1) := by decide +kernel
theorem dL_law_537 : decode cL_law 537 = .ok (.iadd, 1) := by decide +kernel
theorem dL_law_538 : decode cL_law 538 = .ok (.iaload, 1) := by decide +kernel
theorem dL_law_539 : decode cL_law 539 = .ok (.aload_n 0, 1) := by decide +kernel
theorem dL_law_540 : decode cL_law 540 = .ok (.iload_n 3, 1) := by decide +kernel
theorem dL_law_541 : decode cL_law 541 = .ok (.iconst 3, 1) := by decide +kernel
theorem dL_law_542 : decode cL_law 542 = .ok (.iadd, 1) := by decide +kernel
theorem dL_law_543 : decode cL_law 543 = .ok (.iaload, 1) := by decide +kernel
theorem dL_law_544 : decode cL_law 544 = .ok (.invokevirtual 69, 3) := by decide +kernel
theorem dL_law_547 : decode cL_law 547 = .ok (.aload_n 2, 1) := by decide +kernel
theorem dL_law_548 : decode cL_law 548 = .ok (.aload_n 0, 1) := by decide +kernel
theorem dL_law_549 : decode cL_law 549 = .ok (.iload_n 3, 1) := by decide +kernel
theorem dL_law_550 : decode cL_law 550 = .ok (.iconst 1, 1) := by decide +kernel
theorem dL_law_551 : decode cL_law 551 = .ok (.iadd, 1) := by decide +kernel
theorem dL_law_552 : decode cL_law 552 = .ok (.iaload, 1) := by decide +kernel
theorem dL_law_553 : decode cL_law 553 = .ok (.aload_n 0, 1) := by decide +kernel
theorem dL_law_554 : decode cL_law 554 = .ok (.iload_n 3, 1) := by decide +kernel
theorem dL_law_555 : decode cL_law 555 = .ok (.iconst 2, 1) := by decide +kernel
theorem dL_law_556 : decode cL_law 556 = .ok (.iadd, 1) := by decide +kernel
theorem dL_law_557 : decode cL_law 557 = .ok (.iaload, 1) := by decide +kernel
theorem dL_law_558 : decode cL_law 558 = .ok (.aload_n 0, 1) := by decide +kernel
theorem dL_law_559 : decode cL_law 559 = .ok (.iload_n 3, 1) := by decide +kernel
theorem dL_law_560 : decode cL_law 560 = .ok (.iconst 3, 1) := by decide +kernel
theorem dL_law_561 : decode cL_law 561 = .ok (.iadd, 1) := by decide +kernel
theorem dL_law_562 : decode cL_law 562 = .ok (.iaload, 1) := by decide +kernel
theorem dL_law_563 : decode cL_law 563 = .ok (.invokevirtual 72, 3) := by decide +kernel
theorem dL_law_566 : decode cL_law 566 = .ok (.if_icmp .eq 396, 3) := by decide +kernel
theorem dL_law_569 : decode cL_law 569 = .ok (.iconst 0, 1) := by decide +kernel
theorem dL_law_570 : decode cL_law 570 = .ok (.ireturn, 1) := by decide +kernel
theorem dL_law_571 : decode cL_law 571 = .ok (.aload_n 1, 1) := by decide +kernel
theorem dL_law_572 : decode cL_law 572 = .ok (.aload_n 0, 1) := by decide +kernel
theorem dL_law_573 : decode cL_law 573 = .ok (.iload_n 3, 1) := by decide +kernel
theorem dL_law_574 : decode cL_law 574 = .ok (.iconst 1, 1) := by decide +kernel
theorem dL_law_575 : decode cL_law 575 = .ok (.iadd, 1) := by decide +kernel
theorem dL_law_576 : decode cL_law 576 = .ok (.iaload, 1) := by decide +kernel
theorem dL_law_577 : decode cL_law 577 = .ok (.invokevirtual 73, 3) := by decide +kernel
theorem dL_law_580 : decode cL_law 580 = .ok (.aload_n 2, 1) := by decide +kernel
theorem dL_law_581 : decode cL_law 581 = .ok (.aload_n 0, 1) := by decide +kernel
theorem dL_law_582 : decode cL_law 582 = .ok (.iload_n 3, 1) := by decide +kernel
theorem dL_law_583 : decode cL_law 583 = .ok (.iconst 1, 1) := by decide +kernel
theorem dL_law_584 : decode cL_law 584 = .ok (.iadd, 1) := by decide +kernel
theorem dL_law_585 : decode cL_law 585 = .ok (.iaload, 1) := by decide +kernel
theorem dL_law_586 : decode cL_law 586 = .ok (.invokevirtual 77, 3) := by decide +kernel
theorem dL_law_589 : decode cL_law 589 = .ok (.lcmp, 1) := by decide +kernel
theorem dL_law_590 : decode cL_law 590 = .ok (.ifCond .eq 372, 3) := by decide +kernel
theorem dL_law_593 : decode cL_law 593 = .ok (.iconst 0, 1) := by decide +kernel
theorem dL_law_594 : decode cL_law 594 = .ok (.ireturn, 1) := by decide +kernel
theorem dL_law_595 : decode cL_law 595 = .ok (.aload_n 1, 1) := by decide +kernel
theorem dL_law_596 : decode cL_law 596 = .ok (.aload_n 0, 1) := by decide +kernel
theorem dL_law_597 : decode cL_law 597 = .ok (.iload_n 3, 1) := by decide +kernel
theorem dL_law_598 : decode cL_law 598 = .ok (.iconst 1, 1) := by decide +kernel
theorem dL_law_599 : decode cL_law 599 = .ok (.iadd, 1) := by decide +kernel
theorem dL_law_600 : decode cL_law 600 = .ok (.iaload, 1) := by decide +kernel
theorem dL_law_601 : decode cL_law 601 = .ok (.aload_n 0, 1) := by decide +kernel
theorem dL_law_602 : decode cL_law 602 = .ok (.iload_n 3, 1) := by decide +kernel
theorem dL_law_603 : decode cL_law 603 = .ok (.iconst 2, 1) := by decide +kernel
theorem dL_law_604 : decode cL_law 604 = .ok (.iadd, 1) := by decide +kernel
theorem dL_law_605 : decode cL_law 605 = .ok (.iaload, 1) := by decide +kernel
theorem dL_law_606 : decode cL_law 606 = .ok (.invokevirtual 78, 3) := by decide +kernel
theorem dL_law_609 : decode cL_law 609 = .ok (.aload_n 2, 1) := by decide +kernel
theorem dL_law_610 : decode cL_law 610 = .ok (.aload_n 0, 1) := by decide +kernel
theorem dL_law_611 : decode cL_law 611 = .ok (.iload_n 3, 1) := by decide +kernel
theorem dL_law_612 : decode cL_law 612 = .ok (.iconst 1, 1) := by decide +kernel
theorem dL_law_613 : decode cL_law 613 = .ok (.iadd, 1) := by decide +kernel
theorem dL_law_614 : decode cL_law 614 = .ok (.iaload, 1) := by decide +kernel
theorem dL_law_615 : decode cL_law 615 = .ok (.aload_n 0, 1) := by decide +kernel
theorem dL_law_616 : decode cL_law 616 = .ok (.iload_n 3, 1) := by decide +kernel
theorem dL_law_617 : decode cL_law 617 = .ok (.iconst 2, 1) := by decide +kernel
theorem dL_law_618 : decode cL_law 618 = .ok (.iadd, 1) := by decide +kernel
theorem dL_law_619 : decode cL_law 619 = .ok (.iaload, 1) := by decide +kernel
theorem dL_law_620 : decode cL_law 620 = .ok (.invokevirtual 81, 3) := by decide +kernel
theorem dL_law_623 : decode cL_law 623 = .ok (.if_icmp .eq 339, 3) := by decide +kernel
theorem dL_law_626 : decode cL_law 626 = .ok (.iconst 0, 1) := by decide +kernel
theorem dL_law_627 : decode cL_law 627 = .ok (.ireturn, 1) := by decide +kernel
theorem dL_law_628 : decode cL_law 628 = .ok (.aload_n 1, 1) := by decide +kernel
theorem dL_law_629 : decode cL_law 629 = .ok (.aload_n 0, 1) := by decide +kernel
theorem dL_law_630 : decode cL_law 630 = .ok (.iload_n 3, 1) := by decide +kernel
theorem dL_law_631 : decode cL_law 631 = .ok (.iconst 1, 1) := by decide +kernel
theorem dL_law_632 : decode cL_law 632 = .ok (.iadd, 1) := by decide +kernel
theorem dL_law_633 : decode cL_law 633 = .ok (.iaload, 1) := by decide +kernel
theorem dL_law_634 : decode cL_law 634 = .ok (.aload_n 0, 1) := by decide +kernel
theorem dL_law_635 : decode cL_law 635 = .ok (.iload_n 3, 1) := by decide +kernel
theorem dL_law_636 : decode cL_law 636 = .ok (.iconst 2, 1) := by decide +kernel
theorem dL_law_637 : decode cL_law 637 = .ok (.iadd, 1) := by decide +kernel
theorem dL_law_638 : decode cL_law 638 = .ok (.iaload, 1) := by decide +kernel
theorem dL_law_639 : decode cL_law 639 = .ok (.aload_n 0, 1) := by decide +kernel
theorem dL_law_640 : decode cL_law 640 = .ok (.iload_n 3, 1) := by decide +kernel
theorem dL_law_641 : decode cL_law 641 = .ok (.iconst 3, 1) := by decide +kernel
theorem dL_law_642 : decode cL_law 642 = .ok (.iadd, 1) := by decide +kernel
theorem dL_law_643 : decode cL_law 643 = .ok (.iaload, 1) := by decide +kernel
theorem dL_law_644 : decode cL_law 644 = .ok (.invokevirtual 82, 3) := by decide +kernel
theorem dL_law_647 : decode cL_law 647 = .ok (.aload_n 2, 1) := by decide +kernel
theorem dL_law_648 : decode cL_law 648 = .ok (.aload_n 0, 1) := by decide +kernel
theorem dL_law_649 : decode cL_law 649 = .ok (.iload_n 3, 1) := by decide +kernel
theorem dL_law_650 : decode cL_law 650 = .ok (.iconst 1, 1) := by decide +kernel
theorem dL_law_651 : decode cL_law 651 = .ok (.iadd, 1) := by decide +kernel
theorem dL_law_652 : decode cL_law 652 = .ok (.iaload, 1) := by decide +kernel
theorem dL_law_653 : decode cL_law 653 = .ok (.aload_n 0, 1) := by decide +kernel
theorem dL_law_654 : decode cL_law 654 = .ok (.iload_n 3, 1) := by decide +kernel
theorem dL_law_655 : decode cL_law 655 = .ok (.iconst 2, 1) := by decide +kernel
theorem dL_law_656 : decode cL_law 656 = .ok (.iadd, 1) := by decide +kernel
theorem dL_law_657 : decode cL_law 657 = .ok (.iaload, 1) := by decide +kernel
theorem dL_law_658 : decode cL_law 658 = .ok (.aload_n 0, 1) := by decide +kernel
theorem dL_law_659 : decode cL_law 659 = .ok (.iload_n 3, 1) := by decide +kernel
theorem dL_law_660 : decode cL_law 660 = .ok (.iconst 3, 1) := by decide +kernel
theorem dL_law_661 : decode cL_law 661 = .ok (.iadd, 1) := by decide +kernel
theorem dL_law_662 : decode cL_law 662 = .ok (.iaload, 1) := by decide +kernel
theorem dL_law_663 : decode cL_law 663 = .ok (.invokevirtual 85, 3) := by decide +kernel
theorem dL_law_666 : decode cL_law 666 = .ok (.if_icmp .eq 296, 3) := by decide +kernel
theorem dL_law_669 : decode cL_law 669 = .ok (.iconst 0, 1) := by decide +kernel
theorem dL_law_670 : decode cL_law 670 = .ok (.ireturn, 1) := by decide +kernel
theorem dL_law_671 : decode cL_law 671 = .ok (.aload_n 1, 1) := by decide +kernel
theorem dL_law_672 : decode cL_law 672 = .ok (.aload_n 0, 1) := by decide +kernel
theorem dL_law_673 : decode cL_law 673 = .ok (.iload_n 3, 1) := by decide +kernel
theorem dL_law_674 : decode cL_law 674 = .ok (.iconst 1, 1) := by decide +kernel
theorem dL_law_675 : decode cL_law 675 = .ok (.iadd, 1) := by decide +kernel
theorem dL_law_676 : decode cL_law 676 = .ok (.iaload, 1) := by decide +kernel
theorem dL_law_677 : decode cL_law 677 = .ok (.aload_n 0, 1) := by decide +kernel
theorem dL_law_678 : decode cL_law 678 = .ok (.iload_n 3, 1) := by decide +kernel
theorem dL_law_679 : decode cL_law 679 = .ok (.iconst 2, 1) := by decide +kernel
theorem dL_law_680 : decode cL_law 680 = .ok (.iadd, 1) := by decide +kernel
theorem dL_law_681 : decode cL_law 681 = .ok (.iaload, 1) := by decide +kernel
theorem dL_law_682 : decode cL_law 682 = .ok (.invokevirtual 86, 3) := by decide +kernel
theorem dL_law_685 : decode cL_law 685 = .ok (.aload_n 2, 1) := by decide +kernel
theorem dL_law_686 : decode cL_law 686 = .ok (.aload_n 0, 1) := by decide +kernel
theorem dL_law_687 : decode cL_law 687 = .ok (.iload_n 3, 1) := by decide +kernel
theorem dL_law_688 : decode cL_law 688 = .ok (.iconst 1, 1) := by decide +kernel
theorem dL_law_689 : decode cL_law 689 = .ok (.iadd, 1) := by decide +kernel
theorem dL_law_690 : decode cL_law 690 = .ok (.iaload, 1) := by decide +kernel
theorem dL_law_691 : decode cL_law 691 = .ok (.aload_n 0, 1) := by decide +kernel
theorem dL_law_692 : decode cL_law 692 = .ok (.iload_n 3, 1) := by decide +kernel
theorem dL_law_693 : decode cL_law 693 = .ok (.iconst 2, 1) := by decide +kernel
theorem dL_law_694 : decode cL_law 694 = .ok (.iadd, 1) := by decide +kernel
theorem dL_law_695 : decode cL_law 695 = .ok (.iaload, 1) := by decide +kernel
theorem dL_law_696 : decode cL_law 696 = .ok (.invokevirtual 89, 3) := by decide +kernel
theorem dL_law_699 : decode cL_law 699 = .ok (.if_icmp .eq 263, 3) := by decide +kernel
theorem dL_law_702 : decode cL_law 702 = .ok (.iconst 0, 1) := by decide +kernel
theorem dL_law_703 : decode cL_law 703 = .ok (.ireturn, 1) := by decide +kernel
theorem dL_law_704 : decode cL_law 704 = .ok (.aload_n 1, 1) := by decide +kernel
theorem dL_law_705 : decode cL_law 705 = .ok (.aload_n 0, 1) := by decide +kernel
theorem dL_law_706 : decode cL_law 706 = .ok (.iload_n 3, 1) := by decide +kernel
theorem dL_law_707 : decode cL_law 707 = .ok (.iconst 1, 1) := by decide +kernel
theorem dL_law_708 : decode cL_law 708 = .ok (.iadd, 1) := by decide +kernel
theorem dL_law_709 : decode cL_law 709 = .ok (.iaload, 1) := by decide +kernel
theorem dL_law_710 : decode cL_law 710 = .ok (.aload_n 0, 1) := by decide +kernel
theorem dL_law_711 : decode cL_law 711 = .ok (.iload_n 3, 1) := by decide +kernel
theorem dL_law_712 : decode cL_law 712 = .ok (.iconst 2, 1) := by decide +kernel
theorem dL_law_713 : decode cL_law 713 = .ok (.iadd, 1) := by decide +kernel
theorem dL_law_714 : decode cL_law 714 = .ok (.iaload, 1) := by decide +kernel
theorem dL_law_715 : decode cL_law 715 = .ok (.invokevirtual 90, 3) := by decide +kernel
theorem dL_law_718 : decode cL_law 718 = .ok (.aload_n 2, 1) := by decide +kernel
theorem dL_law_719 : decode cL_law 719 = .ok (.aload_n 0, 1) := by decide +kernel
theorem dL_law_720 : decode cL_law 720 = .ok (.iload_n 3, 1) := by decide +kernel
theorem dL_law_721 : decode cL_law 721 = .ok (.iconst 1, 1) := by decide +kernel
theorem dL_law_722 : decode cL_law 722 = .ok (.iadd, 1) := by decide +kernel
theorem dL_law_723 : decode cL_law 723 = .ok (.iaload, 1) := by decide +kernel
theorem dL_law_724 : decode cL_law 724 = .ok (.aload_n 0, 1) := by decide +kernel
theorem dL_law_725 : decode cL_law 725 = .ok (.iload_n 3, 1) := by decide +kernel
theorem dL_law_726 : decode cL_law 726 = .ok (.iconst 2, 1) := by decide +kernel
theorem dL_law_727 : decode cL_law 727 = .ok (.iadd, 1) := by decide +kernel
theorem dL_law_728 : decode cL_law 728 = .ok (.iaload, 1) := by decide +kernel
theorem dL_law_729 : decode cL_law 729 = .ok (.invokevirtual 93, 3) := by decide +kernel
theorem dL_law_732 : decode cL_law 732 = .ok (.if_icmp .eq 230, 3) := by decide +kernel
theorem dL_law_735 : decode cL_law 735 = .ok (.iconst 0, 1) := by decide +kernel
theorem dL_law_736 : decode cL_law 736 = .ok (.ireturn, 1) := by decide +kernel
theorem dL_law_737 : decode cL_law 737 = .ok (.aload_n 1, 1) := by decide +kernel
theorem dL_law_738 : decode cL_law 738 = .ok (.aload_n 0, 1) := by decide +kernel
theorem dL_law_739 : decode cL_law 739 = .ok (.iload_n 3, 1) := by decide +kernel
theorem dL_law_740 : decode cL_law 740 = .ok (.iconst 1, 1) := by decide +kernel
theorem dL_law_741 : decode cL_law 741 = .ok (.iadd, 1) := by decide +kernel
theorem dL_law_742 : decode cL_law 742 = .ok (.iaload, 1) := by decide +kernel
theorem dL_law_743 : decode cL_law 743 = .ok (.aload_n 0, 1) := by decide +kernel
theorem dL_law_744 : decode cL_law 744 = .ok (.iload_n 3, 1) := by decide +kernel
theorem dL_law_745 : decode cL_law 745 = .ok (.iconst 2, 1) := by decide +kernel
theorem dL_law_746 : decode cL_law 746 = .ok (.iadd, 1) := by decide +kernel
theorem dL_law_747 : decode cL_law 747 = .ok (.iaload, 1) := by decide +kernel
theorem dL_law_748 : decode cL_law 748 = .ok (.aload_n 0, 1) := by decide +kernel
theorem dL_law_749 : decode cL_law 749 = .ok (.iload_n 3, 1) := by decide +kernel
theorem dL_law_750 : decode cL_law 750 = .ok (.iconst 3, 1) := by decide +kernel
theorem dL_law_751 : decode cL_law 751 = .ok (.iadd, 1) := by decide +kernel
theorem dL_law_752 : decode cL_law 752 = .ok (.iaload, 1) := by decide +kernel
theorem dL_law_753 : decode cL_law 753 = .ok (.invokevirtual 94, 3) := by decide +kernel
theorem dL_law_756 : decode cL_law 756 = .ok (.aload_n 2, 1) := by decide +kernel
theorem dL_law_757 : decode cL_law 757 = .ok (.aload_n 0, 1) := by decide +kernel
theorem dL_law_758 : decode cL_law 758 = .ok (.iload_n 3, 1) := by decide +kernel
theorem dL_law_759 : decode cL_law 759 = .ok (.iconst 1, 1) := by decide +kernel
theorem dL_law_760 : decode cL_law 760 = .ok (.iadd, 1) := by decide +kernel
theorem dL_law_761 : decode cL_law 761 = .ok (.iaload, 1) := by decide +kernel
theorem dL_law_762 : decode cL_law 762 = .ok (.aload_n 0, 1) := by decide +kernel
theorem dL_law_763 : decode cL_law 763 = .ok (.iload_n 3, 1) := by decide +kernel
theorem dL_law_764 : decode cL_law 764 = .ok (.iconst 2, 1) := by decide +kernel
theorem dL_law_765 : decode cL_law 765 = .ok (.iadd, 1) := by decide +kernel
theorem dL_law_766 : decode cL_law 766 = .ok (.iaload, 1) := by decide +kernel
theorem dL_law_767 : decode cL_law 767 = .ok (.aload_n 0, 1) := by decide +kernel
theorem dL_law_768 : decode cL_law 768 = .ok (.iload_n 3, 1) := by decide +kernel
theorem dL_law_769 : decode cL_law 769 = .ok (.iconst 3, 1) := by decide +kernel
theorem dL_law_770 : decode cL_law 770 = .ok (.iadd, 1) := by decide +kernel
theorem dL_law_771 : decode cL_law 771 = .ok (.iaload, 1) := by decide +kernel
theorem dL_law_772 : decode cL_law 772 = .ok (.invokevirtual 97, 3) := by decide +kernel
theorem dL_law_775 : decode cL_law 775 = .ok (.if_icmp .eq 187, 3) := by decide +kernel
theorem dL_law_778 : decode cL_law 778 = .ok (.iconst 0, 1) := by decide +kernel
theorem dL_law_779 : decode cL_law 779 = .ok (.ireturn, 1) := by decide +kernel
theorem dL_law_780 : decode cL_law 780 = .ok (.aload_n 1, 1) := by decide +kernel
theorem dL_law_781 : decode cL_law 781 = .ok (.aload_n 0, 1) := by decide +kernel
theorem dL_law_782 : decode cL_law 782 = .ok (.iload_n 3, 1) := by decide +kernel
theorem dL_law_783 : decode cL_law 783 = .ok (.iconst 1, 1) := by decide +kernel
theorem dL_law_784 : decode cL_law 784 = .ok (.iadd, 1) := by decide +kernel
theorem dL_law_785 : decode cL_law 785 = .ok (.iaload, 1) := by decide +kernel
theorem dL_law_786 : decode cL_law 786 = .ok (.invokevirtual 98, 3) := by decide +kernel
theorem dL_law_789 : decode cL_law 789 = .ok (.aload_n 2, 1) := by decide +kernel
theorem dL_law_790 : decode cL_law 790 = .ok (.aload_n 0, 1) := by decide +kernel
theorem dL_law_791 : decode cL_law 791 = .ok (.iload_n 3, 1) := by decide +kernel
theorem dL_law_792 : decode cL_law 792 = .ok (.iconst 1, 1) := by decide +kernel
theorem dL_law_793 : decode cL_law 793 = .ok (.iadd, 1) := by decide +kernel
theorem dL_law_794 : decode cL_law 794 = .ok (.iaload, 1) := by decide +kernel
theorem dL_law_795 : decode cL_law 795 = .ok (.invokevirtual 101, 3) := by decide +kernel
theorem dL_law_798 : decode cL_law 798 = .ok (.if_icmp .eq 164, 3) := by decide +kernel
theorem dL_law_801 : decode cL_law 801 = .ok (.iconst 0, 1) := by decide +kernel
theorem dL_law_802 : decode cL_law 802 = .ok (.ireturn, 1) := by decide +kernel
theorem dL_law_803 : decode cL_law 803 = .ok (.aload_n 1, 1) := by decide +kernel
theorem dL_law_804 : decode cL_law 804 = .ok (.aload_n 0, 1) := by decide +kernel
theorem dL_law_805 : decode cL_law 805 = .ok (.iload_n 3, 1) := by decide +kernel
theorem dL_law_806 : decode cL_law 806 = .ok (.iconst 1, 1) := by decide +kernel
theorem dL_law_807 : decode cL_law 807 = .ok (.iadd, 1) := by decide +kernel
theorem dL_law_808 : decode cL_law 808 = .ok (.iaload, 1) := by decide +kernel
theorem dL_law_809 : decode cL_law 809 = .ok (.aload_n 0, 1) := by decide +kernel
theorem dL_law_810 : decode cL_law 810 = .ok (.iload_n 3, 1) := by decide +kernel
theorem dL_law_811 : decode cL_law 811 = .ok (.iconst 2, 1) := by decide +kernel
theorem dL_law_812 : decode cL_law 812 = .ok (.iadd, 1) := by decide +kernel
theorem dL_law_813 : decode cL_law 813 = .ok (.iaload, 1) := by decide +kernel
theorem dL_law_814 : decode cL_law 814 = .ok (.aload_n 0, 1) := by decide +kernel
theorem dL_law_815 : decode cL_law 815 = .ok (.iload_n 3, 1) := by decide +kernel
theorem dL_law_816 : decode cL_law 816 = .ok (.iconst 3, 1) := by decide +kernel
theorem dL_law_817 : decode cL_law 817 = .ok (.iadd, 1) := by decide +kernel
theorem dL_law_818 : decode cL_law 818 = .ok (.iaload, 1) := by decide +kernel
theorem dL_law_819 : decode cL_law 819 = .ok (.invokevirtual 102, 3) := by decide +kernel
theorem dL_law_822 : decode cL_law 822 = .ok (.aload_n 2, 1) := by decide +kernel
theorem dL_law_823 : decode cL_law 823 = .ok (.aload_n 0, 1) := by decide +kernel
theorem dL_law_824 : decode cL_law 824 = .ok (.iload_n 3, 1) := by decide +kernel
theorem dL_law_825 : decode cL_law 825 = .ok (.iconst 1, 1) := by decide +kernel
theorem dL_law_826 : decode cL_law 826 = .ok (.iadd, 1) := by decide +kernel
theorem dL_law_827 : decode cL_law 827 = .ok (.iaload, 1) := by decide +kernel
theorem dL_law_828 : decode cL_law 828 = .ok (.aload_n 0, 1) := by decide +kernel
theorem dL_law_829 : decode cL_law 829 = .ok (.iload_n 3, 1) := by decide +kernel
theorem dL_law_830 : decode cL_law 830 = .ok (.iconst 2, 1) := by decide +kernel
theorem dL_law_831 : decode cL_law 831 = .ok (.iadd, 1) := by decide +kernel
theorem dL_law_832 : decode cL_law 832 = .ok (.iaload, 1) := by decide +kernel
theorem dL_law_833 : decode cL_law 833 = .ok (.aload_n 0, 1) := by decide +kernel
theorem dL_law_834 : decode cL_law 834 = .ok (.iload_n 3, 1) := by decide +kernel
theorem dL_law_835 : decode cL_law 835 = .ok (.iconst 3, 1) := by decide +kernel
theorem dL_law_836 : decode cL_law 836 = .ok (.iadd, 1) := by decide +kernel
theorem dL_law_837 : decode cL_law 837 = .ok (.iaload, 1) := by decide +kernel
theorem dL_law_838 : decode cL_law 838 = .ok (.invokevirtual 105, 3) := by decide +kernel
theorem dL_law_841 : decode cL_law 841 = .ok (.if_icmp .eq 121, 3) := by decide +kernel
theorem dL_law_844 : decode cL_law 844 = .ok (.iconst 0, 1) := by decide +kernel
theorem dL_law_845 : decode cL_law 845 = .ok (.ireturn, 1) := by decide +kernel
theorem dL_law_846 : decode cL_law 846 = .ok (.aload_n 1, 1) := by decide +kernel
theorem dL_law_847 : decode cL_law 847 = .ok (.aload_n 0, 1) := by decide +kernel
theorem dL_law_848 : decode cL_law 848 = .ok (.iload_n 3, 1) := by decide +kernel
theorem dL_law_849 : decode cL_law 849 = .ok (.iconst 1, 1) := by decide +kernel
theorem dL_law_850 : decode cL_law 850 = .ok (.iadd, 1) := by decide +kernel
theorem dL_law_851 : decode cL_law 851 = .ok (.iaload, 1) := by decide +kernel
theorem dL_law_852 : decode cL_law 852 = .ok (.aload_n 0, 1) := by decide +kernel
theorem dL_law_853 : decode cL_law 853 = .ok (.iload_n 3, 1) := by decide +kernel
theorem dL_law_854 : decode cL_law 854 = .ok (.iconst 2, 1) := by decide +kernel
theorem dL_law_855 : decode cL_law 855 = .ok (.iadd, 1) := by decide +kernel
theorem dL_law_856 : decode cL_law 856 = .ok (.iaload, 1) := by decide +kernel
theorem dL_law_857 : decode cL_law 857 = .ok (.invokevirtual 106, 3) := by decide +kernel
theorem dL_law_860 : decode cL_law 860 = .ok (.aload_n 2, 1) := by decide +kernel
theorem dL_law_861 : decode cL_law 861 = .ok (.aload_n 0, 1) := by decide +kernel
theorem dL_law_862 : decode cL_law 862 = .ok (.iload_n 3, 1) := by decide +kernel
theorem dL_law_863 : decode cL_law 863 = .ok (.iconst 1, 1) := by decide +kernel
theorem dL_law_864 : decode cL_law 864 = .ok (.iadd, 1) := by decide +kernel
theorem dL_law_865 : decode cL_law 865 = .ok (.iaload, 1) := by decide +kernel
theorem dL_law_866 : decode cL_law 866 = .ok (.aload_n 0, 1) := by decide +kernel
theorem dL_law_867 : decode cL_law 867 = .ok (.iload_n 3, 1) := by decide +kernel
theorem dL_law_868 : decode cL_law 868 = .ok (.iconst 2, 1) := by decide +kernel
theorem dL_law_869 : decode cL_law 869 = .ok (.iadd, 1) := by decide +kernel
theorem dL_law_870 : decode cL_law 870 = .ok (.iaload, 1) := by decide +kernel
theorem dL_law_871 : decode cL_law 871 = .ok (.invokevirtual 109, 3) := by decide +kernel
theorem dL_law_874 : decode cL_law 874 = .ok (.if_icmp .eq 88, 3) := by decide +kernel
theorem dL_law_877 : decode cL_law 877 = .ok (.iconst 0, 1) := by decide +kernel
theorem dL_law_878 : decode cL_law 878 = .ok (.ireturn, 1) := by decide +kernel
theorem dL_law_879 : decode cL_law 879 = .ok (.aload_n 1, 1) := by decide +kernel
theorem dL_law_880 : decode cL_law 880 = .ok (.aload_n 0, 1) := by decide +kernel
theorem dL_law_881 : decode cL_law 881 = .ok (.iload_n 3, 1) := by decide +kernel
theorem dL_law_882 : decode cL_law 882 = .ok (.iconst 1, 1) := by decide +kernel
theorem dL_law_883 : decode cL_law 883 = .ok (.iadd, 1) := by decide +kernel
theorem dL_law_884 : decode cL_law 884 = .ok (.iaload, 1) := by decide +kernel
theorem dL_law_885 : decode cL_law 885 = .ok (.invokevirtual 110, 3) := by decide +kernel
theorem dL_law_888 : decode cL_law 888 = .ok (.aload_n 2, 1) := by decide +kernel
theorem dL_law_889 : decode cL_law 889 = .ok (.aload_n 0, 1) := by decide +kernel
theorem dL_law_890 : decode cL_law 890 = .ok (.iload_n 3, 1) := by decide +kernel
theorem dL_law_891 : decode cL_law 891 = .ok (.iconst 1, 1) := by decide +kernel
theorem dL_law_892 : decode cL_law 892 = .ok (.iadd, 1) := by decide +kernel
theorem dL_law_893 : decode cL_law 893 = .ok (.iaload, 1) := by decide +kernel
theorem dL_law_894 : decode cL_law 894 = .ok (.invokevirtual 113, 3) := by decide +kernel
theorem dL_law_897 : decode cL_law 897 = .ok (.if_icmp .eq 65, 3) := by decide +kernel
theorem dL_law_900 : decode cL_law 900 = .ok (.iconst 0, 1) := by decide +kernel
theorem dL_law_901 : decode cL_law 901 = .ok (.ireturn, 1) := by decide +kernel
theorem dL_law_902 : decode cL_law 902 = .ok (.aload_n 1, 1) := by decide +kernel
theorem dL_law_903 : decode cL_law 903 = .ok (.aload_n 0, 1) := by decide +kernel
theorem dL_law_904 : decode cL_law 904 = .ok (.iload_n 3, 1) := by decide +kernel
theorem dL_law_905 : decode cL_law 905 = .ok (.iconst 1, 1) := by decide +kernel
theorem dL_law_906 : decode cL_law 906 = .ok (.iadd, 1) := by decide +kernel
theorem dL_law_907 : decode cL_law 907 = .ok (.iaload, 1) := by decide +kernel
theorem dL_law_908 : decode cL_law 908 = .ok (.invokevirtual 114, 3) := by decide +kernel
theorem dL_law_911 : decode cL_law 911 = .ok (.aload_n 2, 1) := by decide +kernel
theorem dL_law_912 : decode cL_law 912 = .ok (.aload_n 0, 1) := by decide +kernel
theorem dL_law_913 : decode cL_law 913 = .ok (.iload_n 3, 1) := by decide +kernel
theorem dL_law_914 : decode cL_law 914 = .ok (.iconst 1, 1) := by decide +kernel
theorem dL_law_915 : decode cL_law 915 = .ok (.iadd, 1) := by decide +kernel
theorem dL_law_916 : decode cL_law 916 = .ok (.iaload, 1) := by decide +kernel
theorem dL_law_917 : decode cL_law 917 = .ok (.invokevirtual 117, 3) := by decide +kernel
theorem dL_law_920 : decode cL_law 920 = .ok (.if_icmp .eq 42, 3) := by decide +kernel
theorem dL_law_923 : decode cL_law 923 = .ok (.iconst 0, 1) := by decide +kernel
theorem dL_law_924 : decode cL_law 924 = .ok (.ireturn, 1) := by decide +kernel
theorem dL_law_925 : decode cL_law 925 = .ok (.aload_n 1, 1) := by decide +kernel
theorem dL_law_926 : decode cL_law 926 = .ok (.aload_n 0, 1) := by decide +kernel
theorem dL_law_927 : decode cL_law 927 = .ok (.iload_n 3, 1) := by decide +kernel
theorem dL_law_928 : decode cL_law 928 = .ok (.iconst 1, 1) := by decide +kernel
theorem dL_law_929 : decode cL_law 929 = .ok (.iadd, 1) := by decide +kernel
theorem dL_law_930 : decode cL_law 930 = .ok (.iaload, 1) := by decide +kernel
theorem dL_law_931 : decode cL_law 931 = .ok (.invokevirtual 118, 3) := by decide +kernel
theorem dL_law_934 : decode cL_law 934 = .ok (.aload_n 2, 1) := by decide +kernel
theorem dL_law_935 : decode cL_law 935 = .ok (.aload_n 0, 1) := by decide +kernel
theorem dL_law_936 : decode cL_law 936 = .ok (.iload_n 3, 1) := by decide +kernel
theorem dL_law_937 : decode cL_law 937 = .ok (.iconst 1, 1) := by decide +kernel
theorem dL_law_938 : decode cL_law 938 = .ok (.iadd, 1) := by decide +kernel
theorem dL_law_939 : decode cL_law 939 = .ok (.iaload, 1) := by decide +kernel
theorem dL_law_940 : decode cL_law 940 = .ok (.invokevirtual 121, 3) := by decide +kernel
theorem dL_law_943 : decode cL_law 943 = .ok (.if_icmp .eq 19, 3) := by decide +kernel
theorem dL_law_946 : decode cL_law 946 = .ok (.iconst 0, 1) := by decide +kernel
theorem dL_law_947 : decode cL_law 947 = .ok (.ireturn, 1) := by decide +kernel
theorem dL_law_948 : decode cL_law 948 = .ok (.aload_n 1, 1) := by decide +kernel
theorem dL_law_949 : decode cL_law 949 = .ok (.invokevirtual 122, 3) := by decide +kernel
theorem dL_law_952 : decode cL_law 952 = .ok (.aload_n 2, 1) := by decide +kernel
theorem dL_law_953 : decode cL_law 953 = .ok (.invokevirtual 126, 3) := by decide +kernel
theorem dL_law_956 : decode cL_law 956 = .ok (.lcmp, 1) := by decide +kernel
theorem dL_law_957 : decode cL_law 957 = .ok (.ifCond .eq 5, 3) := by decide +kernel
theorem dL_law_960 : decode cL_law 960 = .ok (.iconst 0, 1) := by decide +kernel
theorem dL_law_961 : decode cL_law 961 = .ok (.ireturn, 1) := by decide +kernel
theorem dL_law_962 : decode cL_law 962 = .ok (.iinc 3 5, 3) := by decide +kernel
theorem dL_law_965 : decode cL_law 965 = .ok (.goto (-947), 3) := by decide +kernel
theorem dL_law_968 : decode cL_law 968 = .ok (.iconst 1, 1) := by decide +kernel
theorem dL_law_969 : decode cL_law 969 = .ok (.ireturn, 1) := by decide +kernel
end
section
/-! PURE WORLDS. A heap is a function from addresses to cells (HP); every cell that the law's run makes lies at eB E or above; what lies below is never written. PW: from here the method comes to its end. PM: a method's contract. -/
abbrev PE : Type := (Nat × vp_A) ⊕ (Nat × List Value)
abbrev HP : Type := Nat → Option PE
abbrev EV : Type := Launch × Nat × va_G × (Nat → ClassId) × (Nat → Nat)
abbrev eL (E : EV) : Launch := E.1
abbrev eB (E : EV) : Nat := E.2.1
abbrev eD (E : EV) : va_G := E.2.2.1
abbrev eK (E : EV) : Nat → ClassId := E.2.2.2.1
abbrev eX (E : EV) : Nat → Nat := E.2.2.2.2
abbrev vwCl : List vw_C := [(RX0, TX0, 2), (RX1, TX1, 2), (RX2, TX2, 4), (RX3, TX3, 2), (RX4, TX4, 5), (RX5, TX5, 4), (RX6, TX6, 2), (RX7, TX7, 12), (RX8, TX8, 24)]
def cvE (cK : Nat → ClassId) : PE → va_E
  | .inl a => .inl (cK a.1, a.2)
  | .inr o => .inr o
def pws (E : EV) (h : HP) (n : Nat) : va_W := (List.range (n - eB E)).map fun i => (eB E + i, cvE (eK E) ((h (eB E + i)).getD (.inr (0, []))))
abbrev pty (E : EV) : List (ClassId × FieldType) := [(eK E 0, .int), (eK E 1, .long), (eK E 2, .boolean), (eK E 3, .object RX3)]
abbrev pA (E : EV) : Nat → Prop := fun q => eB E ≤ q
def pR (E : EV) (h : HP) (n : Nat) (H : Heap) : Prop := H.size = n ∧ eB E ≤ n ∧ (∀ a, (∃ e, h a = some e) ↔ eB E ≤ a ∧ a < n) ∧ va_P (eD E) vwCl (pws E h n) H
def isNest : Cond → Bool
  | .methodLinkNest _ _ _ _ => true
  | .fieldLinkNest _ _ _ _ _ _ => true
  | _ => false
def tbl : List Cond := lw_tbl.filter goodWord
def nst : List Cond := lw_tbl.filter isNest
def fAT : Nat → Int32 := fun j => ([12, 1, 0, 50, 80] : List Int32).getD j 0
def fLE : Nat → Int32 := fun j => ([2, 0, 0, 0, 0] : List Int32).getD j 0
def fMO : Nat → Int32 := fun j => ([12, 6, 99, 99, 99] : List Int32).getD j 0
def kLen : List Nat := [4, 3, 4, 4, 5]
def kByt : List (List Int32) := [[104, 111, 108, 100], [102, 97, 114], [119, 101, 97, 107], [116, 97, 107, 101], [115, 116, 97, 110, 100]]
/-- what the tables say, of any state that is as warm -/
def pK (E : EV) (U : State) : Prop := va_K (eD E) vwCl (pty E) U ∧ (∀ w ∈ nst, va_Nw w U) ∧ va_AO RX3 U ∧ va_Nw (.castable "[I" "java/lang/Cloneable") U ∧ vk_R RX1 76 "hold" (eX E 10) U ∧ vk_R RX1 78 "far" (eX E 11) U ∧ vk_R RX1 80 "weak" (eX E 12) U ∧ vk_R RX1 82 "take" (eX E 13) U ∧ vk_R RX1 84 "stand" (eX E 14) U
/-- what lies below eB E and is read -/
def pF (E : EV) (U : State) (H : Heap) : Prop :=
  (va_Z RX7 "AT_FIRST" "[I" (.ref (eX E 0)) (pA E) U H ∧ va_X (eX E 0) 5 fAT U H ∧ ¬ pA E (eX E 0)) ∧
  (va_Z RX7 "LEAST" "[I" (.ref (eX E 1)) (pA E) U H ∧ va_X (eX E 1) 5 fLE U H ∧ ¬ pA E (eX E 1)) ∧
  (va_Z RX7 "MOST" "[I" (.ref (eX E 2)) (pA E) U H ∧ va_X (eX E 2) 5 fMO U H ∧ ¬ pA E (eX E 2)) ∧
  va_Z RJ0 "COMPACT_STRINGS" "Z" (.int 1) (pA E) U H ∧ vk_S 5 kLen kByt (fun i => eX E (10 + i)) (fun i => eX E (20 + i)) (pA E) U H ∧ eB E ≤ H.size
theorem va_X_lt {b L : Nat} {xs : Nat → Int32} {U : State} {H : Heap} (h : va_X b L xs U H) : b < H.size := by
  obtain ⟨scr, h1, -⟩ := h
  exact (Array.getElem?_eq_some_iff.mp h1).1
theorem pF.kept {E : EV} {U : State} {H H1 : Heap} (h : pF E U H) (hz : H.size ≤ H1.size) (hq : ∀ a : Nat, a < H.size → ¬ pA E a → H1[a]? = H[a]?) : pF E U H1 := by
  obtain ⟨⟨a1, a2, a3⟩, ⟨b1, b2, b3⟩, ⟨c1, c2, c3⟩, d, k, z⟩ := h
  exact ⟨⟨a1.kept hq, a2.kept (hq _ (va_X_lt a2) a3), a3⟩, ⟨b1.kept hq, b2.kept (hq _ (va_X_lt b2) b3), b3⟩, ⟨c1.kept hq, c2.kept (hq _ (va_X_lt c2) c3), c3⟩, d.kept hq, k.kept hq, Nat.le_trans z hz⟩
theorem pF.moved {E : EV} {u U : State} {H : Heap} (hvm : u.vm.Alike U.vm) (h : pF E u H) : pF E U H := by
  obtain ⟨⟨a1, a2, a3⟩, ⟨b1, b2, b3⟩, ⟨c1, c2, c3⟩, d, k, z⟩ := h
  exact ⟨⟨va_Z.moved hvm a1, a2.moved hvm, a3⟩, ⟨va_Z.moved hvm b1, b2.moved hvm, b3⟩, ⟨va_Z.moved hvm c1, c2.moved hvm, c3⟩, va_Z.moved hvm d, vk_S.moved hvm k, z⟩
theorem nst_warm {w : Cond} (hw : w ∈ nst) {s U : State} (hW : s.WarmedH U.vm) (h : va_Nw w s) : va_Nw w U := by
  have h2 := (List.mem_filter.mp hw).2
  cases w <;> first | exact va_Nw.warmM hW h | exact va_Nw.warmF hW h | (simp [isNest] at h2)
theorem pK.warm {E : EV} {s U : State} (hW : s.WarmedH U.vm) (h : pK E s) : pK E U := by
  obtain ⟨a, b, c, d, e1, e2, e3, e4, e5⟩ := h
  exact ⟨va_K.moved hW.alike a, fun w hw => nst_warm hw hW (b w hw), va_AO.moved hW.alike c, va_Nw.warmC hW d, e1.warm hW, e2.warm hW, e3.warm hW, e4.warm hW, e5.warm hW⟩
theorem pK.same {E : EV} {s U : State} (hv : s.vm = U.vm) (h : pK E s) : pK E U := by
  obtain ⟨a, b, c, d, e1, e2, e3, e4, e5⟩ := h
  have hal : s.vm.Alike U.vm := hv ▸ Vm.Alike.refl s.vm
  refine ⟨va_K.moved hal a, fun w hw => ?_, va_AO.moved hal c, va_Nw.same rfl hv d, e1.same hv.symm, e2.same hv.symm, e3.same hv.symm, e4.same hv.symm, e5.same hv.symm⟩
  have h2 := (List.mem_filter.mp hw).2
  cases w <;> first | exact va_Nw.same rfl hv (b _ hw) | (simp [isNest] at h2)
-- ---- methods
abbrev MR : Type := MethodName × ByteArray × Nat × Option FieldType × Nat × Nat
abbrev mY (M : MR) : MethodName := M.1
abbrev mC (M : MR) : ByteArray := M.2.1
abbrev mL (M : MR) : Nat := M.2.2.1
abbrev mT (M : MR) : Option FieldType := M.2.2.2.1
abbrev mFr (M : MR) : Nat := M.2.2.2.2.1
abbrev mLo (M : MR) : Nat := M.2.2.2.2.2
def mW (M : MR) : List Cond := .code (mY M) (mC M) (mL M) (mT M) :: tbl
def pPc (E : EV) (h : HP) (n : Nat) : State → Prop := fun U => pK E U ∧ pF E U U.heap ∧ pR E h n U.heap
def pQc (E : EV) (n' : Nat) (Q : Option Value → HP → Prop) : Array Value → State → Outcome → State → Prop := fun _ st o t => (∃ (v : Option Value) (h' : HP), o = .returned v ∧ Q v h' ∧ pR E h' n' t.heap) ∧ va_F (pA E) st t
def PM (E : EV) (M : MR) (args : List Value) (h : HP) (n n' ms : Nat) (Q : Option Value → HP → Prop) : Prop := n ≤ n' → Met (eL E) (mY M) (mW M) ({ frames := mFr M, cells := n' - n, slots := ms, locals := mLo M }) (va_Pc args (pPc E h n)) (pQc E n' Q) (n' - n) ms (pA E)
def pL (lsA : Array Slot) (nL : Nat) (ls : List Value) : Prop := lsA.size = nL ∧ lv_wf lsA ∧ ∀ (i : Nat) (v : Value), ls[i]? = some v → v ≠ .null → lsA[i]? = some (.val v)
def pCX (E : EV) (M : MR) (p : Program) (s : State) (m : MethodId) (args : Array Value) (meth : Method) (c : Code) : Prop :=
  p.tables.exec = Jvm.exec ∧ c.code = mC M ∧ meth.sig.returnType = mT M ∧ c.maxLocals = mL M ∧ s.vm.findClass (mY M).cls = some m.cls ∧ meth.locks = false ∧ meth.name = (mY M).name ∧ (∀ w ∈ tbl, w.before args s = true) ∧ pK E s ∧ pF E s s.heap
abbrev MX : Type := EV × MR × (Array Value → State → Prop) × (List Frame → Array Value → State → Nat → Nat → State → Prop) × Nat
def PW (K : MX) (pc : Nat) (ls st : List Value) (h : HP) (n ms : Nat) : Prop :=
  ∀ (p : Program) (e : Env) (s : State) (m : MethodId) (args : Array Value) (below : List Frame) (meth : Method) (c : Code), pCX K.1 K.2.1 p s m args meth c → K.2.2.1 args s →
  ∀ (R : Room), R.frames = mFr K.2.1 → R.locals = mLo K.2.1 → ∀ (H : Heap) (locs : List Loc) (lsA : Array Slot) (cells slots : Nat), va_S (pA K.1) s.heap H locs → pR K.1 h n H → pL lsA (mL K.2.1) ls → (n = s.heap.size + cells ∧ n ≤ K.2.2.2.2 ∧ cells + (K.2.2.2.2 - n) = R.cells ∧ slots + ms = R.slots) →
  W p (eL K.1) e R s m args below meth c H locs cells slots (K.2.2.2.1 below args s R.cells R.slots) (F0 m pc lsA st)
section PWR
variable {K : MX} {pc : Nat} {ls st : List Value} {h : HP} {n ms : Nat}

theorem pw_iadd {x y : Int32} (d : decode (mC K.2.1) pc = .ok (.iadd, 1)) (k : PW K (pc + 1) ls (.int (x + y) :: st) h n ms) : PW K pc ls (.int y :: .int x :: st) h n ms := by
  intro p e s m args below meth c X Y R r1 r2 H locs lsA cells slots hS hR hL hn
  exact lv_iadd X.1 X.2.1 d (k p e s m args below meth c X Y R r1 r2 H locs lsA cells slots hS hR hL hn)
theorem pw_isub {x y : Int32} (d : decode (mC K.2.1) pc = .ok (.isub, 1)) (k : PW K (pc + 1) ls (.int (x - y) :: st) h n ms) : PW K pc ls (.int y :: .int x :: st) h n ms := by
  intro p e s m args below meth c X Y R r1 r2 H locs lsA cells slots hS hR hL hn
  exact lv_isub X.1 X.2.1 d (k p e s m args below meth c X Y R r1 r2 H locs lsA cells slots hS hR hL hn)
theorem pw_imul {x y : Int32} (d : decode (mC K.2.1) pc = .ok (.imul, 1)) (k : PW K (pc + 1) ls (.int (x * y) :: st) h n ms) : PW K pc ls (.int y :: .int x :: st) h n ms := by
  intro p e s m args below meth c X Y R r1 r2 H locs lsA cells slots hS hR hL hn
  exact lv_imul X.1 X.2.1 d (k p e s m args below meth c X Y R r1 r2 H locs lsA cells slots hS hR hL hn)
theorem pw_iand {x y : Int32} (d : decode (mC K.2.1) pc = .ok (.iand, 1)) (k : PW K (pc + 1) ls (.int (x &&& y) :: st) h n ms) : PW K pc ls (.int y :: .int x :: st) h n ms := by
  intro p e s m args below meth c X Y R r1 r2 H locs lsA cells slots hS hR hL hn
  exact lv_iand X.1 X.2.1 d (k p e s m args below meth c X Y R r1 r2 H locs lsA cells slots hS hR hL hn)
theorem pw_ior {x y : Int32} (d : decode (mC K.2.1) pc = .ok (.ior, 1)) (k : PW K (pc + 1) ls (.int (x ||| y) :: st) h n ms) : PW K pc ls (.int y :: .int x :: st) h n ms := by
  intro p e s m args below meth c X Y R r1 r2 H locs lsA cells slots hS hR hL hn
  exact lv_ior X.1 X.2.1 d (k p e s m args below meth c X Y R r1 r2 H locs lsA cells slots hS hR hL hn)
theorem pw_ixor {x y : Int32} (d : decode (mC K.2.1) pc = .ok (.ixor, 1)) (k : PW K (pc + 1) ls (.int (x ^^^ y) :: st) h n ms) : PW K pc ls (.int y :: .int x :: st) h n ms := by
  intro p e s m args below meth c X Y R r1 r2 H locs lsA cells slots hS hR hL hn
  exact lv_ixor X.1 X.2.1 d (k p e s m args below meth c X Y R r1 r2 H locs lsA cells slots hS hR hL hn)
theorem pw_ishl {x y : Int32} (d : decode (mC K.2.1) pc = .ok (.ishl, 1)) (k : PW K (pc + 1) ls (.int (x <<< (y &&& 31)) :: st) h n ms) : PW K pc ls (.int y :: .int x :: st) h n ms := by
  intro p e s m args below meth c X Y R r1 r2 H locs lsA cells slots hS hR hL hn
  exact lv_ishl X.1 X.2.1 d (k p e s m args below meth c X Y R r1 r2 H locs lsA cells slots hS hR hL hn)
theorem pw_ishr {x y : Int32} (d : decode (mC K.2.1) pc = .ok (.ishr, 1)) (k : PW K (pc + 1) ls (.int (x >>> (y &&& 31)) :: st) h n ms) : PW K pc ls (.int y :: .int x :: st) h n ms := by
  intro p e s m args below meth c X Y R r1 r2 H locs lsA cells slots hS hR hL hn
  exact lv_ishr X.1 X.2.1 d (k p e s m args below meth c X Y R r1 r2 H locs lsA cells slots hS hR hL hn)
theorem pw_idiv {x y : Int32} (d : decode (mC K.2.1) pc = .ok (.idiv, 1)) (hne : ¬ y = 0) (k : PW K (pc + 1) ls (.int (x / y) :: st) h n ms) : PW K pc ls (.int y :: .int x :: st) h n ms := by
  intro p e s m args below meth c X Y R r1 r2 H locs lsA cells slots hS hR hL hn
  exact lv_idiv X.1 X.2.1 d hne (k p e s m args below meth c X Y R r1 r2 H locs lsA cells slots hS hR hL hn)
theorem pw_iushr {x y : Int32} (d : decode (mC K.2.1) pc = .ok (.iushr, 1)) (k : PW K (pc + 1) ls (.int ((x.toUInt32 >>> (y.toUInt32 &&& Int32.toUInt32 31)).toInt32) :: st) h n ms) : PW K pc ls (.int y :: .int x :: st) h n ms := by
  intro p e s m args below meth c X Y R r1 r2 H locs lsA cells slots hS hR hL hn
  exact lv_iushr X.1 X.2.1 d rfl (k p e s m args below meth c X Y R r1 r2 H locs lsA cells slots hS hR hL hn)
theorem pw_ladd {x y : Int64} (d : decode (mC K.2.1) pc = .ok (.ladd, 1)) (k : PW K (pc + 1) ls (.long (x + y) :: st) h n ms) : PW K pc ls (.long y :: .long x :: st) h n ms := by
  intro p e s m args below meth c X Y R r1 r2 H locs lsA cells slots hS hR hL hn
  exact lv_ladd X.1 X.2.1 d (k p e s m args below meth c X Y R r1 r2 H locs lsA cells slots hS hR hL hn)
theorem pw_lmul {x y : Int64} (d : decode (mC K.2.1) pc = .ok (.lmul, 1)) (k : PW K (pc + 1) ls (.long (x * y) :: st) h n ms) : PW K pc ls (.long y :: .long x :: st) h n ms := by
  intro p e s m args below meth c X Y R r1 r2 H locs lsA cells slots hS hR hL hn
  exact lv_lmul X.1 X.2.1 d (k p e s m args below meth c X Y R r1 r2 H locs lsA cells slots hS hR hL hn)
theorem pw_land {x y : Int64} (d : decode (mC K.2.1) pc = .ok (.land, 1)) (k : PW K (pc + 1) ls (.long (x &&& y) :: st) h n ms) : PW K pc ls (.long y :: .long x :: st) h n ms := by
  intro p e s m args below meth c X Y R r1 r2 H locs lsA cells slots hS hR hL hn
  exact lv_land X.1 X.2.1 d (k p e s m args below meth c X Y R r1 r2 H locs lsA cells slots hS hR hL hn)
theorem pw_lor {x y : Int64} (d : decode (mC K.2.1) pc = .ok (.lor, 1)) (k : PW K (pc + 1) ls (.long (x ||| y) :: st) h n ms) : PW K pc ls (.long y :: .long x :: st) h n ms := by
  intro p e s m args below meth c X Y R r1 r2 H locs lsA cells slots hS hR hL hn
  exact lv_lor X.1 X.2.1 d (k p e s m args below meth c X Y R r1 r2 H locs lsA cells slots hS hR hL hn)
theorem pw_lushr {x : Int64} {y : Int32} (d : decode (mC K.2.1) pc = .ok (.lushr, 1)) (k : PW K (pc + 1) ls (.long ((x.toUInt64 >>> (y.toInt64.toUInt64 &&& Int64.toUInt64 63)).toInt64) :: st) h n ms) : PW K pc ls (.int y :: .long x :: st) h n ms := by
  intro p e s m args below meth c X Y R r1 r2 H locs lsA cells slots hS hR hL hn
  exact lv_lushr X.1 X.2.1 d rfl (k p e s m args below meth c X Y R r1 r2 H locs lsA cells slots hS hR hL hn)
theorem pw_lshl {x : Int64} {y : Int32} (d : decode (mC K.2.1) pc = .ok (.lshl, 1)) (k : PW K (pc + 1) ls (.long (x <<< (y.toInt64 &&& 63)) :: st) h n ms) : PW K pc ls (.int y :: .long x :: st) h n ms := by
  intro p e s m args below meth c X Y R r1 r2 H locs lsA cells slots hS hR hL hn
  exact lv_lshl X.1 X.2.1 d rfl (k p e s m args below meth c X Y R r1 r2 H locs lsA cells slots hS hR hL hn)
theorem pw_lshr {x : Int64} {y : Int32} (d : decode (mC K.2.1) pc = .ok (.lshr, 1)) (k : PW K (pc + 1) ls (.long (x >>> (y.toInt64 &&& 63)) :: st) h n ms) : PW K pc ls (.int y :: .long x :: st) h n ms := by
  intro p e s m args below meth c X Y R r1 r2 H locs lsA cells slots hS hR hL hn
  exact lv_lshr X.1 X.2.1 d rfl (k p e s m args below meth c X Y R r1 r2 H locs lsA cells slots hS hR hL hn)
theorem pw_i2l {x : Int32} (d : decode (mC K.2.1) pc = .ok (.i2l, 1)) (k : PW K (pc + 1) ls (.long x.toInt64 :: st) h n ms) : PW K pc ls (.int x :: st) h n ms := by
  intro p e s m args below meth c X Y R r1 r2 H locs lsA cells slots hS hR hL hn
  exact lv_i2l X.1 X.2.1 d rfl (k p e s m args below meth c X Y R r1 r2 H locs lsA cells slots hS hR hL hn)
theorem pw_l2i {x : Int64} (d : decode (mC K.2.1) pc = .ok (.l2i, 1)) (k : PW K (pc + 1) ls (.int x.toInt32 :: st) h n ms) : PW K pc ls (.long x :: st) h n ms := by
  intro p e s m args below meth c X Y R r1 r2 H locs lsA cells slots hS hR hL hn
  exact lv_l2i X.1 X.2.1 d rfl (k p e s m args below meth c X Y R r1 r2 H locs lsA cells slots hS hR hL hn)
theorem pw_i2c {x : Int32} (d : decode (mC K.2.1) pc = .ok (.i2c, 1)) (k : PW K (pc + 1) ls (.int (x.toUInt32 % 65536).toInt32 :: st) h n ms) : PW K pc ls (.int x :: st) h n ms := by
  intro p e s m args below meth c X Y R r1 r2 H locs lsA cells slots hS hR hL hn
  exact lv_i2c X.1 X.2.1 d rfl (k p e s m args below meth c X Y R r1 r2 H locs lsA cells slots hS hR hL hn)
theorem pw_lcmp {x y : Int64} (d : decode (mC K.2.1) pc = .ok (.lcmp, 1)) (k : PW K (pc + 1) ls (.int (lg_cmp x y) :: st) h n ms) : PW K pc ls (.long y :: .long x :: st) h n ms := by
  intro p e s m args below meth c X Y R r1 r2 H locs lsA cells slots hS hR hL hn
  exact W.lcmp X.1 X.2.1 d (k p e s m args below meth c X Y R r1 r2 H locs lsA cells slots hS hR hL hn)
theorem pw_iconst {i : Int} (v : Int32) (d : decode (mC K.2.1) pc = .ok (.iconst i, 1)) (hv : Int32.ofInt i = v) (k : PW K (pc + 1) ls (.int v :: st) h n ms) : PW K pc ls (st) h n ms := by
  intro p e s m args below meth c X Y R r1 r2 H locs lsA cells slots hS hR hL hn
  exact lv_iconst X.1 X.2.1 d hv (k p e s m args below meth c X Y R r1 r2 H locs lsA cells slots hS hR hL hn)
theorem pw_bipush {i : Int} (v : Int32) (d : decode (mC K.2.1) pc = .ok (.bipush i, 2)) (hv : (Int8.ofInt i).toInt32 = v) (k : PW K (pc + 2) ls (.int v :: st) h n ms) : PW K pc ls (st) h n ms := by
  intro p e s m args below meth c X Y R r1 r2 H locs lsA cells slots hS hR hL hn
  exact lv_bipush X.1 X.2.1 d hv (k p e s m args below meth c X Y R r1 r2 H locs lsA cells slots hS hR hL hn)
theorem pw_sipush {i : Int} (v : Int32) (d : decode (mC K.2.1) pc = .ok (.sipush i, 3)) (hv : (Int16.ofInt i).toInt32 = v) (k : PW K (pc + 3) ls (.int v :: st) h n ms) : PW K pc ls (st) h n ms := by
  intro p e s m args below meth c X Y R r1 r2 H locs lsA cells slots hS hR hL hn
  exact lv_sipush X.1 X.2.1 d hv (k p e s m args below meth c X Y R r1 r2 H locs lsA cells slots hS hR hL hn)
theorem pw_lconst {i : Fin 2} (v : Int64) (d : decode (mC K.2.1) pc = .ok (.lconst i, 1)) (hv : Int64.ofNat (i : Nat) = v) (k : PW K (pc + 1) ls (.long v :: st) h n ms) : PW K pc ls (st) h n ms := by
  intro p e s m args below meth c X Y R r1 r2 H locs lsA cells slots hS hR hL hn
  exact lv_lconst X.1 X.2.1 d hv (k p e s m args below meth c X Y R r1 r2 H locs lsA cells slots hS hR hL hn)
theorem pw_dup {v : Value} (d : decode (mC K.2.1) pc = .ok (.dup, 1)) (hv : v.category = 1) (k : PW K (pc + 1) ls (v :: v :: st) h n ms) : PW K pc ls (v :: st) h n ms := by
  intro p e s m args below meth c X Y R r1 r2 H locs lsA cells slots hS hR hL hn
  exact lv_dup X.1 X.2.1 d hv (k p e s m args below meth c X Y R r1 r2 H locs lsA cells slots hS hR hL hn)
theorem pw_pop {v : Value} (d : decode (mC K.2.1) pc = .ok (.pop, 1)) (hv : v.category = 1) (k : PW K (pc + 1) ls (st) h n ms) : PW K pc ls (v :: st) h n ms := by
  intro p e s m args below meth c X Y R r1 r2 H locs lsA cells slots hS hR hL hn
  exact lv_pop X.1 X.2.1 d hv (k p e s m args below meth c X Y R r1 r2 H locs lsA cells slots hS hR hL hn)
theorem pw_dup2 {v u : Value} (d : decode (mC K.2.1) pc = .ok (.dup2, 1)) (hv : v.category = 1) (hu : u.category = 1) (k : PW K (pc + 1) ls (v :: u :: v :: u :: st) h n ms) : PW K pc ls (v :: u :: st) h n ms := by
  intro p e s m args below meth c X Y R r1 r2 H locs lsA cells slots hS hR hL hn
  exact lv_dup2_11 X.1 X.2.1 d hv hu (k p e s m args below meth c X Y R r1 r2 H locs lsA cells slots hS hR hL hn)
theorem pw_iload_n {i : Fin 4} {x : Int32} (d : decode (mC K.2.1) pc = .ok (.iload_n i, 1)) (hl : ls[(i : Nat)]? = some (.int x)) (k : PW K (pc + 1) ls (.int x :: st) h n ms) : PW K pc ls (st) h n ms := by
  intro p e s m args below meth c X Y R r1 r2 H locs lsA cells slots hS hR hL hn
  exact lv_iload_n X.1 X.2.1 d rfl (hL.2.2 _ _ hl (fun q => by cases q)) (k p e s m args below meth c X Y R r1 r2 H locs lsA cells slots hS hR hL hn)
theorem pw_iload {i : Nat} {x : Int32} (d : decode (mC K.2.1) pc = .ok (.iload i, 2)) (hl : ls[i]? = some (.int x)) (k : PW K (pc + 2) ls (.int x :: st) h n ms) : PW K pc ls (st) h n ms := by
  intro p e s m args below meth c X Y R r1 r2 H locs lsA cells slots hS hR hL hn
  exact lv_iload X.1 X.2.1 d (hL.2.2 _ _ hl (fun q => by cases q)) (k p e s m args below meth c X Y R r1 r2 H locs lsA cells slots hS hR hL hn)
theorem pw_lload_n {i : Fin 4} {x : Int64} (d : decode (mC K.2.1) pc = .ok (.lload_n i, 1)) (hl : ls[(i : Nat)]? = some (.long x)) (k : PW K (pc + 1) ls (.long x :: st) h n ms) : PW K pc ls (st) h n ms := by
  intro p e s m args below meth c X Y R r1 r2 H locs lsA cells slots hS hR hL hn
  exact lv_lload_n X.1 X.2.1 d rfl (hL.2.2 _ _ hl (fun q => by cases q)) (k p e s m args below meth c X Y R r1 r2 H locs lsA cells slots hS hR hL hn)
theorem pw_lload {i : Nat} {x : Int64} (d : decode (mC K.2.1) pc = .ok (.lload i, 2)) (hl : ls[i]? = some (.long x)) (k : PW K (pc + 2) ls (.long x :: st) h n ms) : PW K pc ls (st) h n ms := by
  intro p e s m args below meth c X Y R r1 r2 H locs lsA cells slots hS hR hL hn
  exact lv_lload X.1 X.2.1 d (hL.2.2 _ _ hl (fun q => by cases q)) (k p e s m args below meth c X Y R r1 r2 H locs lsA cells slots hS hR hL hn)
theorem pw_aload_n {i : Fin 4} {x : Nat} (d : decode (mC K.2.1) pc = .ok (.aload_n i, 1)) (hl : ls[(i : Nat)]? = some (.ref x)) (k : PW K (pc + 1) ls (.ref x :: st) h n ms) : PW K pc ls (st) h n ms := by
  intro p e s m args below meth c X Y R r1 r2 H locs lsA cells slots hS hR hL hn
  exact lv_aload_n X.1 X.2.1 d rfl (hL.2.2 _ _ hl (fun q => by cases q)) (k p e s m args below meth c X Y R r1 r2 H locs lsA cells slots hS hR hL hn)
theorem pw_aload {i : Nat} {x : Nat} (d : decode (mC K.2.1) pc = .ok (.aload i, 2)) (hl : ls[i]? = some (.ref x)) (k : PW K (pc + 2) ls (.ref x :: st) h n ms) : PW K pc ls (st) h n ms := by
  intro p e s m args below meth c X Y R r1 r2 H locs lsA cells slots hS hR hL hn
  exact lv_aload X.1 X.2.1 d (hL.2.2 _ _ hl (fun q => by cases q)) (k p e s m args below meth c X Y R r1 r2 H locs lsA cells slots hS hR hL hn)
theorem pw_ldc {i : Nat} (v : Int32) (d : decode (mC K.2.1) pc = .ok (.ldc i, 2)) (hc : Cond.constant (mY K.2.1).cls i v ∈ tbl) (k : PW K (pc + 2) ls (.int v :: st) h n ms) : PW K pc ls (st) h n ms := by
  intro p e s m args below meth c X Y R r1 r2 H locs lsA cells slots hS hR hL hn
  exact lv_ldc X.1 X.2.1 X.2.2.2.2.1 (X.2.2.2.2.2.2.2.1 _ hc) d (k p e s m args below meth c X Y R r1 r2 H locs lsA cells slots hS hR hL hn)
theorem pw_ldcw {i : Nat} (v : Int32) (d : decode (mC K.2.1) pc = .ok (.ldc_w i, 3)) (hc : Cond.constant (mY K.2.1).cls i v ∈ tbl) (k : PW K (pc + 3) ls (.int v :: st) h n ms) : PW K pc ls (st) h n ms := by
  intro p e s m args below meth c X Y R r1 r2 H locs lsA cells slots hS hR hL hn
  exact lv_ldcw X.1 X.2.1 X.2.2.2.2.1 (X.2.2.2.2.2.2.2.1 _ hc) d (k p e s m args below meth c X Y R r1 r2 H locs lsA cells slots hS hR hL hn)
theorem pw_ldc2 {i : Nat} (v : Int64) (d : decode (mC K.2.1) pc = .ok (.ldc2_w i, 3)) (hc : Cond.constantLong (mY K.2.1).cls i v ∈ tbl) (k : PW K (pc + 3) ls (.long v :: st) h n ms) : PW K pc ls (st) h n ms := by
  intro p e s m args below meth c X Y R r1 r2 H locs lsA cells slots hS hR hL hn
  exact lv_ldc2 X.1 X.2.1 X.2.2.2.2.1 (X.2.2.2.2.2.2.2.1 _ hc) d (k p e s m args below meth c X Y R r1 r2 H locs lsA cells slots hS hR hL hn)
theorem pw_if_eq {x : Int32} {off : Int} (tgt : Nat) (d : decode (mC K.2.1) pc = .ok (.ifCond .eq off, 3)) (ht : (pc : Int) + off = (tgt : Int)) (kt : x = 0 → PW K tgt ls st h n ms) (kf : ¬ (x = 0) → PW K (pc + 3) ls st h n ms) : PW K pc ls (.int x :: st) h n ms := by
  intro p e s m args below meth c X Y R r1 r2 H locs lsA cells slots hS hR hL hn
  refine lv_if_eq X.1 X.2.1 d ht (fun q => kt q p e s m args below meth c X Y R r1 r2 H locs lsA cells slots hS hR hL hn) (fun q => kf q p e s m args below meth c X Y R r1 r2 H locs lsA cells slots hS hR hL hn)
theorem pw_icmp_eq {x y : Int32} {off : Int} (tgt : Nat) (d : decode (mC K.2.1) pc = .ok (.if_icmp .eq off, 3)) (ht : (pc : Int) + off = (tgt : Int)) (kt : x = y → PW K tgt ls st h n ms) (kf : ¬ (x = y) → PW K (pc + 3) ls st h n ms) : PW K pc ls (.int y :: .int x :: st) h n ms := by
  intro p e s m args below meth c X Y R r1 r2 H locs lsA cells slots hS hR hL hn
  refine lv_icmp_eq X.1 X.2.1 d ht (fun q => kt q p e s m args below meth c X Y R r1 r2 H locs lsA cells slots hS hR hL hn) (fun q => kf q p e s m args below meth c X Y R r1 r2 H locs lsA cells slots hS hR hL hn)
theorem pw_if_ne {x : Int32} {off : Int} (tgt : Nat) (d : decode (mC K.2.1) pc = .ok (.ifCond .ne off, 3)) (ht : (pc : Int) + off = (tgt : Int)) (kt : x ≠ 0 → PW K tgt ls st h n ms) (kf : x = 0 → PW K (pc + 3) ls st h n ms) : PW K pc ls (.int x :: st) h n ms := by
  intro p e s m args below meth c X Y R r1 r2 H locs lsA cells slots hS hR hL hn
  refine lv_if_ne X.1 X.2.1 d ht (fun q => kt (by simpa using q) p e s m args below meth c X Y R r1 r2 H locs lsA cells slots hS hR hL hn) (fun q => kf (by simpa using q) p e s m args below meth c X Y R r1 r2 H locs lsA cells slots hS hR hL hn)
theorem pw_icmp_ne {x y : Int32} {off : Int} (tgt : Nat) (d : decode (mC K.2.1) pc = .ok (.if_icmp .ne off, 3)) (ht : (pc : Int) + off = (tgt : Int)) (kt : x ≠ y → PW K tgt ls st h n ms) (kf : x = y → PW K (pc + 3) ls st h n ms) : PW K pc ls (.int y :: .int x :: st) h n ms := by
  intro p e s m args below meth c X Y R r1 r2 H locs lsA cells slots hS hR hL hn
  refine lv_icmp_ne X.1 X.2.1 d ht (fun q => kt (by simpa using q) p e s m args below meth c X Y R r1 r2 H locs lsA cells slots hS hR hL hn) (fun q => kf (by simpa using q) p e s m args below meth c X Y R r1 r2 H locs lsA cells slots hS hR hL hn)
theorem pw_if_lt {x : Int32} {off : Int} (tgt : Nat) (d : decode (mC K.2.1) pc = .ok (.ifCond .lt off, 3)) (ht : (pc : Int) + off = (tgt : Int)) (kt : x < 0 → PW K tgt ls st h n ms) (kf : ¬ (x < 0) → PW K (pc + 3) ls st h n ms) : PW K pc ls (.int x :: st) h n ms := by
  intro p e s m args below meth c X Y R r1 r2 H locs lsA cells slots hS hR hL hn
  refine lv_if_lt X.1 X.2.1 d ht (fun q => kt q p e s m args below meth c X Y R r1 r2 H locs lsA cells slots hS hR hL hn) (fun q => kf q p e s m args below meth c X Y R r1 r2 H locs lsA cells slots hS hR hL hn)
theorem pw_icmp_lt {x y : Int32} {off : Int} (tgt : Nat) (d : decode (mC K.2.1) pc = .ok (.if_icmp .lt off, 3)) (ht : (pc : Int) + off = (tgt : Int)) (kt : x < y → PW K tgt ls st h n ms) (kf : ¬ (x < y) → PW K (pc + 3) ls st h n ms) : PW K pc ls (.int y :: .int x :: st) h n ms := by
  intro p e s m args below meth c X Y R r1 r2 H locs lsA cells slots hS hR hL hn
  refine lv_icmp_lt X.1 X.2.1 d ht (fun q => kt q p e s m args below meth c X Y R r1 r2 H locs lsA cells slots hS hR hL hn) (fun q => kf q p e s m args below meth c X Y R r1 r2 H locs lsA cells slots hS hR hL hn)
theorem pw_if_ge {x : Int32} {off : Int} (tgt : Nat) (d : decode (mC K.2.1) pc = .ok (.ifCond .ge off, 3)) (ht : (pc : Int) + off = (tgt : Int)) (kt : 0 ≤ x → PW K tgt ls st h n ms) (kf : ¬ (0 ≤ x) → PW K (pc + 3) ls st h n ms) : PW K pc ls (.int x :: st) h n ms := by
  intro p e s m args below meth c X Y R r1 r2 H locs lsA cells slots hS hR hL hn
  refine lv_if_ge X.1 X.2.1 d ht (fun q => kt q p e s m args below meth c X Y R r1 r2 H locs lsA cells slots hS hR hL hn) (fun q => kf q p e s m args below meth c X Y R r1 r2 H locs lsA cells slots hS hR hL hn)
theorem pw_icmp_ge {x y : Int32} {off : Int} (tgt : Nat) (d : decode (mC K.2.1) pc = .ok (.if_icmp .ge off, 3)) (ht : (pc : Int) + off = (tgt : Int)) (kt : y ≤ x → PW K tgt ls st h n ms) (kf : ¬ (y ≤ x) → PW K (pc + 3) ls st h n ms) : PW K pc ls (.int y :: .int x :: st) h n ms := by
  intro p e s m args below meth c X Y R r1 r2 H locs lsA cells slots hS hR hL hn
  refine lv_icmp_ge X.1 X.2.1 d ht (fun q => kt q p e s m args below meth c X Y R r1 r2 H locs lsA cells slots hS hR hL hn) (fun q => kf q p e s m args below meth c X Y R r1 r2 H locs lsA cells slots hS hR hL hn)
theorem pw_if_gt {x : Int32} {off : Int} (tgt : Nat) (d : decode (mC K.2.1) pc = .ok (.ifCond .gt off, 3)) (ht : (pc : Int) + off = (tgt : Int)) (kt : 0 < x → PW K tgt ls st h n ms) (kf : ¬ (0 < x) → PW K (pc + 3) ls st h n ms) : PW K pc ls (.int x :: st) h n ms := by
  intro p e s m args below meth c X Y R r1 r2 H locs lsA cells slots hS hR hL hn
  refine lv_if_gt X.1 X.2.1 d ht (fun q => kt q p e s m args below meth c X Y R r1 r2 H locs lsA cells slots hS hR hL hn) (fun q => kf q p e s m args below meth c X Y R r1 r2 H locs lsA cells slots hS hR hL hn)
theorem pw_icmp_gt {x y : Int32} {off : Int} (tgt : Nat) (d : decode (mC K.2.1) pc = .ok (.if_icmp .gt off, 3)) (ht : (pc : Int) + off = (tgt : Int)) (kt : y < x → PW K tgt ls st h n ms) (kf : ¬ (y < x) → PW K (pc + 3) ls st h n ms) : PW K pc ls (.int y :: .int x :: st) h n ms := by
  intro p e s m args below meth c X Y R r1 r2 H locs lsA cells slots hS hR hL hn
  refine lv_icmp_gt X.1 X.2.1 d ht (fun q => kt q p e s m args below meth c X Y R r1 r2 H locs lsA cells slots hS hR hL hn) (fun q => kf q p e s m args below meth c X Y R r1 r2 H locs lsA cells slots hS hR hL hn)
theorem pw_if_le {x : Int32} {off : Int} (tgt : Nat) (d : decode (mC K.2.1) pc = .ok (.ifCond .le off, 3)) (ht : (pc : Int) + off = (tgt : Int)) (kt : x ≤ 0 → PW K tgt ls st h n ms) (kf : ¬ (x ≤ 0) → PW K (pc + 3) ls st h n ms) : PW K pc ls (.int x :: st) h n ms := by
  intro p e s m args below meth c X Y R r1 r2 H locs lsA cells slots hS hR hL hn
  refine lv_if_le X.1 X.2.1 d ht (fun q => kt q p e s m args below meth c X Y R r1 r2 H locs lsA cells slots hS hR hL hn) (fun q => kf q p e s m args below meth c X Y R r1 r2 H locs lsA cells slots hS hR hL hn)
theorem pw_icmp_le {x y : Int32} {off : Int} (tgt : Nat) (d : decode (mC K.2.1) pc = .ok (.if_icmp .le off, 3)) (ht : (pc : Int) + off = (tgt : Int)) (kt : x ≤ y → PW K tgt ls st h n ms) (kf : ¬ (x ≤ y) → PW K (pc + 3) ls st h n ms) : PW K pc ls (.int y :: .int x :: st) h n ms := by
  intro p e s m args below meth c X Y R r1 r2 H locs lsA cells slots hS hR hL hn
  refine lv_icmp_le X.1 X.2.1 d ht (fun q => kt q p e s m args below meth c X Y R r1 r2 H locs lsA cells slots hS hR hL hn) (fun q => kf q p e s m args below meth c X Y R r1 r2 H locs lsA cells slots hS hR hL hn)
theorem pw_goto {off : Int} (tgt : Nat) (d : decode (mC K.2.1) pc = .ok (.goto off, 3)) (ht : (pc : Int) + off = (tgt : Int)) (k : PW K tgt ls st h n ms) : PW K pc ls st h n ms := by
  intro p e s m args below meth c X Y R r1 r2 H locs lsA cells slots hS hR hL hn
  exact lv_goto X.1 X.2.1 d ht (k p e s m args below meth c X Y R r1 r2 H locs lsA cells slots hS hR hL hn)
theorem pw_tabOut {x : Int32} {dflt lo hi : Int} {offs : Array Int} {len : Nat} (tgt : Nat) (d : decode (mC K.2.1) pc = .ok (.tableswitch dflt lo hi offs, len)) (hx : x.toInt < lo ∨ hi < x.toInt) (ht : (pc : Int) + dflt = (tgt : Int)) (k : PW K tgt ls st h n ms) : PW K pc ls (.int x :: st) h n ms := by
  intro p e s m args below meth c X Y R r1 r2 H locs lsA cells slots hS hR hL hn
  exact lv_tableOut X.1 X.2.1 d hx ht (k p e s m args below meth c X Y R r1 r2 H locs lsA cells slots hS hR hL hn)
theorem pw_tabIn {x : Int32} {dflt lo hi : Int} {offs : Array Int} {len : Nat} {off : Int} (tgt : Nat) (d : decode (mC K.2.1) pc = .ok (.tableswitch dflt lo hi offs, len)) (h1 : ¬ x.toInt < lo) (h2 : ¬ hi < x.toInt) (ho : offs[(x.toInt - lo).toNat]? = some off) (ht : (pc : Int) + off = (tgt : Int)) (k : PW K tgt ls st h n ms) : PW K pc ls (.int x :: st) h n ms := by
  intro p e s m args below meth c X Y R r1 r2 H locs lsA cells slots hS hR hL hn
  exact lv_tableIn X.1 X.2.1 d h1 h2 ho ht (k p e s m args below meth c X Y R r1 r2 H locs lsA cells slots hS hR hL hn)
theorem pw_topi {x : Int32} (y : Int32) (e : x = y) (k : PW K pc ls (.int y :: st) h n ms) : PW K pc ls (.int x :: st) h n ms := e ▸ k
theorem pw_topl {x : Int64} (y : Int64) (e : x = y) (k : PW K pc ls (.long y :: st) h n ms) : PW K pc ls (.long x :: st) h n ms := e ▸ k
theorem pw_heap {h2 : HP} (e : h = h2) (k : PW K pc ls st h2 n ms) : PW K pc ls st h n ms := e ▸ k
theorem pw_ls {l2 : List Value} (e : ls = l2) (k : PW K pc l2 st h n ms) : PW K pc ls st h n ms := e ▸ k
end PWR
end
section
theorem pws_get {E : EV} {h : HP} {n a : Nat} {e : PE} (ha : h a = some e) (h1 : eB E ≤ a) (h2 : a < n) : (pws E h n)[a - eB E]? = some (a, cvE (eK E) e) := by
  have h3 : a - eB E < n - eB E := by omega
  have h4 : eB E + (a - eB E) = a := by omega
  simp [pws, h3, h4, ha]
theorem pR.at {E : EV} {h : HP} {n a : Nat} {e : PE} {H : Heap} (hR : pR E h n H) (ha : h a = some e) : (pws E h n)[a - eB E]? = some (a, cvE (eK E) e) := by
  obtain ⟨h1, h2⟩ := (hR.2.2.1 a).mp ⟨e, ha⟩
  exact pws_get ha h1 h2
theorem pws_set {E : EV} {h : HP} {n a : Nat} {e : PE} (h1 : eB E ≤ a) (h2 : a < n) : (pws E h n).set (a - eB E) (a, cvE (eK E) e) = pws E (va_up h a (some e)) n := by
  apply List.ext_getElem?
  intro i
  by_cases hi : i = a - eB E
  · subst hi
    have h3 : a - eB E < n - eB E := by omega
    have h4 : eB E + (a - eB E) = a := by omega
    rw [List.getElem?_set_self (by simp [pws]; omega)]
    simp [pws, h3, h4, va_up]
  · rw [List.getElem?_set_ne (Ne.symm hi)]
    by_cases h3 : i < n - eB E
    · have h4 : eB E + i ≠ a := by omega
      simp [pws, h3, h4, va_up]
    · have h5 : ¬ i < n - eB E := h3
      simp [pws, h5]
theorem pws_push {E : EV} {h : HP} {n : Nat} {e : PE} (h1 : eB E ≤ n) : pws E h n ++ [(n, cvE (eK E) e)] = pws E (va_up h n (some e)) (n + 1) := by
  have h2 : n + 1 - eB E = (n - eB E) + 1 := by omega
  have h3 : eB E + (n - eB E) = n := by omega
  simp only [pws, h2, List.range_succ, List.map_append, List.map_cons, List.map_nil, h3]
  congr 1
  · apply List.map_congr_left
    intro i hi
    have hi2 := List.mem_range.mp hi
    have h4 : eB E + i ≠ n := by omega
    simp [va_up, h4]
  · simp [va_up]
theorem pws_D {E : EV} {h : HP} {n : Nat} : va_D (pA E) (pws E h n) := by
  refine ⟨fun i j p q hi hj e => ?_, fun k q hk => ?_⟩
  · simp only [pws, List.getElem?_map, Option.map_eq_some_iff] at hi hj
    obtain ⟨i', hi1, rfl⟩ := hi
    obtain ⟨j', hj1, rfl⟩ := hj
    obtain ⟨hi2, hi3⟩ := List.getElem?_eq_some_iff.mp hi1
    obtain ⟨hj2, hj3⟩ := List.getElem?_eq_some_iff.mp hj1
    simp at hi3 hj3 e
    omega
  · simp only [pws, List.getElem?_map, Option.map_eq_some_iff] at hk
    obtain ⟨i', hi1, rfl⟩ := hk
    show eB E ≤ eB E + i'
    omega
/-- the heap's size, out of the count of cells -/
theorem W.sized {p : Program} {l : Launch} {e : Env} {R : Room} {s : State} {m : MethodId} {args : Array Value} {below : List Frame} {meth : Method} {c : Code} {H : Heap} {locs : List Loc} {cells slots : Nat} {Q : State → Prop} {g : JFrame} (k : H.size ≤ s.heap.size + cells → W p l e R s m args below meth c H locs cells slots Q g) : W p l e R s m args below meth c H locs cells slots Q g := by
  intro T hT X
  have h := X.heapSize
  rw [hT] at h
  exact k h T hT X
theorem pR.mk {E : EV} {h : HP} {n : Nat} {A : Nat → Prop} {H0 H : Heap} {locs : List Loc} (hP : va_P (eD E) vwCl (pws E h n) H) (hS : va_S A H0 H locs) (hb : eB E ≤ H0.size) (hu : H.size ≤ n) (hbn : eB E ≤ n) (hdom : ∀ a, (∃ e, h a = some e) ↔ eB E ≤ a ∧ a < n) : pR E h n H := by
  refine ⟨?_, hbn, hdom, hP⟩
  by_cases hc : n = eB E
  · have := hS.1
    omega
  · obtain ⟨e, he⟩ := (hdom (n - 1)).mpr ⟨by omega, by omega⟩
    have h1 := (hP _ _ (pws_get he (by omega) (by omega))).lt
    have h2 : n - 1 < H.size := h1
    omega
theorem dom_up {E : EV} {h : HP} {n a : Nat} {e0 e : PE} (hd : ∀ a, (∃ e, h a = some e) ↔ eB E ≤ a ∧ a < n) (ha : h a = some e0) : ∀ b, (∃ e', va_up h a (some e) b = some e') ↔ eB E ≤ b ∧ b < n := by
  intro b
  by_cases hb : b = a
  · subst hb
    have := (hd b).mp ⟨e0, ha⟩
    simp [va_up, this]
  · simp only [va_up, hb, if_false]
    exact hd b
theorem dom_new {E : EV} {h : HP} {n : Nat} {e : PE} (hbn : eB E ≤ n) (hd : ∀ a, (∃ e, h a = some e) ↔ eB E ≤ a ∧ a < n) : ∀ b, (∃ e', va_up h n (some e) b = some e') ↔ eB E ≤ b ∧ b < n + 1 := by
  intro b
  by_cases hb : b = n
  · subst hb
    simp [va_up]
    omega
  · simp only [va_up, hb, if_false]
    rw [hd b]
    omega
-- ---- locals
def isNl : Value → Bool
  | .null => true
  | _ => false
def lvO (ls : List Value) : List (Nat × Value) := (ls.zipIdx.filter (fun q => !isNl q.1)).map (fun q => (q.2, q.1))
theorem isNl_iff (v : Value) : isNl v = true ↔ v = .null := by cases v <;> simp [isNl]
theorem lvO_mem {ls : List Value} {i : Nat} {v : Value} : (i, v) ∈ lvO ls ↔ ls[i]? = some v ∧ v ≠ .null := by
  simp only [lvO, List.mem_map, List.mem_filter]
  constructor
  · rintro ⟨⟨a, b⟩, ⟨h1, h2⟩, h3⟩
    simp only [Prod.mk.injEq] at h3
    obtain ⟨rfl, rfl⟩ := h3
    refine ⟨List.mem_zipIdx_iff_getElem?.mp h1, fun q => ?_⟩
    subst q
    simp [isNl] at h2
  · rintro ⟨h1, h2⟩
    refine ⟨(v, i), ⟨List.mem_zipIdx_iff_getElem?.mpr h1, ?_⟩, rfl⟩
    cases v <;> simp_all [isNl]
theorem pL.has {lsA : Array Slot} {nL : Nat} {ls : List Value} (h : pL lsA nL ls) : lv_has lsA nL (lvO ls) := ⟨h.1, h.2.1, fun q hq => by
  obtain ⟨i, v⟩ := q
  obtain ⟨h1, h2⟩ := lvO_mem.mp hq
  exact h.2.2 i v h1 h2⟩
theorem pL.set1 {lsA : Array Slot} {nL : Nat} {ls : List Value} {i : Nat} {v : Value} (hp : ∀ j w, j + 1 = i → ls[j]? = some w → w.category = 1) (h : lv_has lsA nL ((i, v) :: (lvO ls).filter (fun q => !(q.1 == i) && !(q.1 + 1 == i && q.2.category == 2)))) : pL lsA nL (ls.set i v) := by
  refine ⟨h.1, h.2.1, fun j w hj hw => ?_⟩
  by_cases hji : j = i
  · subst hji
    have hl : j < ls.length := by
      have := (List.getElem?_eq_some_iff.mp hj).1
      simpa using this
    rw [List.getElem?_set_self hl] at hj
    cases hj
    exact h.2.2 (j, v) List.mem_cons_self
  · rw [List.getElem?_set_ne (Ne.symm hji)] at hj
    refine h.2.2 (j, w) (List.mem_cons_of_mem _ (List.mem_filter.mpr ⟨lvO_mem.mpr ⟨hj, hw⟩, ?_⟩))
    by_cases hc : j + 1 = i
    · have := hp j w hc hj
      simp [hji, this]
    · simp [hji, hc]
theorem pL.set2 {lsA : Array Slot} {nL : Nat} {ls : List Value} {i : Nat} {v : Value} (hp : ∀ j w, j + 1 = i → ls[j]? = some w → w.category = 1) (h : lv_has lsA nL ((i, v) :: (lvO ls).filter (fun q => !(q.1 == i) && (!(q.1 == i + 1) && !(q.1 + 1 == i && q.2.category == 2))))) : pL lsA nL ((ls.set i v).set (i + 1) .null) := by
  refine ⟨h.1, h.2.1, fun j w hj hw => ?_⟩
  by_cases hj1 : j = i + 1
  · subst hj1
    rw [List.getElem?_set] at hj
    split at hj
    · split at hj
      · cases hj; exact absurd rfl hw
      · cases hj
    · rename_i hx; exact absurd rfl hx
  · rw [List.getElem?_set_ne (Ne.symm hj1)] at hj
    by_cases hji : j = i
    · subst hji
      have hl : j < ls.length := by
        have := (List.getElem?_eq_some_iff.mp hj).1
        simpa using this
      rw [List.getElem?_set_self hl] at hj
      cases hj
      exact h.2.2 (j, v) List.mem_cons_self
    · rw [List.getElem?_set_ne (Ne.symm hji)] at hj
      refine h.2.2 (j, w) (List.mem_cons_of_mem _ (List.mem_filter.mpr ⟨lvO_mem.mpr ⟨hj, hw⟩, ?_⟩))
      by_cases hc : j + 1 = i
      · have := hp j w hc hj
        simp [hji, hj1, this]
      · simp [hji, hj1, hc]
theorem hp_of {ls : List Value} {i : Nat} {a : Value} (h : ls[i]? = some a) (hc : a.category = 1) : ∀ j w, j + 1 = i + 1 → ls[j]? = some w → w.category = 1 := by
  intro j w e1 e2
  obtain rfl : j = i := by omega
  cases h.symm.trans e2
  exact hc
section PWH
variable {K : MX} {pc : Nat} {ls st : List Value} {h : HP} {n ms : Nat}

theorem pw_istore_n_g {i : Fin 4} {x : Int32} (d : decode (mC K.2.1) pc = .ok (.istore_n i, 1)) (hi : (i : Nat) < mL K.2.1) (hp : ∀ j w, j + 1 = (i : Nat) → ls[j]? = some w → w.category = 1) (k : PW K (pc + 1) (ls.set (i : Nat) (.int x)) st h n ms) : PW K pc ls (.int x :: st) h n ms := by
  intro p e s m args below meth c X Y R r1 r2 H locs lsA cells slots hS hR hL hn
  exact lv_istore_n X.1 X.2.1 d rfl hL.has hi rfl (fun lsA hL2 => k p e s m args below meth c X Y R r1 r2 H locs lsA cells slots hS hR (pL.set1 hp hL2) hn)
theorem pw_istore_g {i : Nat} {x : Int32} (d : decode (mC K.2.1) pc = .ok (.istore i, 2)) (hi : i < mL K.2.1) (hp : ∀ j w, j + 1 = i → ls[j]? = some w → w.category = 1) (k : PW K (pc + 2) (ls.set i (.int x)) st h n ms) : PW K pc ls (.int x :: st) h n ms := by
  intro p e s m args below meth c X Y R r1 r2 H locs lsA cells slots hS hR hL hn
  exact lv_istore X.1 X.2.1 d hL.has hi rfl (fun lsA hL2 => k p e s m args below meth c X Y R r1 r2 H locs lsA cells slots hS hR (pL.set1 hp hL2) hn)
theorem pw_astore_n_g {i : Fin 4} {x : Nat} (d : decode (mC K.2.1) pc = .ok (.astore_n i, 1)) (hi : (i : Nat) < mL K.2.1) (hp : ∀ j w, j + 1 = (i : Nat) → ls[j]? = some w → w.category = 1) (k : PW K (pc + 1) (ls.set (i : Nat) (.ref x)) st h n ms) : PW K pc ls (.ref x :: st) h n ms := by
  intro p e s m args below meth c X Y R r1 r2 H locs lsA cells slots hS hR hL hn
  exact lv_astore_n X.1 X.2.1 d rfl hL.has hi rfl (fun lsA hL2 => k p e s m args below meth c X Y R r1 r2 H locs lsA cells slots hS hR (pL.set1 hp hL2) hn)
theorem pw_astore_g {i : Nat} {x : Nat} (d : decode (mC K.2.1) pc = .ok (.astore i, 2)) (hi : i < mL K.2.1) (hp : ∀ j w, j + 1 = i → ls[j]? = some w → w.category = 1) (k : PW K (pc + 2) (ls.set i (.ref x)) st h n ms) : PW K pc ls (.ref x :: st) h n ms := by
  intro p e s m args below meth c X Y R r1 r2 H locs lsA cells slots hS hR hL hn
  exact lv_astore X.1 X.2.1 d hL.has hi rfl (fun lsA hL2 => k p e s m args below meth c X Y R r1 r2 H locs lsA cells slots hS hR (pL.set1 hp hL2) hn)
theorem pw_lstore_n_g {i : Fin 4} {x : Int64} (d : decode (mC K.2.1) pc = .ok (.lstore_n i, 1)) (hi : (i : Nat) + 1 < mL K.2.1) (hp : ∀ j w, j + 1 = (i : Nat) → ls[j]? = some w → w.category = 1) (k : PW K (pc + 1) ((ls.set i (.long x)).set (i + 1) .null) st h n ms) : PW K pc ls (.long x :: st) h n ms := by
  intro p e s m args below meth c X Y R r1 r2 H locs lsA cells slots hS hR hL hn
  exact lv_lstore_n X.1 X.2.1 d rfl hL.has hi rfl (fun lsA hL2 => k p e s m args below meth c X Y R r1 r2 H locs lsA cells slots hS hR (pL.set2 hp hL2) hn)
theorem pw_iinc_g {i : Nat} {z : Int} {x : Int32} (v : Int32) (d : decode (mC K.2.1) pc = .ok (.iinc i z, 3)) (hi : i < mL K.2.1) (hx : ls[i]? = some (.int x)) (hv : x + Int32.ofInt z = v) (hp : ∀ j w, j + 1 = i → ls[j]? = some w → w.category = 1) (k : PW K (pc + 3) (ls.set i (.int v)) st h n ms) : PW K pc ls st h n ms := by
  intro p e s m args below meth c X Y R r1 r2 H locs lsA cells slots hS hR hL hn
  obtain ⟨q, hq⟩ := List.getElem?_of_mem (lvO_mem.mpr ⟨hx, fun q => by cases q⟩)
  exact lv_iinc X.1 X.2.1 d hL.has (k := q) hq hv hi rfl (fun lsA hL2 => k p e s m args below meth c X Y R r1 r2 H locs lsA cells slots hS hR (pL.set1 hp hL2) hn)
theorem pw_ist0 {a0 : Value} {r : List Value} {x : Int32} (d : decode (mC K.2.1) pc = .ok (.istore_n 0, 1)) (hi : 0 < mL K.2.1) (k : PW K (pc + 1) (.int x :: r) st h n ms) : PW K pc (a0 :: r) (.int x :: st) h n ms := pw_istore_n_g (ls := a0 :: r) d hi (fun j w e1 e2 => absurd e1 (Nat.succ_ne_zero j)) k
theorem pw_ast0 {a0 : Value} {r : List Value} {x : Nat} (d : decode (mC K.2.1) pc = .ok (.astore_n 0, 1)) (hi : 0 < mL K.2.1) (k : PW K (pc + 1) (.ref x :: r) st h n ms) : PW K pc (a0 :: r) (.ref x :: st) h n ms := pw_astore_n_g (ls := a0 :: r) d hi (fun j w e1 e2 => absurd e1 (Nat.succ_ne_zero j)) k
theorem pw_iinc0 {r : List Value} {x : Int32} {z : Int} (v : Int32) (d : decode (mC K.2.1) pc = .ok (.iinc 0 z, 3)) (hi : 0 < mL K.2.1) (hv : x + Int32.ofInt z = v) (k : PW K (pc + 3) (.int v :: r) st h n ms) : PW K pc (.int x :: r) st h n ms := pw_iinc_g (ls := .int x :: r) v d hi rfl hv (fun j w e1 e2 => absurd e1 (Nat.succ_ne_zero j)) k
theorem pw_ist1 {a0 a1 : Value} {r : List Value} {x : Int32} (d : decode (mC K.2.1) pc = .ok (.istore_n 1, 1)) (hi : 1 < mL K.2.1) (hp : a0.category = 1) (k : PW K (pc + 1) (a0 :: .int x :: r) st h n ms) : PW K pc (a0 :: a1 :: r) (.int x :: st) h n ms := pw_istore_n_g (ls := a0 :: a1 :: r) d hi (hp_of (i := 0) rfl hp) k
theorem pw_ast1 {a0 a1 : Value} {r : List Value} {x : Nat} (d : decode (mC K.2.1) pc = .ok (.astore_n 1, 1)) (hi : 1 < mL K.2.1) (hp : a0.category = 1) (k : PW K (pc + 1) (a0 :: .ref x :: r) st h n ms) : PW K pc (a0 :: a1 :: r) (.ref x :: st) h n ms := pw_astore_n_g (ls := a0 :: a1 :: r) d hi (hp_of (i := 0) rfl hp) k
theorem pw_iinc1 {a0 : Value} {r : List Value} {x : Int32} {z : Int} (v : Int32) (d : decode (mC K.2.1) pc = .ok (.iinc 1 z, 3)) (hi : 1 < mL K.2.1) (hp : a0.category = 1) (hv : x + Int32.ofInt z = v) (k : PW K (pc + 3) (a0 :: .int v :: r) st h n ms) : PW K pc (a0 :: .int x :: r) st h n ms := pw_iinc_g (ls := a0 :: .int x :: r) v d hi rfl hv (hp_of (i := 0) rfl hp) k
theorem pw_ist2 {a0 a1 a2 : Value} {r : List Value} {x : Int32} (d : decode (mC K.2.1) pc = .ok (.istore_n 2, 1)) (hi : 2 < mL K.2.1) (hp : a1.category = 1) (k : PW K (pc + 1) (a0 :: a1 :: .int x :: r) st h n ms) : PW K pc (a0 :: a1 :: a2 :: r) (.int x :: st) h n ms := pw_istore_n_g (ls := a0 :: a1 :: a2 :: r) d hi (hp_of (i := 1) rfl hp) k
theorem pw_ast2 {a0 a1 a2 : Value} {r : List Value} {x : Nat} (d : decode (mC K.2.1) pc = .ok (.astore_n 2, 1)) (hi : 2 < mL K.2.1) (hp : a1.category = 1) (k : PW K (pc + 1) (a0 :: a1 :: .ref x :: r) st h n ms) : PW K pc (a0 :: a1 :: a2 :: r) (.ref x :: st) h n ms := pw_astore_n_g (ls := a0 :: a1 :: a2 :: r) d hi (hp_of (i := 1) rfl hp) k
theorem pw_iinc2 {a0 a1 : Value} {r : List Value} {x : Int32} {z : Int} (v : Int32) (d : decode (mC K.2.1) pc = .ok (.iinc 2 z, 3)) (hi : 2 < mL K.2.1) (hp : a1.category = 1) (hv : x + Int32.ofInt z = v) (k : PW K (pc + 3) (a0 :: a1 :: .int v :: r) st h n ms) : PW K pc (a0 :: a1 :: .int x :: r) st h n ms := pw_iinc_g (ls := a0 :: a1 :: .int x :: r) v d hi rfl hv (hp_of (i := 1) rfl hp) k
theorem pw_ist3 {a0 a1 a2 a3 : Value} {r : List Value} {x : Int32} (d : decode (mC K.2.1) pc = .ok (.istore_n 3, 1)) (hi : 3 < mL K.2.1) (hp : a2.category = 1) (k : PW K (pc + 1) (a0 :: a1 :: a2 :: .int x :: r) st h n ms) : PW K pc (a0 :: a1 :: a2 :: a3 :: r) (.int x :: st) h n ms := pw_istore_n_g (ls := a0 :: a1 :: a2 :: a3 :: r) d hi (hp_of (i := 2) rfl hp) k
theorem pw_ast3 {a0 a1 a2 a3 : Value} {r : List Value} {x : Nat} (d : decode (mC K.2.1) pc = .ok (.astore_n 3, 1)) (hi : 3 < mL K.2.1) (hp : a2.category = 1) (k : PW K (pc + 1) (a0 :: a1 :: a2 :: .ref x :: r) st h n ms) : PW K pc (a0 :: a1 :: a2 :: a3 :: r) (.ref x :: st) h n ms := pw_astore_n_g (ls := a0 :: a1 :: a2 :: a3 :: r) d hi (hp_of (i := 2) rfl hp) k
theorem pw_iinc3 {a0 a1 a2 : Value} {r : List Value} {x : Int32} {z : Int} (v : Int32) (d : decode (mC K.2.1) pc = .ok (.iinc 3 z, 3)) (hi : 3 < mL K.2.1) (hp : a2.category = 1) (hv : x + Int32.ofInt z = v) (k : PW K (pc + 3) (a0 :: a1 :: a2 :: .int v :: r) st h n ms) : PW K pc (a0 :: a1 :: a2 :: .int x :: r) st h n ms := pw_iinc_g (ls := a0 :: a1 :: a2 :: .int x :: r) v d hi rfl hv (hp_of (i := 2) rfl hp) k
theorem pw_ist4 {a0 a1 a2 a3 a4 : Value} {r : List Value} {x : Int32} (d : decode (mC K.2.1) pc = .ok (.istore 4, 2)) (hi : 4 < mL K.2.1) (hp : a3.category = 1) (k : PW K (pc + 2) (a0 :: a1 :: a2 :: a3 :: .int x :: r) st h n ms) : PW K pc (a0 :: a1 :: a2 :: a3 :: a4 :: r) (.int x :: st) h n ms := pw_istore_g (ls := a0 :: a1 :: a2 :: a3 :: a4 :: r) d hi (hp_of (i := 3) rfl hp) k
theorem pw_ast4 {a0 a1 a2 a3 a4 : Value} {r : List Value} {x : Nat} (d : decode (mC K.2.1) pc = .ok (.astore 4, 2)) (hi : 4 < mL K.2.1) (hp : a3.category = 1) (k : PW K (pc + 2) (a0 :: a1 :: a2 :: a3 :: .ref x :: r) st h n ms) : PW K pc (a0 :: a1 :: a2 :: a3 :: a4 :: r) (.ref x :: st) h n ms := pw_astore_g (ls := a0 :: a1 :: a2 :: a3 :: a4 :: r) d hi (hp_of (i := 3) rfl hp) k
theorem pw_iinc4 {a0 a1 a2 a3 : Value} {r : List Value} {x : Int32} {z : Int} (v : Int32) (d : decode (mC K.2.1) pc = .ok (.iinc 4 z, 3)) (hi : 4 < mL K.2.1) (hp : a3.category = 1) (hv : x + Int32.ofInt z = v) (k : PW K (pc + 3) (a0 :: a1 :: a2 :: a3 :: .int v :: r) st h n ms) : PW K pc (a0 :: a1 :: a2 :: a3 :: .int x :: r) st h n ms := pw_iinc_g (ls := a0 :: a1 :: a2 :: a3 :: .int x :: r) v d hi rfl hv (hp_of (i := 3) rfl hp) k
theorem pw_ist5 {a0 a1 a2 a3 a4 a5 : Value} {r : List Value} {x : Int32} (d : decode (mC K.2.1) pc = .ok (.istore 5, 2)) (hi : 5 < mL K.2.1) (hp : a4.category = 1) (k : PW K (pc + 2) (a0 :: a1 :: a2 :: a3 :: a4 :: .int x :: r) st h n ms) : PW K pc (a0 :: a1 :: a2 :: a3 :: a4 :: a5 :: r) (.int x :: st) h n ms := pw_istore_g (ls := a0 :: a1 :: a2 :: a3 :: a4 :: a5 :: r) d hi (hp_of (i := 4) rfl hp) k
theorem pw_ast5 {a0 a1 a2 a3 a4 a5 : Value} {r : List Value} {x : Nat} (d : decode (mC K.2.1) pc = .ok (.astore 5, 2)) (hi : 5 < mL K.2.1) (hp : a4.category = 1) (k : PW K (pc + 2) (a0 :: a1 :: a2 :: a3 :: a4 :: .ref x :: r) st h n ms) : PW K pc (a0 :: a1 :: a2 :: a3 :: a4 :: a5 :: r) (.ref x :: st) h n ms := pw_astore_g (ls := a0 :: a1 :: a2 :: a3 :: a4 :: a5 :: r) d hi (hp_of (i := 4) rfl hp) k
theorem pw_iinc5 {a0 a1 a2 a3 a4 : Value} {r : List Value} {x : Int32} {z : Int} (v : Int32) (d : decode (mC K.2.1) pc = .ok (.iinc 5 z, 3)) (hi : 5 < mL K.2.1) (hp : a4.category = 1) (hv : x + Int32.ofInt z = v) (k : PW K (pc + 3) (a0 :: a1 :: a2 :: a3 :: a4 :: .int v :: r) st h n ms) : PW K pc (a0 :: a1 :: a2 :: a3 :: a4 :: .int x :: r) st h n ms := pw_iinc_g (ls := a0 :: a1 :: a2 :: a3 :: a4 :: .int x :: r) v d hi rfl hv (hp_of (i := 4) rfl hp) k
theorem pw_ist6 {a0 a1 a2 a3 a4 a5 a6 : Value} {r : List Value} {x : Int32} (d : decode (mC K.2.1) pc = .ok (.istore 6, 2)) (hi : 6 < mL K.2.1) (hp : a5.category = 1) (k : PW K (pc + 2) (a0 :: a1 :: a2 :: a3 :: a4 :: a5 :: .int x :: r) st h n ms) : PW K pc (a0 :: a1 :: a2 :: a3 :: a4 :: a5 :: a6 :: r) (.int x :: st) h n ms := pw_istore_g (ls := a0 :: a1 :: a2 :: a3 :: a4 :: a5 :: a6 :: r) d hi (hp_of (i := 5) rfl hp) k
theorem pw_ast6 {a0 a1 a2 a3 a4 a5 a6 : Value} {r : List Value} {x : Nat} (d : decode (mC K.2.1) pc = .ok (.astore 6, 2)) (hi : 6 < mL K.2.1) (hp : a5.category = 1) (k : PW K (pc + 2) (a0 :: a1 :: a2 :: a3 :: a4 :: a5 :: .ref x :: r) st h n ms) : PW K pc (a0 :: a1 :: a2 :: a3 :: a4 :: a5 :: a6 :: r) (.ref x :: st) h n ms := pw_astore_g (ls := a0 :: a1 :: a2 :: a3 :: a4 :: a5 :: a6 :: r) d hi (hp_of (i := 5) rfl hp) k
theorem pw_iinc6 {a0 a1 a2 a3 a4 a5 : Value} {r : List Value} {x : Int32} {z : Int} (v : Int32) (d : decode (mC K.2.1) pc = .ok (.iinc 6 z, 3)) (hi : 6 < mL K.2.1) (hp : a5.category = 1) (hv : x + Int32.ofInt z = v) (k : PW K (pc + 3) (a0 :: a1 :: a2 :: a3 :: a4 :: a5 :: .int v :: r) st h n ms) : PW K pc (a0 :: a1 :: a2 :: a3 :: a4 :: a5 :: .int x :: r) st h n ms := pw_iinc_g (ls := a0 :: a1 :: a2 :: a3 :: a4 :: a5 :: .int x :: r) v d hi rfl hv (hp_of (i := 5) rfl hp) k
theorem pw_ist7 {a0 a1 a2 a3 a4 a5 a6 a7 : Value} {r : List Value} {x : Int32} (d : decode (mC K.2.1) pc = .ok (.istore 7, 2)) (hi : 7 < mL K.2.1) (hp : a6.category = 1) (k : PW K (pc + 2) (a0 :: a1 :: a2 :: a3 :: a4 :: a5 :: a6 :: .int x :: r) st h n ms) : PW K pc (a0 :: a1 :: a2 :: a3 :: a4 :: a5 :: a6 :: a7 :: r) (.int x :: st) h n ms := pw_istore_g (ls := a0 :: a1 :: a2 :: a3 :: a4 :: a5 :: a6 :: a7 :: r) d hi (hp_of (i := 6) rfl hp) k
theorem pw_ast7 {a0 a1 a2 a3 a4 a5 a6 a7 : Value} {r : List Value} {x : Nat} (d : decode (mC K.2.1) pc = .ok (.astore 7, 2)) (hi : 7 < mL K.2.1) (hp : a6.category = 1) (k : PW K (pc + 2) (a0 :: a1 :: a2 :: a3 :: a4 :: a5 :: a6 :: .ref x :: r) st h n ms) : PW K pc (a0 :: a1 :: a2 :: a3 :: a4 :: a5 :: a6 :: a7 :: r) (.ref x :: st) h n ms := pw_astore_g (ls := a0 :: a1 :: a2 :: a3 :: a4 :: a5 :: a6 :: a7 :: r) d hi (hp_of (i := 6) rfl hp) k
theorem pw_iinc7 {a0 a1 a2 a3 a4 a5 a6 : Value} {r : List Value} {x : Int32} {z : Int} (v : Int32) (d : decode (mC K.2.1) pc = .ok (.iinc 7 z, 3)) (hi : 7 < mL K.2.1) (hp : a6.category = 1) (hv : x + Int32.ofInt z = v) (k : PW K (pc + 3) (a0 :: a1 :: a2 :: a3 :: a4 :: a5 :: a6 :: .int v :: r) st h n ms) : PW K pc (a0 :: a1 :: a2 :: a3 :: a4 :: a5 :: a6 :: .int x :: r) st h n ms := pw_iinc_g (ls := a0 :: a1 :: a2 :: a3 :: a4 :: a5 :: a6 :: .int x :: r) v d hi rfl hv (hp_of (i := 6) rfl hp) k
theorem pw_ist8 {a0 a1 a2 a3 a4 a5 a6 a7 a8 : Value} {r : List Value} {x : Int32} (d : decode (mC K.2.1) pc = .ok (.istore 8, 2)) (hi : 8 < mL K.2.1) (hp : a7.category = 1) (k : PW K (pc + 2) (a0 :: a1 :: a2 :: a3 :: a4 :: a5 :: a6 :: a7 :: .int x :: r) st h n ms) : PW K pc (a0 :: a1 :: a2 :: a3 :: a4 :: a5 :: a6 :: a7 :: a8 :: r) (.int x :: st) h n ms := pw_istore_g (ls := a0 :: a1 :: a2 :: a3 :: a4 :: a5 :: a6 :: a7 :: a8 :: r) d hi (hp_of (i := 7) rfl hp) k
theorem pw_ast8 {a0 a1 a2 a3 a4 a5 a6 a7 a8 : Value} {r : List Value} {x : Nat} (d : decode (mC K.2.1) pc = .ok (.astore 8, 2)) (hi : 8 < mL K.2.1) (hp : a7.category = 1) (k : PW K (pc + 2) (a0 :: a1 :: a2 :: a3 :: a4 :: a5 :: a6 :: a7 :: .ref x :: r) st h n ms) : PW K pc (a0 :: a1 :: a2 :: a3 :: a4 :: a5 :: a6 :: a7 :: a8 :: r) (.ref x :: st) h n ms := pw_astore_g (ls := a0 :: a1 :: a2 :: a3 :: a4 :: a5 :: a6 :: a7 :: a8 :: r) d hi (hp_of (i := 7) rfl hp) k
theorem pw_iinc8 {a0 a1 a2 a3 a4 a5 a6 a7 : Value} {r : List Value} {x : Int32} {z : Int} (v : Int32) (d : decode (mC K.2.1) pc = .ok (.iinc 8 z, 3)) (hi : 8 < mL K.2.1) (hp : a7.category = 1) (hv : x + Int32.ofInt z = v) (k : PW K (pc + 3) (a0 :: a1 :: a2 :: a3 :: a4 :: a5 :: a6 :: a7 :: .int v :: r) st h n ms) : PW K pc (a0 :: a1 :: a2 :: a3 :: a4 :: a5 :: a6 :: a7 :: .int x :: r) st h n ms := pw_iinc_g (ls := a0 :: a1 :: a2 :: a3 :: a4 :: a5 :: a6 :: a7 :: .int x :: r) v d hi rfl hv (hp_of (i := 7) rfl hp) k
theorem pw_ist9 {a0 a1 a2 a3 a4 a5 a6 a7 a8 a9 : Value} {r : List Value} {x : Int32} (d : decode (mC K.2.1) pc = .ok (.istore 9, 2)) (hi : 9 < mL K.2.1) (hp : a8.category = 1) (k : PW K (pc + 2) (a0 :: a1 :: a2 :: a3 :: a4 :: a5 :: a6 :: a7 :: a8 :: .int x :: r) st h n ms) : PW K pc (a0 :: a1 :: a2 :: a3 :: a4 :: a5 :: a6 :: a7 :: a8 :: a9 :: r) (.int x :: st) h n ms := pw_istore_g (ls := a0 :: a1 :: a2 :: a3 :: a4 :: a5 :: a6 :: a7 :: a8 :: a9 :: r) d hi (hp_of (i := 8) rfl hp) k
theorem pw_ast9 {a0 a1 a2 a3 a4 a5 a6 a7 a8 a9 : Value} {r : List Value} {x : Nat} (d : decode (mC K.2.1) pc = .ok (.astore 9, 2)) (hi : 9 < mL K.2.1) (hp : a8.category = 1) (k : PW K (pc + 2) (a0 :: a1 :: a2 :: a3 :: a4 :: a5 :: a6 :: a7 :: a8 :: .ref x :: r) st h n ms) : PW K pc (a0 :: a1 :: a2 :: a3 :: a4 :: a5 :: a6 :: a7 :: a8 :: a9 :: r) (.ref x :: st) h n ms := pw_astore_g (ls := a0 :: a1 :: a2 :: a3 :: a4 :: a5 :: a6 :: a7 :: a8 :: a9 :: r) d hi (hp_of (i := 8) rfl hp) k
theorem pw_iinc9 {a0 a1 a2 a3 a4 a5 a6 a7 a8 : Value} {r : List Value} {x : Int32} {z : Int} (v : Int32) (d : decode (mC K.2.1) pc = .ok (.iinc 9 z, 3)) (hi : 9 < mL K.2.1) (hp : a8.category = 1) (hv : x + Int32.ofInt z = v) (k : PW K (pc + 3) (a0 :: a1 :: a2 :: a3 :: a4 :: a5 :: a6 :: a7 :: a8 :: .int v :: r) st h n ms) : PW K pc (a0 :: a1 :: a2 :: a3 :: a4 :: a5 :: a6 :: a7 :: a8 :: .int x :: r) st h n ms := pw_iinc_g (ls := a0 :: a1 :: a2 :: a3 :: a4 :: a5 :: a6 :: a7 :: a8 :: .int x :: r) v d hi rfl hv (hp_of (i := 8) rfl hp) k
theorem pw_ist10 {a0 a1 a2 a3 a4 a5 a6 a7 a8 a9 a10 : Value} {r : List Value} {x : Int32} (d : decode (mC K.2.1) pc = .ok (.istore 10, 2)) (hi : 10 < mL K.2.1) (hp : a9.category = 1) (k : PW K (pc + 2) (a0 :: a1 :: a2 :: a3 :: a4 :: a5 :: a6 :: a7 :: a8 :: a9 :: .int x :: r) st h n ms) : PW K pc (a0 :: a1 :: a2 :: a3 :: a4 :: a5 :: a6 :: a7 :: a8 :: a9 :: a10 :: r) (.int x :: st) h n ms := pw_istore_g (ls := a0 :: a1 :: a2 :: a3 :: a4 :: a5 :: a6 :: a7 :: a8 :: a9 :: a10 :: r) d hi (hp_of (i := 9) rfl hp) k
theorem pw_ast10 {a0 a1 a2 a3 a4 a5 a6 a7 a8 a9 a10 : Value} {r : List Value} {x : Nat} (d : decode (mC K.2.1) pc = .ok (.astore 10, 2)) (hi : 10 < mL K.2.1) (hp : a9.category = 1) (k : PW K (pc + 2) (a0 :: a1 :: a2 :: a3 :: a4 :: a5 :: a6 :: a7 :: a8 :: a9 :: .ref x :: r) st h n ms) : PW K pc (a0 :: a1 :: a2 :: a3 :: a4 :: a5 :: a6 :: a7 :: a8 :: a9 :: a10 :: r) (.ref x :: st) h n ms := pw_astore_g (ls := a0 :: a1 :: a2 :: a3 :: a4 :: a5 :: a6 :: a7 :: a8 :: a9 :: a10 :: r) d hi (hp_of (i := 9) rfl hp) k
theorem pw_iinc10 {a0 a1 a2 a3 a4 a5 a6 a7 a8 a9 : Value} {r : List Value} {x : Int32} {z : Int} (v : Int32) (d : decode (mC K.2.1) pc = .ok (.iinc 10 z, 3)) (hi : 10 < mL K.2.1) (hp : a9.category = 1) (hv : x + Int32.ofInt z = v) (k : PW K (pc + 3) (a0 :: a1 :: a2 :: a3 :: a4 :: a5 :: a6 :: a7 :: a8 :: a9 :: .int v :: r) st h n ms) : PW K pc (a0 :: a1 :: a2 :: a3 :: a4 :: a5 :: a6 :: a7 :: a8 :: a9 :: .int x :: r) st h n ms := pw_iinc_g (ls := a0 :: a1 :: a2 :: a3 :: a4 :: a5 :: a6 :: a7 :: a8 :: a9 :: .int x :: r) v d hi rfl hv (hp_of (i := 9) rfl hp) k
theorem pw_ist11 {a0 a1 a2 a3 a4 a5 a6 a7 a8 a9 a10 a11 : Value} {r : List Value} {x : Int32} (d : decode (mC K.2.1) pc = .ok (.istore 11, 2)) (hi : 11 < mL K.2.1) (hp : a10.category = 1) (k : PW K (pc + 2) (a0 :: a1 :: a2 :: a3 :: a4 :: a5 :: a6 :: a7 :: a8 :: a9 :: a10 :: .int x :: r) st h n ms) : PW K pc (a0 :: a1 :: a2 :: a3 :: a4 :: a5 :: a6 :: a7 :: a8 :: a9 :: a10 :: a11 :: r) (.int x :: st) h n ms := pw_istore_g (ls := a0 :: a1 :: a2 :: a3 :: a4 :: a5 :: a6 :: a7 :: a8 :: a9 :: a10 :: a11 :: r) d hi (hp_of (i := 10) rfl hp) k
theorem pw_ast11 {a0 a1 a2 a3 a4 a5 a6 a7 a8 a9 a10 a11 : Value} {r : List Value} {x : Nat} (d : decode (mC K.2.1) pc = .ok (.astore 11, 2)) (hi : 11 < mL K.2.1) (hp : a10.category = 1) (k : PW K (pc + 2) (a0 :: a1 :: a2 :: a3 :: a4 :: a5 :: a6 :: a7 :: a8 :: a9 :: a10 :: .ref x :: r) st h n ms) : PW K pc (a0 :: a1 :: a2 :: a3 :: a4 :: a5 :: a6 :: a7 :: a8 :: a9 :: a10 :: a11 :: r) (.ref x :: st) h n ms := pw_astore_g (ls := a0 :: a1 :: a2 :: a3 :: a4 :: a5 :: a6 :: a7 :: a8 :: a9 :: a10 :: a11 :: r) d hi (hp_of (i := 10) rfl hp) k
theorem pw_iinc11 {a0 a1 a2 a3 a4 a5 a6 a7 a8 a9 a10 : Value} {r : List Value} {x : Int32} {z : Int} (v : Int32) (d : decode (mC K.2.1) pc = .ok (.iinc 11 z, 3)) (hi : 11 < mL K.2.1) (hp : a10.category = 1) (hv : x + Int32.ofInt z = v) (k : PW K (pc + 3) (a0 :: a1 :: a2 :: a3 :: a4 :: a5 :: a6 :: a7 :: a8 :: a9 :: a10 :: .int v :: r) st h n ms) : PW K pc (a0 :: a1 :: a2 :: a3 :: a4 :: a5 :: a6 :: a7 :: a8 :: a9 :: a10 :: .int x :: r) st h n ms := pw_iinc_g (ls := a0 :: a1 :: a2 :: a3 :: a4 :: a5 :: a6 :: a7 :: a8 :: a9 :: a10 :: .int x :: r) v d hi rfl hv (hp_of (i := 10) rfl hp) k
theorem pw_ist12 {a0 a1 a2 a3 a4 a5 a6 a7 a8 a9 a10 a11 a12 : Value} {r : List Value} {x : Int32} (d : decode (mC K.2.1) pc = .ok (.istore 12, 2)) (hi : 12 < mL K.2.1) (hp : a11.category = 1) (k : PW K (pc + 2) (a0 :: a1 :: a2 :: a3 :: a4 :: a5 :: a6 :: a7 :: a8 :: a9 :: a10 :: a11 :: .int x :: r) st h n ms) : PW K pc (a0 :: a1 :: a2 :: a3 :: a4 :: a5 :: a6 :: a7 :: a8 :: a9 :: a10 :: a11 :: a12 :: r) (.int x :: st) h n ms := pw_istore_g (ls := a0 :: a1 :: a2 :: a3 :: a4 :: a5 :: a6 :: a7 :: a8 :: a9 :: a10 :: a11 :: a12 :: r) d hi (hp_of (i := 11) rfl hp) k
theorem pw_ast12 {a0 a1 a2 a3 a4 a5 a6 a7 a8 a9 a10 a11 a12 : Value} {r : List Value} {x : Nat} (d : decode (mC K.2.1) pc = .ok (.astore 12, 2)) (hi : 12 < mL K.2.1) (hp : a11.category = 1) (k : PW K (pc + 2) (a0 :: a1 :: a2 :: a3 :: a4 :: a5 :: a6 :: a7 :: a8 :: a9 :: a10 :: a11 :: .ref x :: r) st h n ms) : PW K pc (a0 :: a1 :: a2 :: a3 :: a4 :: a5 :: a6 :: a7 :: a8 :: a9 :: a10 :: a11 :: a12 :: r) (.ref x :: st) h n ms := pw_astore_g (ls := a0 :: a1 :: a2 :: a3 :: a4 :: a5 :: a6 :: a7 :: a8 :: a9 :: a10 :: a11 :: a12 :: r) d hi (hp_of (i := 11) rfl hp) k
theorem pw_iinc12 {a0 a1 a2 a3 a4 a5 a6 a7 a8 a9 a10 a11 : Value} {r : List Value} {x : Int32} {z : Int} (v : Int32) (d : decode (mC K.2.1) pc = .ok (.iinc 12 z, 3)) (hi : 12 < mL K.2.1) (hp : a11.category = 1) (hv : x + Int32.ofInt z = v) (k : PW K (pc + 3) (a0 :: a1 :: a2 :: a3 :: a4 :: a5 :: a6 :: a7 :: a8 :: a9 :: a10 :: a11 :: .int v :: r) st h n ms) : PW K pc (a0 :: a1 :: a2 :: a3 :: a4 :: a5 :: a6 :: a7 :: a8 :: a9 :: a10 :: a11 :: .int x :: r) st h n ms := pw_iinc_g (ls := a0 :: a1 :: a2 :: a3 :: a4 :: a5 :: a6 :: a7 :: a8 :: a9 :: a10 :: a11 :: .int x :: r) v d hi rfl hv (hp_of (i := 11) rfl hp) k
theorem pw_lst2 {a0 a1 a2 a3 : Value} {r : List Value} {x : Int64} (d : decode (mC K.2.1) pc = .ok (.lstore_n 2, 1)) (hi : 3 < mL K.2.1) (hp : a1.category = 1) (k : PW K (pc + 1) (a0 :: a1 :: .long x :: .null :: r) st h n ms) : PW K pc (a0 :: a1 :: a2 :: a3 :: r) (.long x :: st) h n ms := pw_lstore_n_g (ls := a0 :: a1 :: a2 :: a3 :: r) d hi (hp_of (i := 1) rfl hp) k
end PWH
end
section
def FG (own : String) (idx ci k : Nat) : Prop := ∃ (C : String) (T : u_T) (N : Nat), vwCl[ci]? = some (C, T, N) ∧ k < N ∧ (∀ w ∈ u_ws C T N, w ∈ tbl) ∧ (T k).1 = C ∧ Cond.fieldLink own idx C (T k).2.1 (T k).2.2.1 ∈ tbl
def FP (own : String) (idx ci k : Nat) (ty : FieldType) : Prop := ∃ (C : String) (T : u_T) (N : Nat) (ty0 : Nat → FieldType), vwCl[ci]? = some (C, T, N) ∧ k < N ∧ (∀ w ∈ u_ws C T N, w ∈ tbl) ∧ (T k).1 = C ∧ Cond.fieldLink own idx C (T k).2.1 (T k).2.2.1 ∈ tbl ∧ (∀ k, k < N → parseFieldDescriptor (T k).2.2.1 = some (ty0 k)) ∧ (∀ a, a < N → ∀ b, b < N → a ≠ b → (T a).2.1 ≠ (T b).2.1) ∧ (T k).2.2.2 = false ∧ parseFieldDescriptor (T k).2.2.1 = some ty
def FF (own : String) (idx ci k : Nat) (ty : FieldType) : Prop := ∃ (C : String) (T : u_T) (N : Nat) (ty0 : Nat → FieldType), vwCl[ci]? = some (C, T, N) ∧ k < N ∧ (∀ w ∈ u_ws C T N, w ∈ tbl) ∧ (T k).1 = C ∧ Cond.fieldLink own idx C (T k).2.1 (T k).2.2.1 ∈ tbl ∧ (∀ k, k < N → parseFieldDescriptor (T k).2.2.1 = some (ty0 k)) ∧ (∀ a, a < N → ∀ b, b < N → a ≠ b → (T a).2.1 ≠ (T b).2.1) ∧ (T k).2.2.2 = true ∧ (T k).1 = own ∧ parseFieldDescriptor (T k).2.2.1 = some ty
section PWG
variable {K : MX} {pc : Nat} {ls st : List Value} {h : HP} {n ms : Nat}
theorem pw_get {idx ci k a : Nat} {fs : List Value} {v : Value} (F : FG (mY K.2.1).cls idx ci k) (d : decode (mC K.2.1) pc = .ok (.getfield idx, 3)) (ha : h a = some (.inr (ci, fs))) (hv : fs[k]? = some v) (kk : PW K (pc + 3) ls (v :: st) h n ms) : PW K pc ls (.ref a :: st) h n ms := by
  intro p e s m args below meth c X Y R r1 r2 H locs lsA cells slots hS hR hL hn
  obtain ⟨C, T, N, f1, f2, f3, f4, f5⟩ := F
  exact va_get X.1 X.2.1 X.2.2.2.2.2.2.2.1 f3 X.2.2.2.2.1 X.2.2.2.2.2.2.2.2.1.1 hR.2.2.2 _ (hR.at ha) f1 k f2 (X.2.2.2.2.2.2.2.1 _ f5) (fun x hx => by rw [f4] at hx; exact hx) hv d (kk p e s m args below meth c X Y R r1 r2 H locs lsA cells slots hS hR hL hn)
theorem pw_putG {idx ci k a : Nat} {fs : List Value} {v : Value} {ty : FieldType} (F : FP (mY K.2.1).cls idx ci k ty) (d : decode (mC K.2.1) pc = .ok (.putfield idx, 3)) (ha : h a = some (.inr (ci, fs))) (hl : k < fs.length) (hn1 : narrow ty v = v) (hf : fits ty v = true) (kk : PW K (pc + 3) ls st (va_up h a (some (.inr (ci, fs.set k v)))) n ms) : PW K pc ls (v :: .ref a :: st) h n ms := by
  intro p e s m args below meth c X Y R r1 r2 H locs lsA cells slots hS hR hL hn
  obtain ⟨C, T, N, ty0, f1, f2, f3, f4, f5, f6, f7, f8, f9⟩ := F
  have hb := (hR.2.2.1 a).mp ⟨_, ha⟩
  refine va_put (ty := ty) X.1 X.2.1 X.2.2.2.2.2.2.2.1 f3 ty0 f6 f7 X.2.2.2.2.1 X.2.2.2.2.2.2.2.2.1.1 hR.2.2.2 pws_D hS _ (hR.at ha) f1 k f2 (X.2.2.2.2.2.2.2.1 _ f5) (fun x hx => by rw [f4] at hx; exact hx) f8 f9 hn1 hf hl d (fun H1 locs1 hP1 _ hS1 => ?_)
  have e1 := pws_set (E := K.1) (h := h) (e := .inr (ci, fs.set k v)) hb.1 hb.2
  simp only [cvE] at e1 hP1
  rw [e1] at hP1
  refine W.sized (fun hz => ?_)
  exact kk p e s m args below meth c X Y R r1 r2 H1 locs1 lsA cells slots hS1 (pR.mk hP1 hS1 X.2.2.2.2.2.2.2.2.2.2.2.2.2.2 (by omega) hR.2.1 (dom_up hR.2.2.1 ha)) hL hn
theorem pw_putF {idx ci k a : Nat} {fs : List Value} {v : Value} {ty : FieldType} (F : FF (mY K.2.1).cls idx ci k ty) (hi : (mY K.2.1).name = "<init>") (d : decode (mC K.2.1) pc = .ok (.putfield idx, 3)) (ha : h a = some (.inr (ci, fs))) (hl : k < fs.length) (hn1 : narrow ty v = v) (hf : fits ty v = true) (kk : PW K (pc + 3) ls st (va_up h a (some (.inr (ci, fs.set k v)))) n ms) : PW K pc ls (v :: .ref a :: st) h n ms := by
  intro p e s m args below meth c X Y R r1 r2 H locs lsA cells slots hS hR hL hn
  obtain ⟨C, T, N, ty0, f1, f2, f3, f4, f5, f6, f7, f8, f9, f10⟩ := F
  have hb := (hR.2.2.1 a).mp ⟨_, ha⟩
  refine va_putF (ty := ty) X.1 X.2.1 X.2.2.2.2.2.2.2.1 f3 ty0 f6 f7 X.2.2.2.2.1 X.2.2.2.2.2.2.2.2.1.1 hR.2.2.2 pws_D hS _ (hR.at ha) f1 k f2 (X.2.2.2.2.2.2.2.1 _ f5) (fun x hx => by rw [f4] at hx; exact hx) f8 (X.2.2.2.2.2.2.1.trans hi) f9 f10 hn1 hf hl d (fun H1 locs1 hP1 _ hS1 => ?_)
  have e1 := pws_set (E := K.1) (h := h) (e := .inr (ci, fs.set k v)) hb.1 hb.2
  simp only [cvE] at e1 hP1
  rw [e1] at hP1
  refine W.sized (fun hz => ?_)
  exact kk p e s m args below meth c X Y R r1 r2 H1 locs1 lsA cells slots hS1 (pR.mk hP1 hS1 X.2.2.2.2.2.2.2.2.2.2.2.2.2.2 (by omega) hR.2.1 (dom_up hR.2.2.1 ha)) hL hn
theorem pw_alen {a kd : Nat} {x : vp_A} (v : Int32) (d : decode (mC K.2.1) pc = .ok (.arraylength, 1)) (ha : h a = some (.inl (kd, x))) (hk : kd < 4) (hv : Int32.ofNat x.1 = v) (kk : PW K (pc + 1) ls (.int v :: st) h n ms) : PW K pc ls (.ref a :: st) h n ms := by
  intro p e s m args below meth c X Y R r1 r2 H locs lsA cells slots hS hR hL hn
  have ht : ∃ (t : Nat) (ty : FieldType), (pty K.1)[t]? = some (eK K.1 kd, ty) := by
    rcases (show kd = 0 ∨ kd = 1 ∨ kd = 2 ∨ kd = 3 by omega) with rfl | rfl | rfl | rfl
    · exact ⟨0, _, rfl⟩
    · exact ⟨1, _, rfl⟩
    · exact ⟨2, _, rfl⟩
    · exact ⟨3, _, rfl⟩
  obtain ⟨t, ty, ht⟩ := ht
  exact va_alen X.1 X.2.1 X.2.2.2.2.2.2.2.2.1.1 hR.2.2.2 _ t (hR.at ha) ht hv d (kk p e s m args below meth c X Y R r1 r2 H locs lsA cells slots hS hR hL hn)

theorem pw_iald {a N : Nat} {i : Int32} {f : Nat → Int32} (j : Nat) (d : decode (mC K.2.1) pc = .ok (.iaload, 1)) (ha : h a = some (.inl (0, N, .inl f))) (hi : i = nI j) (hj : j < N) (hN : N < 2147483648) (kk : PW K (pc + 1) ls (.int (f j) :: st) h n ms) : PW K pc ls (.int i :: .ref a :: st) h n ms := by
  intro p e s m args below meth c X Y R r1 r2 H locs lsA cells slots hS hR hL hn
  subst hi
  refine va_iald X.1 X.2.1 X.2.2.2.2.2.2.2.2.1.1 hR.2.2.2 _ 0 (hR.at ha) rfl (vp_in_nI hj hN) d ?_
  rw [nI_clamp (Nat.lt_trans hj hN)]
  exact kk p e s m args below meth c X Y R r1 r2 H locs lsA cells slots hS hR hL hn
theorem pw_lald {a N : Nat} {i : Int32} {f : Nat → Int64} (j : Nat) (d : decode (mC K.2.1) pc = .ok (.laload, 1)) (ha : h a = some (.inl (1, N, .inr (.inl f)))) (hi : i = nI j) (hj : j < N) (hN : N < 2147483648) (kk : PW K (pc + 1) ls (.long (f j) :: st) h n ms) : PW K pc ls (.int i :: .ref a :: st) h n ms := by
  intro p e s m args below meth c X Y R r1 r2 H locs lsA cells slots hS hR hL hn
  subst hi
  refine va_lald X.1 X.2.1 X.2.2.2.2.2.2.2.2.1.1 hR.2.2.2 _ 1 (hR.at ha) rfl (vp_in_nI hj hN) d ?_
  rw [nI_clamp (Nat.lt_trans hj hN)]
  exact kk p e s m args below meth c X Y R r1 r2 H locs lsA cells slots hS hR hL hn
theorem pw_zald {a N : Nat} {i : Int32} {f : Nat → Int32} (j : Nat) (d : decode (mC K.2.1) pc = .ok (.baload, 1)) (ha : h a = some (.inl (2, N, .inl f))) (hi : i = nI j) (hj : j < N) (hN : N < 2147483648) (kk : PW K (pc + 1) ls (.int (f j) :: st) h n ms) : PW K pc ls (.int i :: .ref a :: st) h n ms := by
  intro p e s m args below meth c X Y R r1 r2 H locs lsA cells slots hS hR hL hn
  subst hi
  refine va_zald X.1 X.2.1 X.2.2.2.2.2.2.2.2.1.1 hR.2.2.2 _ 2 (hR.at ha) rfl (vp_in_nI hj hN) d ?_
  rw [nI_clamp (Nat.lt_trans hj hN)]
  exact kk p e s m args below meth c X Y R r1 r2 H locs lsA cells slots hS hR hL hn
theorem pw_aald0 {a N : Nat} {i : Int32} {f : Nat → Option Nat} (j : Nat) (d : decode (mC K.2.1) pc = .ok (.aaload, 1)) (ha : h a = some (.inl (3, N, .inr (.inr (.inr (.inr f)))))) (hi : i = nI j) (hj : j < N) (hN : N < 2147483648) (kk : PW K (pc + 1) ls (va_rf (f j) :: st) h n ms) : PW K pc ls (.int i :: .ref a :: st) h n ms := by
  intro p e s m args below meth c X Y R r1 r2 H locs lsA cells slots hS hR hL hn
  subst hi
  refine va_aldq X.1 X.2.1 X.2.2.2.2.2.2.2.2.1.1 hR.2.2.2 _ 3 (hR.at ha) rfl (vp_in_nI hj hN) d ?_
  rw [nI_clamp (Nat.lt_trans hj hN)]
  exact kk p e s m args below meth c X Y R r1 r2 H locs lsA cells slots hS hR hL hn
theorem pw_aald {a N q : Nat} {i : Int32} {f : Nat → Option Nat} (j : Nat) (d : decode (mC K.2.1) pc = .ok (.aaload, 1)) (ha : h a = some (.inl (3, N, .inr (.inr (.inr (.inr f)))))) (hi : i = nI j) (hj : j < N) (hN : N < 2147483648) (hq : f j = some q) (kk : PW K (pc + 1) ls (.ref q :: st) h n ms) : PW K pc ls (.int i :: .ref a :: st) h n ms := by
  refine pw_aald0 j d ha hi hj hN ?_
  rw [hq]
  exact kk
theorem pw_iast {a N : Nat} {i : Int32} {f : Nat → Int32} {x : Int32} (j : Nat) (d : decode (mC K.2.1) pc = .ok (.iastore, 1)) (ha : h a = some (.inl (0, N, .inl (f)))) (hi : i = nI j) (hj : j < N) (hN : N < 2147483648) (kk : PW K (pc + 1) ls st (va_up h a (some (.inl (0, N, .inl (upd f j x))))) n ms) : PW K pc ls (.int x :: .int i :: .ref a :: st) h n ms := by
  intro p e s m args below meth c X Y R r1 r2 H locs lsA cells slots hS hR hL hn
  subst hi
  have hb := (hR.2.2.1 a).mp ⟨_, ha⟩
  refine va_iast X.1 X.2.1 X.2.2.2.2.2.2.2.2.1.1 hR.2.2.2 pws_D hS _ 0 (hR.at ha) rfl (vp_in_nI hj hN) d (fun H1 locs1 hP1 _ hS1 => ?_)
  rw [nI_clamp (Nat.lt_trans hj hN)] at hP1
  have e1 := pws_set (E := K.1) (h := h) (e := .inl (0, N, .inl (upd f j x))) hb.1 hb.2
  simp only [cvE] at e1 hP1
  rw [e1] at hP1
  refine W.sized (fun hz => ?_)
  exact kk p e s m args below meth c X Y R r1 r2 H1 locs1 lsA cells slots hS1 (pR.mk hP1 hS1 X.2.2.2.2.2.2.2.2.2.2.2.2.2.2 (by omega) hR.2.1 (dom_up hR.2.2.1 ha)) hL hn
theorem pw_last {a N : Nat} {i : Int32} {f : Nat → Int64} {x : Int64} (j : Nat) (d : decode (mC K.2.1) pc = .ok (.lastore, 1)) (ha : h a = some (.inl (1, N, .inr (.inl (f))))) (hi : i = nI j) (hj : j < N) (hN : N < 2147483648) (kk : PW K (pc + 1) ls st (va_up h a (some (.inl (1, N, .inr (.inl (vp_updL f j x)))))) n ms) : PW K pc ls (.long x :: .int i :: .ref a :: st) h n ms := by
  intro p e s m args below meth c X Y R r1 r2 H locs lsA cells slots hS hR hL hn
  subst hi
  have hb := (hR.2.2.1 a).mp ⟨_, ha⟩
  refine va_last X.1 X.2.1 X.2.2.2.2.2.2.2.2.1.1 hR.2.2.2 pws_D hS _ 1 (hR.at ha) rfl (vp_in_nI hj hN) d (fun H1 locs1 hP1 _ hS1 => ?_)
  rw [nI_clamp (Nat.lt_trans hj hN)] at hP1
  have e1 := pws_set (E := K.1) (h := h) (e := .inl (1, N, .inr (.inl (vp_updL f j x)))) hb.1 hb.2
  simp only [cvE] at e1 hP1
  rw [e1] at hP1
  refine W.sized (fun hz => ?_)
  exact kk p e s m args below meth c X Y R r1 r2 H1 locs1 lsA cells slots hS1 (pR.mk hP1 hS1 X.2.2.2.2.2.2.2.2.2.2.2.2.2.2 (by omega) hR.2.1 (dom_up hR.2.2.1 ha)) hL hn
theorem pw_zast {a N : Nat} {i : Int32} {f : Nat → Int32} {x : Int32} (j : Nat) (d : decode (mC K.2.1) pc = .ok (.bastore, 1)) (ha : h a = some (.inl (2, N, .inl (f)))) (hi : i = nI j) (hj : j < N) (hN : N < 2147483648) (kk : PW K (pc + 1) ls st (va_up h a (some (.inl (2, N, .inl (upd f j (vp_nar .boolean x)))))) n ms) : PW K pc ls (.int x :: .int i :: .ref a :: st) h n ms := by
  intro p e s m args below meth c X Y R r1 r2 H locs lsA cells slots hS hR hL hn
  subst hi
  have hb := (hR.2.2.1 a).mp ⟨_, ha⟩
  refine va_zast X.1 X.2.1 X.2.2.2.2.2.2.2.2.1.1 hR.2.2.2 pws_D hS _ 2 (hR.at ha) rfl (vp_in_nI hj hN) d (fun H1 locs1 hP1 _ hS1 => ?_)
  rw [nI_clamp (Nat.lt_trans hj hN)] at hP1
  have e1 := pws_set (E := K.1) (h := h) (e := .inl (2, N, .inl (upd f j (vp_nar .boolean x)))) hb.1 hb.2
  simp only [cvE] at e1 hP1
  rw [e1] at hP1
  refine W.sized (fun hz => ?_)
  exact kk p e s m args below meth c X Y R r1 r2 H1 locs1 lsA cells slots hS1 (pR.mk hP1 hS1 X.2.2.2.2.2.2.2.2.2.2.2.2.2.2 (by omega) hR.2.1 (dom_up hR.2.2.1 ha)) hL hn
theorem pw_aast {a b N : Nat} {i : Int32} {f : Nat → Option Nat} {vs : List Value} (j : Nat) (d : decode (mC K.2.1) pc = .ok (.aastore, 1)) (ha : h a = some (.inl (3, N, .inr (.inr (.inr (.inr f)))))) (hb2 : h b = some (.inr (3, vs))) (hi : i = nI j) (hj : j < N) (hN : N < 2147483648) (kk : PW K (pc + 1) ls st (va_up h a (some (.inl (3, N, .inr (.inr (.inr (.inr (va_up f j (some b))))))))) n ms) : PW K pc ls (.ref b :: .int i :: .ref a :: st) h n ms := by
  intro p e s m args below meth c X Y R r1 r2 H locs lsA cells slots hS hR hL hn
  subst hi
  have hb := (hR.2.2.1 a).mp ⟨_, ha⟩
  refine va_astq (r := (RX3, TX3, 2)) X.1 X.2.1 X.2.2.2.2.2.2.2.2.1.1 hR.2.2.2 pws_D hS _ 3 _ 3 (hR.at ha) rfl (hR.at hb2) rfl (vp_in_nI hj hN) d (fun H1 locs1 hP1 _ hS1 => ?_)
  rw [nI_clamp (Nat.lt_trans hj hN)] at hP1
  have e1 := pws_set (E := K.1) (h := h) (e := .inl (3, N, .inr (.inr (.inr (.inr (va_up f j (some b))))))) hb.1 hb.2
  simp only [cvE] at e1 hP1
  rw [e1] at hP1
  refine W.sized (fun hz => ?_)
  exact kk p e s m args below meth c X Y R r1 r2 H1 locs1 lsA cells slots hS1 (pR.mk hP1 hS1 X.2.2.2.2.2.2.2.2.2.2.2.2.2.2 (by omega) hR.2.1 (dom_up hR.2.2.1 ha)) hL hn
theorem pw_copy {idx a0 a n0 n1 : Nat} {f g : Nat → Int32} {sp dp cn : Int32} (js jd jn : Nat) (cl : Cond.methodLink (mY K.2.1).cls idx arraycopyName ∈ tbl) (d : decode (mC K.2.1) pc = .ok (.invokestatic idx, 3)) (ha0 : h a0 = some (.inl (0, n0, .inl f))) (ha : h a = some (.inl (0, n1, .inl g))) (hs : sp = nI js) (hd : dp = nI jd) (hc : cn = nI jn) (h4 : js + jn ≤ n0) (h5 : jd + jn ≤ n1) (hN0 : n0 < 2147483648) (hN1 : n1 < 2147483648) (hfr : 1 ≤ mFr K.2.1) (hlo : (st.map fun v => v.category).sum + (nativeFrameWords "java/lang/System" "arraycopy" 5 + 11) ≤ mLo K.2.1) (kk : PW K (pc + 3) ls st (va_up h a (some (.inl (0, n1, .inl (va_cpy f g js jd jn))))) n ms) : PW K pc ls (.int cn :: .int dp :: .ref a :: .int sp :: .ref a0 :: st) h n ms := by
  intro p e s m args below meth c X Y R r1 r2 H locs lsA cells slots hS hR hL hn
  subst hs hd hc
  have hb := (hR.2.2.1 a).mp ⟨_, ha⟩
  have t1 : js < 2147483648 := by omega
  have t2 : jd < 2147483648 := by omega
  have t3 : jn < 2147483648 := by omega
  refine va_copyi X.1 X.2.1 (X.2.2.2.1.trans hL.1.symm) X.2.2.2.2.1 (X.2.2.2.2.2.2.2.1 _ cl) (X.2.2.2.2.2.2.2.1 _ (by decide +kernel)) (X.2.2.2.2.2.2.2.1 _ (by decide +kernel)) (X.2.2.2.2.2.2.2.1 _ (by decide +kernel)) X.2.2.2.2.2.2.2.2.1.1 hR.2.2.2 pws_D hS _ _ 0 0 (hR.at ha0) (hR.at ha) rfl rfl rfl (nI_pos t1) (nI_pos t2) (nI_pos t3) (by rw [nI_clamp t1, nI_clamp t3]; exact h4) (by rw [nI_clamp t2, nI_clamp t3]; exact h5) (fun i _ => rfl) (by rw [r1]; exact hfr) (by rw [r2]; exact hlo) d (fun H1 locs1 hP1 _ hS1 => ?_)
  rw [nI_clamp t1, nI_clamp t2, nI_clamp t3] at hP1
  have e1 := pws_set (E := K.1) (h := h) (e := .inl (0, n1, .inl (va_cpy f g js jd jn))) hb.1 hb.2
  simp only [cvE] at e1 hP1
  rw [e1] at hP1
  refine W.sized (fun hz => ?_)
  exact kk p e s m args below meth c X Y R r1 r2 H1 locs1 lsA cells slots hS1 (pR.mk hP1 hS1 X.2.2.2.2.2.2.2.2.2.2.2.2.2.2 (by omega) hR.2.1 (dom_up hR.2.2.1 ha)) hL hn
end PWG
end
section
section PWP
variable {K : MX} {pc : Nat} {ls st : List Value} {h : HP} {n ms : Nat}
theorem pw_put0 {idx ci a : Nat} {f0 v : Value} {r : List Value} {ty : FieldType} (F : FP (mY K.2.1).cls idx ci 0 ty) (d : decode (mC K.2.1) pc = .ok (.putfield idx, 3)) (ha : h a = some (.inr (ci, f0 :: r))) (hn1 : narrow ty v = v) (hf : fits ty v = true) (kk : PW K (pc + 3) ls st (va_up h a (some (.inr (ci, v :: r)))) n ms) : PW K pc ls (v :: .ref a :: st) h n ms := pw_putG F d ha (by simp) hn1 hf kk
theorem pw_putF0 {idx ci a : Nat} {f0 v : Value} {r : List Value} {ty : FieldType} (F : FF (mY K.2.1).cls idx ci 0 ty) (hi : (mY K.2.1).name = "<init>") (d : decode (mC K.2.1) pc = .ok (.putfield idx, 3)) (ha : h a = some (.inr (ci, f0 :: r))) (hn1 : narrow ty v = v) (hf : fits ty v = true) (kk : PW K (pc + 3) ls st (va_up h a (some (.inr (ci, v :: r)))) n ms) : PW K pc ls (v :: .ref a :: st) h n ms := pw_putF F hi d ha (by simp) hn1 hf kk
theorem pw_put1 {idx ci a : Nat} {f0 f1 v : Value} {r : List Value} {ty : FieldType} (F : FP (mY K.2.1).cls idx ci 1 ty) (d : decode (mC K.2.1) pc = .ok (.putfield idx, 3)) (ha : h a = some (.inr (ci, f0 :: f1 :: r))) (hn1 : narrow ty v = v) (hf : fits ty v = true) (kk : PW K (pc + 3) ls st (va_up h a (some (.inr (ci, f0 :: v :: r)))) n ms) : PW K pc ls (v :: .ref a :: st) h n ms := pw_putG F d ha (by simp) hn1 hf kk
theorem pw_putF1 {idx ci a : Nat} {f0 f1 v : Value} {r : List Value} {ty : FieldType} (F : FF (mY K.2.1).cls idx ci 1 ty) (hi : (mY K.2.1).name = "<init>") (d : decode (mC K.2.1) pc = .ok (.putfield idx, 3)) (ha : h a = some (.inr (ci, f0 :: f1 :: r))) (hn1 : narrow ty v = v) (hf : fits ty v = true) (kk : PW K (pc + 3) ls st (va_up h a (some (.inr (ci, f0 :: v :: r)))) n ms) : PW K pc ls (v :: .ref a :: st) h n ms := pw_putF F hi d ha (by simp) hn1 hf kk
theorem pw_put2 {idx ci a : Nat} {f0 f1 f2 v : Value} {r : List Value} {ty : FieldType} (F : FP (mY K.2.1).cls idx ci 2 ty) (d : decode (mC K.2.1) pc = .ok (.putfield idx, 3)) (ha : h a = some (.inr (ci, f0 :: f1 :: f2 :: r))) (hn1 : narrow ty v = v) (hf : fits ty v = true) (kk : PW K (pc + 3) ls st (va_up h a (some (.inr (ci, f0 :: f1 :: v :: r)))) n ms) : PW K pc ls (v :: .ref a :: st) h n ms := pw_putG F d ha (by simp) hn1 hf kk
theorem pw_putF2 {idx ci a : Nat} {f0 f1 f2 v : Value} {r : List Value} {ty : FieldType} (F : FF (mY K.2.1).cls idx ci 2 ty) (hi : (mY K.2.1).name = "<init>") (d : decode (mC K.2.1) pc = .ok (.putfield idx, 3)) (ha : h a = some (.inr (ci, f0 :: f1 :: f2 :: r))) (hn1 : narrow ty v = v) (hf : fits ty v = true) (kk : PW K (pc + 3) ls st (va_up h a (some (.inr (ci, f0 :: f1 :: v :: r)))) n ms) : PW K pc ls (v :: .ref a :: st) h n ms := pw_putF F hi d ha (by simp) hn1 hf kk
theorem pw_put3 {idx ci a : Nat} {f0 f1 f2 f3 v : Value} {r : List Value} {ty : FieldType} (F : FP (mY K.2.1).cls idx ci 3 ty) (d : decode (mC K.2.1) pc = .ok (.putfield idx, 3)) (ha : h a = some (.inr (ci, f0 :: f1 :: f2 :: f3 :: r))) (hn1 : narrow ty v = v) (hf : fits ty v = true) (kk : PW K (pc + 3) ls st (va_up h a (some (.inr (ci, f0 :: f1 :: f2 :: v :: r)))) n ms) : PW K pc ls (v :: .ref a :: st) h n ms := pw_putG F d ha (by simp) hn1 hf kk
theorem pw_putF3 {idx ci a : Nat} {f0 f1 f2 f3 v : Value} {r : List Value} {ty : FieldType} (F : FF (mY K.2.1).cls idx ci 3 ty) (hi : (mY K.2.1).name = "<init>") (d : decode (mC K.2.1) pc = .ok (.putfield idx, 3)) (ha : h a = some (.inr (ci, f0 :: f1 :: f2 :: f3 :: r))) (hn1 : narrow ty v = v) (hf : fits ty v = true) (kk : PW K (pc + 3) ls st (va_up h a (some (.inr (ci, f0 :: f1 :: f2 :: v :: r)))) n ms) : PW K pc ls (v :: .ref a :: st) h n ms := pw_putF F hi d ha (by simp) hn1 hf kk
theorem pw_put4 {idx ci a : Nat} {f0 f1 f2 f3 f4 v : Value} {r : List Value} {ty : FieldType} (F : FP (mY K.2.1).cls idx ci 4 ty) (d : decode (mC K.2.1) pc = .ok (.putfield idx, 3)) (ha : h a = some (.inr (ci, f0 :: f1 :: f2 :: f3 :: f4 :: r))) (hn1 : narrow ty v = v) (hf : fits ty v = true) (kk : PW K (pc + 3) ls st (va_up h a (some (.inr (ci, f0 :: f1 :: f2 :: f3 :: v :: r)))) n ms) : PW K pc ls (v :: .ref a :: st) h n ms := pw_putG F d ha (by simp) hn1 hf kk
theorem pw_putF4 {idx ci a : Nat} {f0 f1 f2 f3 f4 v : Value} {r : List Value} {ty : FieldType} (F : FF (mY K.2.1).cls idx ci 4 ty) (hi : (mY K.2.1).name = "<init>") (d : decode (mC K.2.1) pc = .ok (.putfield idx, 3)) (ha : h a = some (.inr (ci, f0 :: f1 :: f2 :: f3 :: f4 :: r))) (hn1 : narrow ty v = v) (hf : fits ty v = true) (kk : PW K (pc + 3) ls st (va_up h a (some (.inr (ci, f0 :: f1 :: f2 :: f3 :: v :: r)))) n ms) : PW K pc ls (v :: .ref a :: st) h n ms := pw_putF F hi d ha (by simp) hn1 hf kk
theorem pw_put5 {idx ci a : Nat} {f0 f1 f2 f3 f4 f5 v : Value} {r : List Value} {ty : FieldType} (F : FP (mY K.2.1).cls idx ci 5 ty) (d : decode (mC K.2.1) pc = .ok (.putfield idx, 3)) (ha : h a = some (.inr (ci, f0 :: f1 :: f2 :: f3 :: f4 :: f5 :: r))) (hn1 : narrow ty v = v) (hf : fits ty v = true) (kk : PW K (pc + 3) ls st (va_up h a (some (.inr (ci, f0 :: f1 :: f2 :: f3 :: f4 :: v :: r)))) n ms) : PW K pc ls (v :: .ref a :: st) h n ms := pw_putG F d ha (by simp) hn1 hf kk
theorem pw_putF5 {idx ci a : Nat} {f0 f1 f2 f3 f4 f5 v : Value} {r : List Value} {ty : FieldType} (F : FF (mY K.2.1).cls idx ci 5 ty) (hi : (mY K.2.1).name = "<init>") (d : decode (mC K.2.1) pc = .ok (.putfield idx, 3)) (ha : h a = some (.inr (ci, f0 :: f1 :: f2 :: f3 :: f4 :: f5 :: r))) (hn1 : narrow ty v = v) (hf : fits ty v = true) (kk : PW K (pc + 3) ls st (va_up h a (some (.inr (ci, f0 :: f1 :: f2 :: f3 :: f4 :: v :: r)))) n ms) : PW K pc ls (v :: .ref a :: st) h n ms := pw_putF F hi d ha (by simp) hn1 hf kk
theorem pw_put6 {idx ci a : Nat} {f0 f1 f2 f3 f4 f5 f6 v : Value} {r : List Value} {ty : FieldType} (F : FP (mY K.2.1).cls idx ci 6 ty) (d : decode (mC K.2.1) pc = .ok (.putfield idx, 3)) (ha : h a = some (.inr (ci, f0 :: f1 :: f2 :: f3 :: f4 :: f5 :: f6 :: r))) (hn1 : narrow ty v = v) (hf : fits ty v = true) (kk : PW K (pc + 3) ls st (va_up h a (some (.inr (ci, f0 :: f1 :: f2 :: f3 :: f4 :: f5 :: v :: r)))) n ms) : PW K pc ls (v :: .ref a :: st) h n ms := pw_putG F d ha (by simp) hn1 hf kk
theorem pw_putF6 {idx ci a : Nat} {f0 f1 f2 f3 f4 f5 f6 v : Value} {r : List Value} {ty : FieldType} (F : FF (mY K.2.1).cls idx ci 6 ty) (hi : (mY K.2.1).name = "<init>") (d : decode (mC K.2.1) pc = .ok (.putfield idx, 3)) (ha : h a = some (.inr (ci, f0 :: f1 :: f2 :: f3 :: f4 :: f5 :: f6 :: r))) (hn1 : narrow ty v = v) (hf : fits ty v = true) (kk : PW K (pc + 3) ls st (va_up h a (some (.inr (ci, f0 :: f1 :: f2 :: f3 :: f4 :: f5 :: v :: r)))) n ms) : PW K pc ls (v :: .ref a :: st) h n ms := pw_putF F hi d ha (by simp) hn1 hf kk
theorem pw_put7 {idx ci a : Nat} {f0 f1 f2 f3 f4 f5 f6 f7 v : Value} {r : List Value} {ty : FieldType} (F : FP (mY K.2.1).cls idx ci 7 ty) (d : decode (mC K.2.1) pc = .ok (.putfield idx, 3)) (ha : h a = some (.inr (ci, f0 :: f1 :: f2 :: f3 :: f4 :: f5 :: f6 :: f7 :: r))) (hn1 : narrow ty v = v) (hf : fits ty v = true) (kk : PW K (pc + 3) ls st (va_up h a (some (.inr (ci, f0 :: f1 :: f2 :: f3 :: f4 :: f5 :: f6 :: v :: r)))) n ms) : PW K pc ls (v :: .ref a :: st) h n ms := pw_putG F d ha (by simp) hn1 hf kk
theorem pw_putF7 {idx ci a : Nat} {f0 f1 f2 f3 f4 f5 f6 f7 v : Value} {r : List Value} {ty : FieldType} (F : FF (mY K.2.1).cls idx ci 7 ty) (hi : (mY K.2.1).name = "<init>") (d : decode (mC K.2.1) pc = .ok (.putfield idx, 3)) (ha : h a = some (.inr (ci, f0 :: f1 :: f2 :: f3 :: f4 :: f5 :: f6 :: f7 :: r))) (hn1 : narrow ty v = v) (hf : fits ty v = true) (kk : PW K (pc + 3) ls st (va_up h a (some (.inr (ci, f0 :: f1 :: f2 :: f3 :: f4 :: f5 :: f6 :: v :: r)))) n ms) : PW K pc ls (v :: .ref a :: st) h n ms := pw_putF F hi d ha (by simp) hn1 hf kk
theorem pw_put8 {idx ci a : Nat} {f0 f1 f2 f3 f4 f5 f6 f7 f8 v : Value} {r : List Value} {ty : FieldType} (F : FP (mY K.2.1).cls idx ci 8 ty) (d : decode (mC K.2.1) pc = .ok (.putfield idx, 3)) (ha : h a = some (.inr (ci, f0 :: f1 :: f2 :: f3 :: f4 :: f5 :: f6 :: f7 :: f8 :: r))) (hn1 : narrow ty v = v) (hf : fits ty v = true) (kk : PW K (pc + 3) ls st (va_up h a (some (.inr (ci, f0 :: f1 :: f2 :: f3 :: f4 :: f5 :: f6 :: f7 :: v :: r)))) n ms) : PW K pc ls (v :: .ref a :: st) h n ms := pw_putG F d ha (by simp) hn1 hf kk
theorem pw_putF8 {idx ci a : Nat} {f0 f1 f2 f3 f4 f5 f6 f7 f8 v : Value} {r : List Value} {ty : FieldType} (F : FF (mY K.2.1).cls idx ci 8 ty) (hi : (mY K.2.1).name = "<init>") (d : decode (mC K.2.1) pc = .ok (.putfield idx, 3)) (ha : h a = some (.inr (ci, f0 :: f1 :: f2 :: f3 :: f4 :: f5 :: f6 :: f7 :: f8 :: r))) (hn1 : narrow ty v = v) (hf : fits ty v = true) (kk : PW K (pc + 3) ls st (va_up h a (some (.inr (ci, f0 :: f1 :: f2 :: f3 :: f4 :: f5 :: f6 :: f7 :: v :: r)))) n ms) : PW K pc ls (v :: .ref a :: st) h n ms := pw_putF F hi d ha (by simp) hn1 hf kk
theorem pw_put9 {idx ci a : Nat} {f0 f1 f2 f3 f4 f5 f6 f7 f8 f9 v : Value} {r : List Value} {ty : FieldType} (F : FP (mY K.2.1).cls idx ci 9 ty) (d : decode (mC K.2.1) pc = .ok (.putfield idx, 3)) (ha : h a = some (.inr (ci, f0 :: f1 :: f2 :: f3 :: f4 :: f5 :: f6 :: f7 :: f8 :: f9 :: r))) (hn1 : narrow ty v = v) (hf : fits ty v = true) (kk : PW K (pc + 3) ls st (va_up h a (some (.inr (ci, f0 :: f1 :: f2 :: f3 :: f4 :: f5 :: f6 :: f7 :: f8 :: v :: r)))) n ms) : PW K pc ls (v :: .ref a :: st) h n ms := pw_putG F d ha (by simp) hn1 hf kk
theorem pw_putF9 {idx ci a : Nat} {f0 f1 f2 f3 f4 f5 f6 f7 f8 f9 v : Value} {r : List Value} {ty : FieldType} (F : FF (mY K.2.1).cls idx ci 9 ty) (hi : (mY K.2.1).name = "<init>") (d : decode (mC K.2.1) pc = .ok (.putfield idx, 3)) (ha : h a = some (.inr (ci, f0 :: f1 :: f2 :: f3 :: f4 :: f5 :: f6 :: f7 :: f8 :: f9 :: r))) (hn1 : narrow ty v = v) (hf : fits ty v = true) (kk : PW K (pc + 3) ls st (va_up h a (some (.inr (ci, f0 :: f1 :: f2 :: f3 :: f4 :: f5 :: f6 :: f7 :: f8 :: v :: r)))) n ms) : PW K pc ls (v :: .ref a :: st) h n ms := pw_putF F hi d ha (by simp) hn1 hf kk
theorem pw_put10 {idx ci a : Nat} {f0 f1 f2 f3 f4 f5 f6 f7 f8 f9 f10 v : Value} {r : List Value} {ty : FieldType} (F : FP (mY K.2.1).cls idx ci 10 ty) (d : decode (mC K.2.1) pc = .ok (.putfield idx, 3)) (ha : h a = some (.inr (ci, f0 :: f1 :: f2 :: f3 :: f4 :: f5 :: f6 :: f7 :: f8 :: f9 :: f10 :: r))) (hn1 : narrow ty v = v) (hf : fits ty v = true) (kk : PW K (pc + 3) ls st (va_up h a (some (.inr (ci, f0 :: f1 :: f2 :: f3 :: f4 :: f5 :: f6 :: f7 :: f8 :: f9 :: v :: r)))) n ms) : PW K pc ls (v :: .ref a :: st) h n ms := pw_putG F d ha (by simp) hn1 hf kk
theorem pw_putF10 {idx ci a : Nat} {f0 f1 f2 f3 f4 f5 f6 f7 f8 f9 f10 v : Value} {r : List Value} {ty : FieldType} (F : FF (mY K.2.1).cls idx ci 10 ty) (hi : (mY K.2.1).name = "<init>") (d : decode (mC K.2.1) pc = .ok (.putfield idx, 3)) (ha : h a = some (.inr (ci, f0 :: f1 :: f2 :: f3 :: f4 :: f5 :: f6 :: f7 :: f8 :: f9 :: f10 :: r))) (hn1 : narrow ty v = v) (hf : fits ty v = true) (kk : PW K (pc + 3) ls st (va_up h a (some (.inr (ci, f0 :: f1 :: f2 :: f3 :: f4 :: f5 :: f6 :: f7 :: f8 :: f9 :: v :: r)))) n ms) : PW K pc ls (v :: .ref a :: st) h n ms := pw_putF F hi d ha (by simp) hn1 hf kk
theorem pw_put11 {idx ci a : Nat} {f0 f1 f2 f3 f4 f5 f6 f7 f8 f9 f10 f11 v : Value} {r : List Value} {ty : FieldType} (F : FP (mY K.2.1).cls idx ci 11 ty) (d : decode (mC K.2.1) pc = .ok (.putfield idx, 3)) (ha : h a = some (.inr (ci, f0 :: f1 :: f2 :: f3 :: f4 :: f5 :: f6 :: f7 :: f8 :: f9 :: f10 :: f11 :: r))) (hn1 : narrow ty v = v) (hf : fits ty v = true) (kk : PW K (pc + 3) ls st (va_up h a (some (.inr (ci, f0 :: f1 :: f2 :: f3 :: f4 :: f5 :: f6 :: f7 :: f8 :: f9 :: f10 :: v :: r)))) n ms) : PW K pc ls (v :: .ref a :: st) h n ms := pw_putG F d ha (by simp) hn1 hf kk
theorem pw_putF11 {idx ci a : Nat} {f0 f1 f2 f3 f4 f5 f6 f7 f8 f9 f10 f11 v : Value} {r : List Value} {ty : FieldType} (F : FF (mY K.2.1).cls idx ci 11 ty) (hi : (mY K.2.1).name = "<init>") (d : decode (mC K.2.1) pc = .ok (.putfield idx, 3)) (ha : h a = some (.inr (ci, f0 :: f1 :: f2 :: f3 :: f4 :: f5 :: f6 :: f7 :: f8 :: f9 :: f10 :: f11 :: r))) (hn1 : narrow ty v = v) (hf : fits ty v = true) (kk : PW K (pc + 3) ls st (va_up h a (some (.inr (ci, f0 :: f1 :: f2 :: f3 :: f4 :: f5 :: f6 :: f7 :: f8 :: f9 :: f10 :: v :: r)))) n ms) : PW K pc ls (v :: .ref a :: st) h n ms := pw_putF F hi d ha (by simp) hn1 hf kk
theorem pw_put12 {idx ci a : Nat} {f0 f1 f2 f3 f4 f5 f6 f7 f8 f9 f10 f11 f12 v : Value} {r : List Value} {ty : FieldType} (F : FP (mY K.2.1).cls idx ci 12 ty) (d : decode (mC K.2.1) pc = .ok (.putfield idx, 3)) (ha : h a = some (.inr (ci, f0 :: f1 :: f2 :: f3 :: f4 :: f5 :: f6 :: f7 :: f8 :: f9 :: f10 :: f11 :: f12 :: r))) (hn1 : narrow ty v = v) (hf : fits ty v = true) (kk : PW K (pc + 3) ls st (va_up h a (some (.inr (ci, f0 :: f1 :: f2 :: f3 :: f4 :: f5 :: f6 :: f7 :: f8 :: f9 :: f10 :: f11 :: v :: r)))) n ms) : PW K pc ls (v :: .ref a :: st) h n ms := pw_putG F d ha (by simp) hn1 hf kk
theorem pw_putF12 {idx ci a : Nat} {f0 f1 f2 f3 f4 f5 f6 f7 f8 f9 f10 f11 f12 v : Value} {r : List Value} {ty : FieldType} (F : FF (mY K.2.1).cls idx ci 12 ty) (hi : (mY K.2.1).name = "<init>") (d : decode (mC K.2.1) pc = .ok (.putfield idx, 3)) (ha : h a = some (.inr (ci, f0 :: f1 :: f2 :: f3 :: f4 :: f5 :: f6 :: f7 :: f8 :: f9 :: f10 :: f11 :: f12 :: r))) (hn1 : narrow ty v = v) (hf : fits ty v = true) (kk : PW K (pc + 3) ls st (va_up h a (some (.inr (ci, f0 :: f1 :: f2 :: f3 :: f4 :: f5 :: f6 :: f7 :: f8 :: f9 :: f10 :: f11 :: v :: r)))) n ms) : PW K pc ls (v :: .ref a :: st) h n ms := pw_putF F hi d ha (by simp) hn1 hf kk
theorem pw_put13 {idx ci a : Nat} {f0 f1 f2 f3 f4 f5 f6 f7 f8 f9 f10 f11 f12 f13 v : Value} {r : List Value} {ty : FieldType} (F : FP (mY K.2.1).cls idx ci 13 ty) (d : decode (mC K.2.1) pc = .ok (.putfield idx, 3)) (ha : h a = some (.inr (ci, f0 :: f1 :: f2 :: f3 :: f4 :: f5 :: f6 :: f7 :: f8 :: f9 :: f10 :: f11 :: f12 :: f13 :: r))) (hn1 : narrow ty v = v) (hf : fits ty v = true) (kk : PW K (pc + 3) ls st (va_up h a (some (.inr (ci, f0 :: f1 :: f2 :: f3 :: f4 :: f5 :: f6 :: f7 :: f8 :: f9 :: f10 :: f11 :: f12 :: v :: r)))) n ms) : PW K pc ls (v :: .ref a :: st) h n ms := pw_putG F d ha (by simp) hn1 hf kk
theorem pw_putF13 {idx ci a : Nat} {f0 f1 f2 f3 f4 f5 f6 f7 f8 f9 f10 f11 f12 f13 v : Value} {r : List Value} {ty : FieldType} (F : FF (mY K.2.1).cls idx ci 13 ty) (hi : (mY K.2.1).name = "<init>") (d : decode (mC K.2.1) pc = .ok (.putfield idx, 3)) (ha : h a = some (.inr (ci, f0 :: f1 :: f2 :: f3 :: f4 :: f5 :: f6 :: f7 :: f8 :: f9 :: f10 :: f11 :: f12 :: f13 :: r))) (hn1 : narrow ty v = v) (hf : fits ty v = true) (kk : PW K (pc + 3) ls st (va_up h a (some (.inr (ci, f0 :: f1 :: f2 :: f3 :: f4 :: f5 :: f6 :: f7 :: f8 :: f9 :: f10 :: f11 :: f12 :: v :: r)))) n ms) : PW K pc ls (v :: .ref a :: st) h n ms := pw_putF F hi d ha (by simp) hn1 hf kk
theorem pw_put14 {idx ci a : Nat} {f0 f1 f2 f3 f4 f5 f6 f7 f8 f9 f10 f11 f12 f13 f14 v : Value} {r : List Value} {ty : FieldType} (F : FP (mY K.2.1).cls idx ci 14 ty) (d : decode (mC K.2.1) pc = .ok (.putfield idx, 3)) (ha : h a = some (.inr (ci, f0 :: f1 :: f2 :: f3 :: f4 :: f5 :: f6 :: f7 :: f8 :: f9 :: f10 :: f11 :: f12 :: f13 :: f14 :: r))) (hn1 : narrow ty v = v) (hf : fits ty v = true) (kk : PW K (pc + 3) ls st (va_up h a (some (.inr (ci, f0 :: f1 :: f2 :: f3 :: f4 :: f5 :: f6 :: f7 :: f8 :: f9 :: f10 :: f11 :: f12 :: f13 :: v :: r)))) n ms) : PW K pc ls (v :: .ref a :: st) h n ms := pw_putG F d ha (by simp) hn1 hf kk
theorem pw_putF14 {idx ci a : Nat} {f0 f1 f2 f3 f4 f5 f6 f7 f8 f9 f10 f11 f12 f13 f14 v : Value} {r : List Value} {ty : FieldType} (F : FF (mY K.2.1).cls idx ci 14 ty) (hi : (mY K.2.1).name = "<init>") (d : decode (mC K.2.1) pc = .ok (.putfield idx, 3)) (ha : h a = some (.inr (ci, f0 :: f1 :: f2 :: f3 :: f4 :: f5 :: f6 :: f7 :: f8 :: f9 :: f10 :: f11 :: f12 :: f13 :: f14 :: r))) (hn1 : narrow ty v = v) (hf : fits ty v = true) (kk : PW K (pc + 3) ls st (va_up h a (some (.inr (ci, f0 :: f1 :: f2 :: f3 :: f4 :: f5 :: f6 :: f7 :: f8 :: f9 :: f10 :: f11 :: f12 :: f13 :: v :: r)))) n ms) : PW K pc ls (v :: .ref a :: st) h n ms := pw_putF F hi d ha (by simp) hn1 hf kk
theorem pw_put15 {idx ci a : Nat} {f0 f1 f2 f3 f4 f5 f6 f7 f8 f9 f10 f11 f12 f13 f14 f15 v : Value} {r : List Value} {ty : FieldType} (F : FP (mY K.2.1).cls idx ci 15 ty) (d : decode (mC K.2.1) pc = .ok (.putfield idx, 3)) (ha : h a = some (.inr (ci, f0 :: f1 :: f2 :: f3 :: f4 :: f5 :: f6 :: f7 :: f8 :: f9 :: f10 :: f11 :: f12 :: f13 :: f14 :: f15 :: r))) (hn1 : narrow ty v = v) (hf : fits ty v = true) (kk : PW K (pc + 3) ls st (va_up h a (some (.inr (ci, f0 :: f1 :: f2 :: f3 :: f4 :: f5 :: f6 :: f7 :: f8 :: f9 :: f10 :: f11 :: f12 :: f13 :: f14 :: v :: r)))) n ms) : PW K pc ls (v :: .ref a :: st) h n ms := pw_putG F d ha (by simp) hn1 hf kk
theorem pw_putF15 {idx ci a : Nat} {f0 f1 f2 f3 f4 f5 f6 f7 f8 f9 f10 f11 f12 f13 f14 f15 v : Value} {r : List Value} {ty : FieldType} (F : FF (mY K.2.1).cls idx ci 15 ty) (hi : (mY K.2.1).name = "<init>") (d : decode (mC K.2.1) pc = .ok (.putfield idx, 3)) (ha : h a = some (.inr (ci, f0 :: f1 :: f2 :: f3 :: f4 :: f5 :: f6 :: f7 :: f8 :: f9 :: f10 :: f11 :: f12 :: f13 :: f14 :: f15 :: r))) (hn1 : narrow ty v = v) (hf : fits ty v = true) (kk : PW K (pc + 3) ls st (va_up h a (some (.inr (ci, f0 :: f1 :: f2 :: f3 :: f4 :: f5 :: f6 :: f7 :: f8 :: f9 :: f10 :: f11 :: f12 :: f13 :: f14 :: v :: r)))) n ms) : PW K pc ls (v :: .ref a :: st) h n ms := pw_putF F hi d ha (by simp) hn1 hf kk
theorem pw_put16 {idx ci a : Nat} {f0 f1 f2 f3 f4 f5 f6 f7 f8 f9 f10 f11 f12 f13 f14 f15 f16 v : Value} {r : List Value} {ty : FieldType} (F : FP (mY K.2.1).cls idx ci 16 ty) (d : decode (mC K.2.1) pc = .ok (.putfield idx, 3)) (ha : h a = some (.inr (ci, f0 :: f1 :: f2 :: f3 :: f4 :: f5 :: f6 :: f7 :: f8 :: f9 :: f10 :: f11 :: f12 :: f13 :: f14 :: f15 :: f16 :: r))) (hn1 : narrow ty v = v) (hf : fits ty v = true) (kk : PW K (pc + 3) ls st (va_up h a (some (.inr (ci, f0 :: f1 :: f2 :: f3 :: f4 :: f5 :: f6 :: f7 :: f8 :: f9 :: f10 :: f11 :: f12 :: f13 :: f14 :: f15 :: v :: r)))) n ms) : PW K pc ls (v :: .ref a :: st) h n ms := pw_putG F d ha (by simp) hn1 hf kk
theorem pw_putF16 {idx ci a : Nat} {f0 f1 f2 f3 f4 f5 f6 f7 f8 f9 f10 f11 f12 f13 f14 f15 f16 v : Value} {r : List Value} {ty : FieldType} (F : FF (mY K.2.1).cls idx ci 16 ty) (hi : (mY K.2.1).name = "<init>") (d : decode (mC K.2.1) pc = .ok (.putfield idx, 3)) (ha : h a = some (.inr (ci, f0 :: f1 :: f2 :: f3 :: f4 :: f5 :: f6 :: f7 :: f8 :: f9 :: f10 :: f11 :: f12 :: f13 :: f14 :: f15 :: f16 :: r))) (hn1 : narrow ty v = v) (hf : fits ty v = true) (kk : PW K (pc + 3) ls st (va_up h a (some (.inr (ci, f0 :: f1 :: f2 :: f3 :: f4 :: f5 :: f6 :: f7 :: f8 :: f9 :: f10 :: f11 :: f12 :: f13 :: f14 :: f15 :: v :: r)))) n ms) : PW K pc ls (v :: .ref a :: st) h n ms := pw_putF F hi d ha (by simp) hn1 hf kk
theorem pw_put17 {idx ci a : Nat} {f0 f1 f2 f3 f4 f5 f6 f7 f8 f9 f10 f11 f12 f13 f14 f15 f16 f17 v : Value} {r : List Value} {ty : FieldType} (F : FP (mY K.2.1).cls idx ci 17 ty) (d : decode (mC K.2.1) pc = .ok (.putfield idx, 3)) (ha : h a = some (.inr (ci, f0 :: f1 :: f2 :: f3 :: f4 :: f5 :: f6 :: f7 :: f8 :: f9 :: f10 :: f11 :: f12 :: f13 :: f14 :: f15 :: f16 :: f17 :: r))) (hn1 : narrow ty v = v) (hf : fits ty v = true) (kk : PW K (pc + 3) ls st (va_up h a (some (.inr (ci, f0 :: f1 :: f2 :: f3 :: f4 :: f5 :: f6 :: f7 :: f8 :: f9 :: f10 :: f11 :: f12 :: f13 :: f14 :: f15 :: f16 :: v :: r)))) n ms) : PW K pc ls (v :: .ref a :: st) h n ms := pw_putG F d ha (by simp) hn1 hf kk
theorem pw_putF17 {idx ci a : Nat} {f0 f1 f2 f3 f4 f5 f6 f7 f8 f9 f10 f11 f12 f13 f14 f15 f16 f17 v : Value} {r : List Value} {ty : FieldType} (F : FF (mY K.2.1).cls idx ci 17 ty) (hi : (mY K.2.1).name = "<init>") (d : decode (mC K.2.1) pc = .ok (.putfield idx, 3)) (ha : h a = some (.inr (ci, f0 :: f1 :: f2 :: f3 :: f4 :: f5 :: f6 :: f7 :: f8 :: f9 :: f10 :: f11 :: f12 :: f13 :: f14 :: f15 :: f16 :: f17 :: r))) (hn1 : narrow ty v = v) (hf : fits ty v = true) (kk : PW K (pc + 3) ls st (va_up h a (some (.inr (ci, f0 :: f1 :: f2 :: f3 :: f4 :: f5 :: f6 :: f7 :: f8 :: f9 :: f10 :: f11 :: f12 :: f13 :: f14 :: f15 :: f16 :: v :: r)))) n ms) : PW K pc ls (v :: .ref a :: st) h n ms := pw_putF F hi d ha (by simp) hn1 hf kk
theorem pw_put18 {idx ci a : Nat} {f0 f1 f2 f3 f4 f5 f6 f7 f8 f9 f10 f11 f12 f13 f14 f15 f16 f17 f18 v : Value} {r : List Value} {ty : FieldType} (F : FP (mY K.2.1).cls idx ci 18 ty) (d : decode (mC K.2.1) pc = .ok (.putfield idx, 3)) (ha : h a = some (.inr (ci, f0 :: f1 :: f2 :: f3 :: f4 :: f5 :: f6 :: f7 :: f8 :: f9 :: f10 :: f11 :: f12 :: f13 :: f14 :: f15 :: f16 :: f17 :: f18 :: r))) (hn1 : narrow ty v = v) (hf : fits ty v = true) (kk : PW K (pc + 3) ls st (va_up h a (some (.inr (ci, f0 :: f1 :: f2 :: f3 :: f4 :: f5 :: f6 :: f7 :: f8 :: f9 :: f10 :: f11 :: f12 :: f13 :: f14 :: f15 :: f16 :: f17 :: v :: r)))) n ms) : PW K pc ls (v :: .ref a :: st) h n ms := pw_putG F d ha (by simp) hn1 hf kk
theorem pw_putF18 {idx ci a : Nat} {f0 f1 f2 f3 f4 f5 f6 f7 f8 f9 f10 f11 f12 f13 f14 f15 f16 f17 f18 v : Value} {r : List Value} {ty : FieldType} (F : FF (mY K.2.1).cls idx ci 18 ty) (hi : (mY K.2.1).name = "<init>") (d : decode (mC K.2.1) pc = .ok (.putfield idx, 3)) (ha : h a = some (.inr (ci, f0 :: f1 :: f2 :: f3 :: f4 :: f5 :: f6 :: f7 :: f8 :: f9 :: f10 :: f11 :: f12 :: f13 :: f14 :: f15 :: f16 :: f17 :: f18 :: r))) (hn1 : narrow ty v = v) (hf : fits ty v = true) (kk : PW K (pc + 3) ls st (va_up h a (some (.inr (ci, f0 :: f1 :: f2 :: f3 :: f4 :: f5 :: f6 :: f7 :: f8 :: f9 :: f10 :: f11 :: f12 :: f13 :: f14 :: f15 :: f16 :: f17 :: v :: r)))) n ms) : PW K pc ls (v :: .ref a :: st) h n ms := pw_putF F hi d ha (by simp) hn1 hf kk
theorem pw_put19 {idx ci a : Nat} {f0 f1 f2 f3 f4 f5 f6 f7 f8 f9 f10 f11 f12 f13 f14 f15 f16 f17 f18 f19 v : Value} {r : List Value} {ty : FieldType} (F : FP (mY K.2.1).cls idx ci 19 ty) (d : decode (mC K.2.1) pc = .ok (.putfield idx, 3)) (ha : h a = some (.inr (ci, f0 :: f1 :: f2 :: f3 :: f4 :: f5 :: f6 :: f7 :: f8 :: f9 :: f10 :: f11 :: f12 :: f13 :: f14 :: f15 :: f16 :: f17 :: f18 :: f19 :: r))) (hn1 : narrow ty v = v) (hf : fits ty v = true) (kk : PW K (pc + 3) ls st (va_up h a (some (.inr (ci, f0 :: f1 :: f2 :: f3 :: f4 :: f5 :: f6 :: f7 :: f8 :: f9 :: f10 :: f11 :: f12 :: f13 :: f14 :: f15 :: f16 :: f17 :: f18 :: v :: r)))) n ms) : PW K pc ls (v :: .ref a :: st) h n ms := pw_putG F d ha (by simp) hn1 hf kk
theorem pw_putF19 {idx ci a : Nat} {f0 f1 f2 f3 f4 f5 f6 f7 f8 f9 f10 f11 f12 f13 f14 f15 f16 f17 f18 f19 v : Value} {r : List Value} {ty : FieldType} (F : FF (mY K.2.1).cls idx ci 19 ty) (hi : (mY K.2.1).name = "<init>") (d : decode (mC K.2.1) pc = .ok (.putfield idx, 3)) (ha : h a = some (.inr (ci, f0 :: f1 :: f2 :: f3 :: f4 :: f5 :: f6 :: f7 :: f8 :: f9 :: f10 :: f11 :: f12 :: f13 :: f14 :: f15 :: f16 :: f17 :: f18 :: f19 :: r))) (hn1 : narrow ty v = v) (hf : fits ty v = true) (kk : PW K (pc + 3) ls st (va_up h a (some (.inr (ci, f0 :: f1 :: f2 :: f3 :: f4 :: f5 :: f6 :: f7 :: f8 :: f9 :: f10 :: f11 :: f12 :: f13 :: f14 :: f15 :: f16 :: f17 :: f18 :: v :: r)))) n ms) : PW K pc ls (v :: .ref a :: st) h n ms := pw_putF F hi d ha (by simp) hn1 hf kk
theorem pw_put20 {idx ci a : Nat} {f0 f1 f2 f3 f4 f5 f6 f7 f8 f9 f10 f11 f12 f13 f14 f15 f16 f17 f18 f19 f20 v : Value} {r : List Value} {ty : FieldType} (F : FP (mY K.2.1).cls idx ci 20 ty) (d : decode (mC K.2.1) pc = .ok (.putfield idx, 3)) (ha : h a = some (.inr (ci, f0 :: f1 :: f2 :: f3 :: f4 :: f5 :: f6 :: f7 :: f8 :: f9 :: f10 :: f11 :: f12 :: f13 :: f14 :: f15 :: f16 :: f17 :: f18 :: f19 :: f20 :: r))) (hn1 : narrow ty v = v) (hf : fits ty v = true) (kk : PW K (pc + 3) ls st (va_up h a (some (.inr (ci, f0 :: f1 :: f2 :: f3 :: f4 :: f5 :: f6 :: f7 :: f8 :: f9 :: f10 :: f11 :: f12 :: f13 :: f14 :: f15 :: f16 :: f17 :: f18 :: f19 :: v :: r)))) n ms) : PW K pc ls (v :: .ref a :: st) h n ms := pw_putG F d ha (by simp) hn1 hf kk
theorem pw_putF20 {idx ci a : Nat} {f0 f1 f2 f3 f4 f5 f6 f7 f8 f9 f10 f11 f12 f13 f14 f15 f16 f17 f18 f19 f20 v : Value} {r : List Value} {ty : FieldType} (F : FF (mY K.2.1).cls idx ci 20 ty) (hi : (mY K.2.1).name = "<init>") (d : decode (mC K.2.1) pc = .ok (.putfield idx, 3)) (ha : h a = some (.inr (ci, f0 :: f1 :: f2 :: f3 :: f4 :: f5 :: f6 :: f7 :: f8 :: f9 :: f10 :: f11 :: f12 :: f13 :: f14 :: f15 :: f16 :: f17 :: f18 :: f19 :: f20 :: r))) (hn1 : narrow ty v = v) (hf : fits ty v = true) (kk : PW K (pc + 3) ls st (va_up h a (some (.inr (ci, f0 :: f1 :: f2 :: f3 :: f4 :: f5 :: f6 :: f7 :: f8 :: f9 :: f10 :: f11 :: f12 :: f13 :: f14 :: f15 :: f16 :: f17 :: f18 :: f19 :: v :: r)))) n ms) : PW K pc ls (v :: .ref a :: st) h n ms := pw_putF F hi d ha (by simp) hn1 hf kk
theorem pw_put21 {idx ci a : Nat} {f0 f1 f2 f3 f4 f5 f6 f7 f8 f9 f10 f11 f12 f13 f14 f15 f16 f17 f18 f19 f20 f21 v : Value} {r : List Value} {ty : FieldType} (F : FP (mY K.2.1).cls idx ci 21 ty) (d : decode (mC K.2.1) pc = .ok (.putfield idx, 3)) (ha : h a = some (.inr (ci, f0 :: f1 :: f2 :: f3 :: f4 :: f5 :: f6 :: f7 :: f8 :: f9 :: f10 :: f11 :: f12 :: f13 :: f14 :: f15 :: f16 :: f17 :: f18 :: f19 :: f20 :: f21 :: r))) (hn1 : narrow ty v = v) (hf : fits ty v = true) (kk : PW K (pc + 3) ls st (va_up h a (some (.inr (ci, f0 :: f1 :: f2 :: f3 :: f4 :: f5 :: f6 :: f7 :: f8 :: f9 :: f10 :: f11 :: f12 :: f13 :: f14 :: f15 :: f16 :: f17 :: f18 :: f19 :: f20 :: v :: r)))) n ms) : PW K pc ls (v :: .ref a :: st) h n ms := pw_putG F d ha (by simp) hn1 hf kk
theorem pw_putF21 {idx ci a : Nat} {f0 f1 f2 f3 f4 f5 f6 f7 f8 f9 f10 f11 f12 f13 f14 f15 f16 f17 f18 f19 f20 f21 v : Value} {r : List Value} {ty : FieldType} (F : FF (mY K.2.1).cls idx ci 21 ty) (hi : (mY K.2.1).name = "<init>") (d : decode (mC K.2.1) pc = .ok (.putfield idx, 3)) (ha : h a = some (.inr (ci, f0 :: f1 :: f2 :: f3 :: f4 :: f5 :: f6 :: f7 :: f8 :: f9 :: f10 :: f11 :: f12 :: f13 :: f14 :: f15 :: f16 :: f17 :: f18 :: f19 :: f20 :: f21 :: r))) (hn1 : narrow ty v = v) (hf : fits ty v = true) (kk : PW K (pc + 3) ls st (va_up h a (some (.inr (ci, f0 :: f1 :: f2 :: f3 :: f4 :: f5 :: f6 :: f7 :: f8 :: f9 :: f10 :: f11 :: f12 :: f13 :: f14 :: f15 :: f16 :: f17 :: f18 :: f19 :: f20 :: v :: r)))) n ms) : PW K pc ls (v :: .ref a :: st) h n ms := pw_putF F hi d ha (by simp) hn1 hf kk
theorem pw_put22 {idx ci a : Nat} {f0 f1 f2 f3 f4 f5 f6 f7 f8 f9 f10 f11 f12 f13 f14 f15 f16 f17 f18 f19 f20 f21 f22 v : Value} {r : List Value} {ty : FieldType} (F : FP (mY K.2.1).cls idx ci 22 ty) (d : decode (mC K.2.1) pc = .ok (.putfield idx, 3)) (ha : h a = some (.inr (ci, f0 :: f1 :: f2 :: f3 :: f4 :: f5 :: f6 :: f7 :: f8 :: f9 :: f10 :: f11 :: f12 :: f13 :: f14 :: f15 :: f16 :: f17 :: f18 :: f19 :: f20 :: f21 :: f22 :: r))) (hn1 : narrow ty v = v) (hf : fits ty v = true) (kk : PW K (pc + 3) ls st (va_up h a (some (.inr (ci, f0 :: f1 :: f2 :: f3 :: f4 :: f5 :: f6 :: f7 :: f8 :: f9 :: f10 :: f11 :: f12 :: f13 :: f14 :: f15 :: f16 :: f17 :: f18 :: f19 :: f20 :: f21 :: v :: r)))) n ms) : PW K pc ls (v :: .ref a :: st) h n ms := pw_putG F d ha (by simp) hn1 hf kk
theorem pw_putF22 {idx ci a : Nat} {f0 f1 f2 f3 f4 f5 f6 f7 f8 f9 f10 f11 f12 f13 f14 f15 f16 f17 f18 f19 f20 f21 f22 v : Value} {r : List Value} {ty : FieldType} (F : FF (mY K.2.1).cls idx ci 22 ty) (hi : (mY K.2.1).name = "<init>") (d : decode (mC K.2.1) pc = .ok (.putfield idx, 3)) (ha : h a = some (.inr (ci, f0 :: f1 :: f2 :: f3 :: f4 :: f5 :: f6 :: f7 :: f8 :: f9 :: f10 :: f11 :: f12 :: f13 :: f14 :: f15 :: f16 :: f17 :: f18 :: f19 :: f20 :: f21 :: f22 :: r))) (hn1 : narrow ty v = v) (hf : fits ty v = true) (kk : PW K (pc + 3) ls st (va_up h a (some (.inr (ci, f0 :: f1 :: f2 :: f3 :: f4 :: f5 :: f6 :: f7 :: f8 :: f9 :: f10 :: f11 :: f12 :: f13 :: f14 :: f15 :: f16 :: f17 :: f18 :: f19 :: f20 :: f21 :: v :: r)))) n ms) : PW K pc ls (v :: .ref a :: st) h n ms := pw_putF F hi d ha (by simp) hn1 hf kk
theorem pw_put23 {idx ci a : Nat} {f0 f1 f2 f3 f4 f5 f6 f7 f8 f9 f10 f11 f12 f13 f14 f15 f16 f17 f18 f19 f20 f21 f22 f23 v : Value} {r : List Value} {ty : FieldType} (F : FP (mY K.2.1).cls idx ci 23 ty) (d : decode (mC K.2.1) pc = .ok (.putfield idx, 3)) (ha : h a = some (.inr (ci, f0 :: f1 :: f2 :: f3 :: f4 :: f5 :: f6 :: f7 :: f8 :: f9 :: f10 :: f11 :: f12 :: f13 :: f14 :: f15 :: f16 :: f17 :: f18 :: f19 :: f20 :: f21 :: f22 :: f23 :: r))) (hn1 : narrow ty v = v) (hf : fits ty v = true) (kk : PW K (pc + 3) ls st (va_up h a (some (.inr (ci, f0 :: f1 :: f2 :: f3 :: f4 :: f5 :: f6 :: f7 :: f8 :: f9 :: f10 :: f11 :: f12 :: f13 :: f14 :: f15 :: f16 :: f17 :: f18 :: f19 :: f20 :: f21 :: f22 :: v :: r)))) n ms) : PW K pc ls (v :: .ref a :: st) h n ms := pw_putG F d ha (by simp) hn1 hf kk
theorem pw_putF23 {idx ci a : Nat} {f0 f1 f2 f3 f4 f5 f6 f7 f8 f9 f10 f11 f12 f13 f14 f15 f16 f17 f18 f19 f20 f21 f22 f23 v : Value} {r : List Value} {ty : FieldType} (F : FF (mY K.2.1).cls idx ci 23 ty) (hi : (mY K.2.1).name = "<init>") (d : decode (mC K.2.1) pc = .ok (.putfield idx, 3)) (ha : h a = some (.inr (ci, f0 :: f1 :: f2 :: f3 :: f4 :: f5 :: f6 :: f7 :: f8 :: f9 :: f10 :: f11 :: f12 :: f13 :: f14 :: f15 :: f16 :: f17 :: f18 :: f19 :: f20 :: f21 :: f22 :: f23 :: r))) (hn1 : narrow ty v = v) (hf : fits ty v = true) (kk : PW K (pc + 3) ls st (va_up h a (some (.inr (ci, f0 :: f1 :: f2 :: f3 :: f4 :: f5 :: f6 :: f7 :: f8 :: f9 :: f10 :: f11 :: f12 :: f13 :: f14 :: f15 :: f16 :: f17 :: f18 :: f19 :: f20 :: f21 :: f22 :: v :: r)))) n ms) : PW K pc ls (v :: .ref a :: st) h n ms := pw_putF F hi d ha (by simp) hn1 hf kk
end PWP
-- ---- ends and beginnings of methods
abbrev pZ (E : EV) (n' : Nat) (Q : Option Value → HP → Prop) : List Frame → Array Value → State → Nat → Nat → State → Prop := fun below args s mc mS => MQ below (pQc E n' Q) args s mc mS (pA E)
abbrev KX (E : EV) (M : MR) (n' : Nat) (Q : Option Value → HP → Prop) : MX := (E, M, fun _ _ => True, pZ E n' Q, n')
section PWE
variable {E : EV} {M : MR} {pc : Nat} {ls : List Value} {h : HP} {n : Nat} {Q : Option Value → HP → Prop}

theorem pw_iret {v : Int32} (d : decode (mC M) pc = .ok (.ireturn, 1)) (hT : mT M = some .int) (hq : Q (some (.int v)) h) : PW (KX E M n Q) pc ls ([.int v]) h n 0 := by
  intro p e s m args below meth c X Y R r1 r2 H locs lsA cells slots hS hR hL hn
  have e1 : R.cells = cells := by have := hn.2.2.1; simp at this; omega
  have e2 : R.slots = slots := by have := hn.2.2.2; omega
  have hlk := X.2.2.2.2.2.1
  show W _ _ _ _ _ _ _ _ _ _ _ _ _ _ (MQ below (pQc E n Q) args s R.cells R.slots (pA E)) _
  rw [e1, e2]
  exact W.iret X.1 X.2.1 (X.2.2.1.trans hT) (fun t ht hW => ⟨⟨_, h, rfl, hq, by rw [ht]; exact hR⟩, hS.F ht⟩) hS.2.2 d (hlocks := hlk)
theorem pw_zret {v : Int32} {ty : FieldType} (d : decode (mC M) pc = .ok (.ireturn, 1)) (hT : mT M = some ty) (hnr : narrow ty (.int v) = .int v) (hq : Q (some (.int v)) h) : PW (KX E M n Q) pc ls ([.int v]) h n 0 := by
  intro p e s m args below meth c X Y R r1 r2 H locs lsA cells slots hS hR hL hn
  have e1 : R.cells = cells := by have := hn.2.2.1; simp at this; omega
  have e2 : R.slots = slots := by have := hn.2.2.2; omega
  have hlk := X.2.2.2.2.2.1
  show W _ _ _ _ _ _ _ _ _ _ _ _ _ _ (MQ below (pQc E n Q) args s R.cells R.slots (pA E)) _
  rw [e1, e2]
  exact W.zret X.1 X.2.1 (X.2.2.1.trans hT) hnr (fun t ht hW => ⟨⟨_, h, rfl, hq, by rw [ht]; exact hR⟩, hS.F ht⟩) hS.2.2 d (hlocks := hlk)
theorem pw_lret {v : Int64} (d : decode (mC M) pc = .ok (.lreturn, 1)) (hT : mT M = some .long) (hq : Q (some (.long v)) h) : PW (KX E M n Q) pc ls ([.long v]) h n 0 := by
  intro p e s m args below meth c X Y R r1 r2 H locs lsA cells slots hS hR hL hn
  have e1 : R.cells = cells := by have := hn.2.2.1; simp at this; omega
  have e2 : R.slots = slots := by have := hn.2.2.2; omega
  have hlk := X.2.2.2.2.2.1
  show W _ _ _ _ _ _ _ _ _ _ _ _ _ _ (MQ below (pQc E n Q) args s R.cells R.slots (pA E)) _
  rw [e1, e2]
  exact W.lret X.1 X.2.1 (X.2.2.1.trans hT) (fun t ht hW => ⟨⟨_, h, rfl, hq, by rw [ht]; exact hR⟩, hS.F ht⟩) hS.2.2 d (hlocks := hlk)
theorem pw_vret (d : decode (mC M) pc = .ok (.return_, 1)) (hT : mT M = none) (hq : Q (none) h) : PW (KX E M n Q) pc ls ([]) h n 0 := by
  intro p e s m args below meth c X Y R r1 r2 H locs lsA cells slots hS hR hL hn
  have e1 : R.cells = cells := by have := hn.2.2.1; simp at this; omega
  have e2 : R.slots = slots := by have := hn.2.2.2; omega
  have hlk := X.2.2.2.2.2.1
  show W _ _ _ _ _ _ _ _ _ _ _ _ _ _ (MQ below (pQc E n Q) args s R.cells R.slots (pA E)) _
  rw [e1, e2]
  exact W.vret X.1 X.2.1 (X.2.2.1.trans hT) (fun t ht hW => ⟨⟨_, h, rfl, hq, by rw [ht]; exact hR⟩, hS.F ht⟩) hS.2.2 d (hlocks := hlk)
theorem pw_aret {v : Nat} {cN : String} (d : decode (mC M) pc = .ok (.areturn, 1)) (hT : mT M = some (.object cN)) (hq : Q (some (.ref v)) h) : PW (KX E M n Q) pc ls ([.ref v]) h n 0 := by
  intro p e s m args below meth c X Y R r1 r2 H locs lsA cells slots hS hR hL hn
  have e1 : R.cells = cells := by have := hn.2.2.1; simp at this; omega
  have e2 : R.slots = slots := by have := hn.2.2.2; omega
  have hlk := X.2.2.2.2.2.1
  show W _ _ _ _ _ _ _ _ _ _ _ _ _ _ (MQ below (pQc E n Q) args s R.cells R.slots (pA E)) _
  rw [e1, e2]
  exact W.aret X.1 X.2.1 (X.2.2.1.trans hT) (Or.inl ⟨_, rfl⟩) (Or.inr ⟨_, rfl⟩) (fun t ht hW => ⟨⟨_, h, rfl, hq, by rw [ht]; exact hR⟩, hS.F ht⟩) hS.2.2 d (hlocks := hlk)
def entL : List Value → List Value
  | [] => []
  | v :: vs => if v.category = 2 then v :: .null :: entL vs else v :: entL vs
theorem entL_mem : ∀ (vs : List Value) (o i : Nat) (v : Value), (entL vs)[i]? = some v → v ≠ .null → (o + i, v) ∈ lv_args o vs
  | [], o, i, v, h, _ => by simp [entL] at h
  | a :: vs, o, i, v, h, hv => by
    unfold entL at h
    unfold lv_args
    by_cases hc : a.category = 2
    · simp only [hc, if_true] at h ⊢
      match i, h with
      | 0, h => simp at h; subst h; exact List.mem_cons_self
      | 1, h => simp at h; exact absurd h.symm hv
      | i + 2, h =>
        have := entL_mem vs (o + 2) i v (by simpa using h) hv
        refine List.mem_cons_of_mem _ ?_
        rw [show o + (i + 2) = o + 2 + i by omega]
        exact this
    · simp only [hc, if_false] at h ⊢
      match i, h with
      | 0, h => simp at h; subst h; exact List.mem_cons_self
      | i + 1, h =>
        have := entL_mem vs (o + 1) i v (by simpa using h) hv
        refine List.mem_cons_of_mem _ ?_
        rw [show o + (i + 1) = o + 1 + i by omega]
        exact this
theorem PM.of {args : List Value} {n' ms : Nat} (ls : List Value) (hp : plainName (mY M).cls = true) (hlen : (lg_sl args).length ≤ mL M) (hls : ls = entL args ++ List.replicate (mL M - (entL args).length) .null) (k : PW (KX E M n' Q) 0 ls [] h n ms) : PM E M args h n n' ms Q := by
  intro hnn
  refine Met.ofW (cc := mC M) (maxL := mL M) (ret := mT M) hp rfl ?_
  intro p e s m av below meth c s₁ B hml hv
  obtain ⟨rfl, hK, hF, hR⟩ := hv
  have hts := atoms_spec (ws := mW M) B.pre
  have hl := lv_entry args hlen
  rw [lg_entry_eq]
  refine k p e s m args.toArray below meth c ⟨B.exec, B.bytes, B.returns, hml, findClass_of_methodNamed B.named, B.notSynchronized, (name_of_methodNamed B.named B.method).1, fun w hw => hts w (List.mem_cons_of_mem _ hw), hK, hF⟩ trivial _ rfl rfl _ _ _ _ _ va_S.rf hR ⟨hl.1, hl.2.1, fun i v hv hne => ?_⟩ ⟨by rw [hR.1]; omega, hnn, by show 0 + _ = _; simp [KX, headSpec], by show 0 + ms = _; simp [headSpec]⟩
  refine hl.2.2 (i, v) ?_
  rw [hls] at hv
  by_cases hi : i < (entL args).length
  · rw [List.getElem?_append_left hi] at hv
    have := entL_mem args 0 i v hv hne
    simpa using this
  · rw [List.getElem?_append_right (by omega)] at hv
    have := List.mem_of_getElem? hv
    simp at this
    exact absurd this.2 hne
end PWE
-- ---- calls
theorem tbl_good : ∀ w ∈ tbl, w ∈ tbl ∧ ((w.onTables && w.keeps) = true ∨ ∃ ty, w = .arrayClass ty) := fun w hw => ⟨hw, good_of_word (List.mem_filter.mp hw).2⟩
theorem mW_good {M : MR} (hc : Cond.code (mY M) (mC M) (mL M) (mT M) ∈ tbl) : GoodIn tbl (mW M) := by
  intro w hw
  rcases List.mem_cons.mp hw with rfl | hw
  · exact tbl_good _ hc
  · exact tbl_good _ hw
def CL (own : String) (idx : Nat) (M : MR) (na : Nat) : Prop := Cond.methodLink own idx (mY M) ∈ tbl ∧ Cond.initialized (mY M).cls ∈ tbl ∧ Cond.code (mY M) (mC M) (mL M) (mT M) ∈ tbl ∧ ((mY M).cls ≠ "java/lang/invoke/MethodHandle" ∧ (mY M).cls ≠ "java/lang/invoke/VarHandle" ∧ (parseMethodDescriptor (mY M).desc).map (fun d => d.parameters.length) = some na)
def CLN (own : String) (idx : Nat) (M : MR) (na : Nat) (host : String) : Prop := Cond.methodLinkNest own idx (mY M) host ∈ nst ∧ Cond.initialized (mY M).cls ∈ tbl ∧ Cond.code (mY M) (mC M) (mL M) (mT M) ∈ tbl ∧ ((mY M).cls ≠ "java/lang/invoke/MethodHandle" ∧ (mY M).cls ≠ "java/lang/invoke/VarHandle" ∧ (parseMethodDescriptor (mY M).desc).map (fun d => d.parameters.length) = some na)
def CV (own : String) (idx : Nat) (M : MR) (na : Nat) : Prop := CL own idx M na ∧ Cond.instanceMethod (mY M) ∈ tbl ∧ Cond.selects (mY M).cls (mY M) (mY M) ∈ tbl
def CS (own : String) (idx : Nat) (M : MR) (na : Nat) : Prop := CL own idx M na ∧ Cond.static (mY M) ∈ tbl
def CI (own : String) (idx : Nat) (M : MR) (na : Nat) : Prop := CL own idx M na ∧ (mY M).name = "<init>" ∧ Cond.instanceMethod (mY M) ∈ tbl ∧ mT M = none
def CSN (own : String) (idx : Nat) (M : MR) (na : Nat) : Prop := ∃ host, CLN own idx M na host ∧ Cond.static (mY M) ∈ tbl
def CIN (own : String) (idx : Nat) (M : MR) (na : Nat) : Prop := ∃ host, CLN own idx M na host ∧ (mY M).name = "<init>" ∧ Cond.instanceMethod (mY M) ∈ tbl ∧ mT M = none
theorem pPc_blind {E : EV} {av : List Value} {h : HP} {n : Nat} : FrameBlind (va_Pc av (pPc E h n)) := by
  intro a U g mk q
  obtain ⟨q0, qK, qF, qR⟩ := q
  exact ⟨q0, pK.same (s := U) (U := U.calling g mk a) rfl qK, pF.moved (u := U) (U := U.calling g mk a) (Vm.Alike.refl U.vm) qF, qR⟩
theorem pPc_at {E : EV} {M : MR} {p : Program} {s : State} {m : MethodId} {args : Array Value} {meth : Method} {c : Code} (X : pCX E M p s m args meth c) {H : Heap} {locs : List Loc} (hS : va_S (pA E) s.heap H locs) {h : HP} {n : Nat} (hR : pR E h n H) (av : List Value) : ∀ U : State, U.heap = H → s.WarmedH U.vm → va_Pc av (pPc E h n) av.toArray U := by
  intro U hU hW
  refine ⟨rfl, pK.warm hW X.2.2.2.2.2.2.2.2.1, ?_, by rw [hU]; exact hR⟩
  rw [hU]
  exact pF.moved hW.alike (pF.kept X.2.2.2.2.2.2.2.2.2 hS.1 (fun a h1 h2 => hS.2.1 a h1 h2))
section PWCall
variable {K : MX} {pc : Nat} {ls st : List Value} {h : HP} {n ms : Nat}
theorem pw_run {p : Program} {e : Env} {s : State} {m : MethodId} {args : Array Value} {below : List Frame} {meth : Method} {c : Code} {R : Room} {H : Heap} {locs : List Loc} {lsA : Array Slot} {cells slots n1 m1 : Nat} {rest : List Value} {a : Array Value} {Q' : Option Value → HP → Prop} (X : pCX K.1 K.2.1 p s m args meth c) (Y : K.2.2.1 args s) (r1 : R.frames = mFr K.2.1) (r2 : R.locals = mLo K.2.1) (hS : va_S (pA K.1) s.heap H locs) (hR : pR K.1 h n H) (hL : pL lsA (mL K.2.1) ls) (hn : n = s.heap.size + cells ∧ n ≤ K.2.2.2.2 ∧ cells + (K.2.2.2.2 - n) = R.cells ∧ slots + ms = R.slots) (hn1 : n ≤ n1) (hn2 : n1 ≤ K.2.2.2.2) (hm1 : m1 ≤ ms)
    (run : va_Run p (eL K.1) e R s m args below meth c H locs cells slots (n1 - n) m1 (F0 m pc lsA st) rest (pQc K.1 n1 Q' a) (pA K.1)) (k : ∀ v h', Q' v h' → PW K (pc + 3) ls (v.toList ++ rest) h' n1 (ms - m1)) : W p (eL K.1) e R s m args below meth c H locs cells slots (K.2.2.2.1 below args s R.cells R.slots) (F0 m pc lsA st) := by
  intro T hT X0
  obtain ⟨v, st₀, t, T', L, h0, X', hL', e1, e2, ⟨⟨v2, h', hv, hq, hr'⟩, hz, hk⟩, st⟩ := run T hT X0
  cases hv
  rw [h0] at hz hk
  obtain ⟨t2, a1, b1⟩ := k v h' hq p e s m args below meth c X Y R r1 r2 T'.heap (locs ++ L) lsA (cells + (n1 - n)) (slots + m1) ⟨Nat.le_trans hS.1 (by rw [e1]; exact hz), fun q h1 h2 => by rw [e1, hk q (Nat.lt_of_lt_of_le h1 hS.1) h2]; exact hS.2.1 q h1 h2, fun q hq => by
      rcases List.mem_append.mp hq with h | h
      · exact hS.2.2 q h
      · exact hL' q h⟩ (by rw [e1]; exact hr') hL ⟨by omega, hn2, by omega, by omega⟩ T' rfl X'
  exact ⟨t2, st t2 a1, b1⟩

theorem pw_callV {idx n1 m1 : Nat} {M' : MR} {As rest : List Value} {a ci : Nat} {fs : List Value} {Q' : Option Value → HP → Prop} {na : Nat} (cl : CV (mY K.2.1).cls idx M' na) (d : decode (mC K.2.1) pc = .ok (.invokevirtual idx, 3)) (ha : h a = some (.inr (ci, fs))) (hC : (vwCl[ci]?).map (·.1) = some (mY M').cls) (hM : PM K.1 M' (.ref a :: As) h n n1 m1 Q') (hna : As.length = na) (hst : st = As.reverse ++ .ref a :: rest) (hw : (rest.map fun v => v.category).sum ≤ 8) (hr : mFr M' + 1 ≤ mFr K.2.1 ∧ 8 + (mL M' + 11) + mLo M' ≤ mLo K.2.1) (hn1 : n ≤ n1) (hn2 : n1 ≤ K.2.2.2.2) (hm1 : m1 ≤ ms) (k : ∀ v h', Q' v h' → PW K (pc + 3) ls (v.toList ++ rest) h' n1 (ms - m1)) : PW K pc ls st h n ms := by
  intro p e s m args below meth c X Y R r1 r2 H locs lsA cells slots hS hR hL hn
  subst hst hna
  refine pw_run (a := (.ref a :: As : List Value).toArray) X Y r1 r2 hS hR hL hn hn1 hn2 hm1 ?_ k
  have hin : cells + (n1 - n) ≤ R.cells ∧ slots + m1 ≤ R.slots := ⟨by omega, by omega⟩
  have hrm : mFr M' + 1 ≤ R.frames ∧ 8 + (mL M' + 11) + mLo M' ≤ R.locals := by rw [r1, r2]; exact hr
  have htt := X.2.2.2.2.2.2.2.1
  have hfx : CallFix p m c (mC K.2.1) (mL K.2.1) s args tbl (mY K.2.1).cls := ⟨X.1, X.2.1, X.2.2.2.1, X.2.2.2.2.1, htt⟩
  obtain ⟨q, hq1, hq2⟩ := Option.map_eq_some_iff.mp hC
  exact va_runV (As := As) hfx (hM hn1) ⟨callB_of _ htt (mW_good cl.1.2.2.1) rfl rfl rfl (htt _ cl.1.2.1) (htt _ cl.1.1) cl.1.2.2.2 hrm, htt _ cl.2.1, htt _ cl.2.2⟩ ⟨pPc_blind, hq2 ▸ va_recv X.2.2.2.2.2.2.2.2.1.1 hR.2.2.2 hq1 (hR.at ha), pPc_at X hS hR _⟩ rfl rfl hL.1 rfl (lv_room hw) d hin
theorem pw_callS {idx n1 m1 : Nat} {M' : MR} {As rest : List Value} {Q' : Option Value → HP → Prop} {na : Nat} (cl : CS (mY K.2.1).cls idx M' na) (d : decode (mC K.2.1) pc = .ok (.invokestatic idx, 3)) (hM : PM K.1 M' (As) h n n1 m1 Q') (hna : As.length = na) (hst : st = As.reverse ++ rest) (hw : (rest.map fun v => v.category).sum ≤ 8) (hr : mFr M' + 1 ≤ mFr K.2.1 ∧ 8 + (mL M' + 11) + mLo M' ≤ mLo K.2.1) (hn1 : n ≤ n1) (hn2 : n1 ≤ K.2.2.2.2) (hm1 : m1 ≤ ms) (k : ∀ v h', Q' v h' → PW K (pc + 3) ls (v.toList ++ rest) h' n1 (ms - m1)) : PW K pc ls st h n ms := by
  intro p e s m args below meth c X Y R r1 r2 H locs lsA cells slots hS hR hL hn
  subst hst hna
  refine pw_run (a := (As : List Value).toArray) X Y r1 r2 hS hR hL hn hn1 hn2 hm1 ?_ k
  have hin : cells + (n1 - n) ≤ R.cells ∧ slots + m1 ≤ R.slots := ⟨by omega, by omega⟩
  have hrm : mFr M' + 1 ≤ R.frames ∧ 8 + (mL M' + 11) + mLo M' ≤ R.locals := by rw [r1, r2]; exact hr
  have htt := X.2.2.2.2.2.2.2.1
  have hfx : CallFix p m c (mC K.2.1) (mL K.2.1) s args tbl (mY K.2.1).cls := ⟨X.1, X.2.1, X.2.2.2.1, X.2.2.2.2.1, htt⟩
  exact va_runS (As := As) hfx (hM hn1) ⟨callB_of _ htt (mW_good cl.1.2.2.1) rfl rfl rfl (htt _ cl.1.2.1) (htt _ cl.1.1) cl.1.2.2.2 hrm, htt _ cl.2⟩ ⟨pPc_blind, pPc_at X hS hR _⟩ rfl rfl hL.1 rfl (lv_room hw) d hin
theorem pw_callSN {idx n1 m1 : Nat} {M' : MR} {As rest : List Value} {Q' : Option Value → HP → Prop} {na : Nat} (cl : CSN (mY K.2.1).cls idx M' na) (d : decode (mC K.2.1) pc = .ok (.invokestatic idx, 3)) (hM : PM K.1 M' (As) h n n1 m1 Q') (hna : As.length = na) (hst : st = As.reverse ++ rest) (hw : (rest.map fun v => v.category).sum ≤ 8) (hr : mFr M' + 1 ≤ mFr K.2.1 ∧ 8 + (mL M' + 11) + mLo M' ≤ mLo K.2.1) (hn1 : n ≤ n1) (hn2 : n1 ≤ K.2.2.2.2) (hm1 : m1 ≤ ms) (k : ∀ v h', Q' v h' → PW K (pc + 3) ls (v.toList ++ rest) h' n1 (ms - m1)) : PW K pc ls st h n ms := by
  intro p e s m args below meth c X Y R r1 r2 H locs lsA cells slots hS hR hL hn
  subst hst hna
  refine pw_run (a := (As : List Value).toArray) X Y r1 r2 hS hR hL hn hn1 hn2 hm1 ?_ k
  have hin : cells + (n1 - n) ≤ R.cells ∧ slots + m1 ≤ R.slots := ⟨by omega, by omega⟩
  have hrm : mFr M' + 1 ≤ R.frames ∧ 8 + (mL M' + 11) + mLo M' ≤ R.locals := by rw [r1, r2]; exact hr
  have htt := X.2.2.2.2.2.2.2.1
  have hfx : CallFix p m c (mC K.2.1) (mL K.2.1) s args tbl (mY K.2.1).cls := ⟨X.1, X.2.1, X.2.2.2.1, X.2.2.2.2.1, htt⟩
  obtain ⟨host, cl1, cl2⟩ := cl
  exact va_runSN (As := As) hfx (hM hn1) ⟨va_cnB _ htt (mW_good cl1.2.2.1) rfl rfl rfl (X.2.2.2.2.2.2.2.2.1.2.1 _ cl1.1) (htt _ cl1.2.1) cl1.2.2.2 hrm, htt _ cl2, trivial⟩ ⟨pPc_blind, pPc_at X hS hR _⟩ rfl rfl hL.1 rfl (lv_room hw) d hin
theorem pw_callI {idx n1 m1 : Nat} {M' : MR} {As rest : List Value} {a : Nat} {Q' : Option Value → HP → Prop} {na : Nat} (cl : CI (mY K.2.1).cls idx M' na) (d : decode (mC K.2.1) pc = .ok (.invokespecial idx, 3)) (hM : PM K.1 M' (.ref a :: As) h n n1 m1 Q') (hna : As.length = na) (hst : st = As.reverse ++ .ref a :: rest) (hw : (rest.map fun v => v.category).sum ≤ 8) (hr : mFr M' + 1 ≤ mFr K.2.1 ∧ 8 + (mL M' + 11) + mLo M' ≤ mLo K.2.1) (hn1 : n ≤ n1) (hn2 : n1 ≤ K.2.2.2.2) (hm1 : m1 ≤ ms) (k : ∀ v h', Q' v h' → PW K (pc + 3) ls (v.toList ++ rest) h' n1 (ms - m1)) : PW K pc ls st h n ms := by
  intro p e s m args below meth c X Y R r1 r2 H locs lsA cells slots hS hR hL hn
  subst hst hna
  refine pw_run (a := (.ref a :: As : List Value).toArray) X Y r1 r2 hS hR hL hn hn1 hn2 hm1 ?_ k
  have hin : cells + (n1 - n) ≤ R.cells ∧ slots + m1 ≤ R.slots := ⟨by omega, by omega⟩
  have hrm : mFr M' + 1 ≤ R.frames ∧ 8 + (mL M' + 11) + mLo M' ≤ R.locals := by rw [r1, r2]; exact hr
  have htt := X.2.2.2.2.2.2.2.1
  have hfx : CallFix p m c (mC K.2.1) (mL K.2.1) s args tbl (mY K.2.1).cls := ⟨X.1, X.2.1, X.2.2.2.1, X.2.2.2.2.1, htt⟩
  obtain ⟨cl1, cl2, cl3, cl4⟩ := cl
  have hc0 : mW M' = Cond.code (mY M') (mC M') (mL M') none :: tbl := by rw [mW, cl4]
  exact va_runI (As := As) hfx (hM hn1) ⟨callB_of _ htt (mW_good cl1.2.2.1) hc0 rfl rfl (htt _ cl1.2.1) (htt _ cl1.1) cl1.2.2.2 hrm, cl2, htt _ cl3⟩ ⟨pPc_blind, pPc_at X hS hR _⟩ rfl rfl hL.1 rfl (lv_room hw) d hin
theorem pw_callIN {idx n1 m1 : Nat} {M' : MR} {As rest : List Value} {a : Nat} {Q' : Option Value → HP → Prop} {na : Nat} (cl : CIN (mY K.2.1).cls idx M' na) (d : decode (mC K.2.1) pc = .ok (.invokespecial idx, 3)) (hM : PM K.1 M' (.ref a :: As) h n n1 m1 Q') (hna : As.length = na) (hst : st = As.reverse ++ .ref a :: rest) (hw : (rest.map fun v => v.category).sum ≤ 8) (hr : mFr M' + 1 ≤ mFr K.2.1 ∧ 8 + (mL M' + 11) + mLo M' ≤ mLo K.2.1) (hn1 : n ≤ n1) (hn2 : n1 ≤ K.2.2.2.2) (hm1 : m1 ≤ ms) (k : ∀ v h', Q' v h' → PW K (pc + 3) ls (v.toList ++ rest) h' n1 (ms - m1)) : PW K pc ls st h n ms := by
  intro p e s m args below meth c X Y R r1 r2 H locs lsA cells slots hS hR hL hn
  subst hst hna
  refine pw_run (a := (.ref a :: As : List Value).toArray) X Y r1 r2 hS hR hL hn hn1 hn2 hm1 ?_ k
  have hin : cells + (n1 - n) ≤ R.cells ∧ slots + m1 ≤ R.slots := ⟨by omega, by omega⟩
  have hrm : mFr M' + 1 ≤ R.frames ∧ 8 + (mL M' + 11) + mLo M' ≤ R.locals := by rw [r1, r2]; exact hr
  have htt := X.2.2.2.2.2.2.2.1
  have hfx : CallFix p m c (mC K.2.1) (mL K.2.1) s args tbl (mY K.2.1).cls := ⟨X.1, X.2.1, X.2.2.2.1, X.2.2.2.2.1, htt⟩
  obtain ⟨host, cl1, cl2, cl3, cl4⟩ := cl
  have hc0 : mW M' = Cond.code (mY M') (mC M') (mL M') none :: tbl := by rw [mW, cl4]
  exact va_runIN (As := As) hfx (hM hn1) ⟨va_cnB _ htt (mW_good cl1.2.2.1) hc0 rfl rfl (X.2.2.2.2.2.2.2.2.1.2.1 _ cl1.1) (htt _ cl1.2.1) cl1.2.2.2 hrm, cl2, htt _ cl3⟩ ⟨pPc_blind, pPc_at X hS hR _⟩ rfl rfl hL.1 rfl (lv_room hw) d hin
theorem pw_callV_i {idx : Nat} {M' : MR} {As rest : List Value} {r : Int32} {a ci : Nat} {fs : List Value} {h1 : HP} {na : Nat} (cl : CV (mY K.2.1).cls idx M' na) (d : decode (mC K.2.1) pc = .ok (.invokevirtual idx, 3)) (ha : h a = some (.inr (ci, fs))) (hC : (vwCl[ci]?).map (·.1) = some (mY M').cls) (hM : PM K.1 M' (.ref a :: As) h n n 0 (fun v' h' => v' = some (.int r) ∧ h' = h1)) (hna : As.length = na) (hst : st = As.reverse ++ .ref a :: rest) (hw : (rest.map fun v => v.category).sum ≤ 8) (hr : mFr M' + 1 ≤ mFr K.2.1 ∧ 8 + (mL M' + 11) + mLo M' ≤ mLo K.2.1) (k : PW K (pc + 3) ls (.int r :: rest) h1 n ms) : PW K pc ls st h n ms := by
  intro p e s m args below meth c X Y R r1 r2 H locs lsA cells slots hS hR hL hn
  exact pw_callV cl d ha hC hM hna hst hw hr (Nat.le_refl _) hn.2.1 (Nat.zero_le _) (fun v h' q => by obtain ⟨rfl, rfl⟩ := q; exact k) p e s m args below meth c X Y R r1 r2 H locs lsA cells slots hS hR hL hn
theorem pw_callV_l {idx : Nat} {M' : MR} {As rest : List Value} {r : Int64} {a ci : Nat} {fs : List Value} {h1 : HP} {na : Nat} (cl : CV (mY K.2.1).cls idx M' na) (d : decode (mC K.2.1) pc = .ok (.invokevirtual idx, 3)) (ha : h a = some (.inr (ci, fs))) (hC : (vwCl[ci]?).map (·.1) = some (mY M').cls) (hM : PM K.1 M' (.ref a :: As) h n n 0 (fun v' h' => v' = some (.long r) ∧ h' = h1)) (hna : As.length = na) (hst : st = As.reverse ++ .ref a :: rest) (hw : (rest.map fun v => v.category).sum ≤ 8) (hr : mFr M' + 1 ≤ mFr K.2.1 ∧ 8 + (mL M' + 11) + mLo M' ≤ mLo K.2.1) (k : PW K (pc + 3) ls (.long r :: rest) h1 n ms) : PW K pc ls st h n ms := by
  intro p e s m args below meth c X Y R r1 r2 H locs lsA cells slots hS hR hL hn
  exact pw_callV cl d ha hC hM hna hst hw hr (Nat.le_refl _) hn.2.1 (Nat.zero_le _) (fun v h' q => by obtain ⟨rfl, rfl⟩ := q; exact k) p e s m args below meth c X Y R r1 r2 H locs lsA cells slots hS hR hL hn
theorem pw_callV_v {idx : Nat} {M' : MR} {As rest : List Value} {a ci : Nat} {fs : List Value} {h1 : HP} {na : Nat} (cl : CV (mY K.2.1).cls idx M' na) (d : decode (mC K.2.1) pc = .ok (.invokevirtual idx, 3)) (ha : h a = some (.inr (ci, fs))) (hC : (vwCl[ci]?).map (·.1) = some (mY M').cls) (hM : PM K.1 M' (.ref a :: As) h n n 0 (fun v' h' => v' = none ∧ h' = h1)) (hna : As.length = na) (hst : st = As.reverse ++ .ref a :: rest) (hw : (rest.map fun v => v.category).sum ≤ 8) (hr : mFr M' + 1 ≤ mFr K.2.1 ∧ 8 + (mL M' + 11) + mLo M' ≤ mLo K.2.1) (k : PW K (pc + 3) ls (rest) h1 n ms) : PW K pc ls st h n ms := by
  intro p e s m args below meth c X Y R r1 r2 H locs lsA cells slots hS hR hL hn
  exact pw_callV cl d ha hC hM hna hst hw hr (Nat.le_refl _) hn.2.1 (Nat.zero_le _) (fun v h' q => by obtain ⟨rfl, rfl⟩ := q; exact k) p e s m args below meth c X Y R r1 r2 H locs lsA cells slots hS hR hL hn
theorem pw_callV_a {idx : Nat} {M' : MR} {As rest : List Value} {r : Nat} {a ci : Nat} {fs : List Value} {h1 : HP} {na : Nat} (cl : CV (mY K.2.1).cls idx M' na) (d : decode (mC K.2.1) pc = .ok (.invokevirtual idx, 3)) (ha : h a = some (.inr (ci, fs))) (hC : (vwCl[ci]?).map (·.1) = some (mY M').cls) (hM : PM K.1 M' (.ref a :: As) h n n 0 (fun v' h' => v' = some (.ref r) ∧ h' = h1)) (hna : As.length = na) (hst : st = As.reverse ++ .ref a :: rest) (hw : (rest.map fun v => v.category).sum ≤ 8) (hr : mFr M' + 1 ≤ mFr K.2.1 ∧ 8 + (mL M' + 11) + mLo M' ≤ mLo K.2.1) (k : PW K (pc + 3) ls (.ref r :: rest) h1 n ms) : PW K pc ls st h n ms := by
  intro p e s m args below meth c X Y R r1 r2 H locs lsA cells slots hS hR hL hn
  exact pw_callV cl d ha hC hM hna hst hw hr (Nat.le_refl _) hn.2.1 (Nat.zero_le _) (fun v h' q => by obtain ⟨rfl, rfl⟩ := q; exact k) p e s m args below meth c X Y R r1 r2 H locs lsA cells slots hS hR hL hn
theorem pw_callS_i {idx : Nat} {M' : MR} {As rest : List Value} {r : Int32} {h1 : HP} {na : Nat} (cl : CS (mY K.2.1).cls idx M' na) (d : decode (mC K.2.1) pc = .ok (.invokestatic idx, 3)) (hM : PM K.1 M' (As) h n n 0 (fun v' h' => v' = some (.int r) ∧ h' = h1)) (hna : As.length = na) (hst : st = As.reverse ++ rest) (hw : (rest.map fun v => v.category).sum ≤ 8) (hr : mFr M' + 1 ≤ mFr K.2.1 ∧ 8 + (mL M' + 11) + mLo M' ≤ mLo K.2.1) (k : PW K (pc + 3) ls (.int r :: rest) h1 n ms) : PW K pc ls st h n ms := by
  intro p e s m args below meth c X Y R r1 r2 H locs lsA cells slots hS hR hL hn
  exact pw_callS cl d hM hna hst hw hr (Nat.le_refl _) hn.2.1 (Nat.zero_le _) (fun v h' q => by obtain ⟨rfl, rfl⟩ := q; exact k) p e s m args below meth c X Y R r1 r2 H locs lsA cells slots hS hR hL hn
theorem pw_callS_l {idx : Nat} {M' : MR} {As rest : List Value} {r : Int64} {h1 : HP} {na : Nat} (cl : CS (mY K.2.1).cls idx M' na) (d : decode (mC K.2.1) pc = .ok (.invokestatic idx, 3)) (hM : PM K.1 M' (As) h n n 0 (fun v' h' => v' = some (.long r) ∧ h' = h1)) (hna : As.length = na) (hst : st = As.reverse ++ rest) (hw : (rest.map fun v => v.category).sum ≤ 8) (hr : mFr M' + 1 ≤ mFr K.2.1 ∧ 8 + (mL M' + 11) + mLo M' ≤ mLo K.2.1) (k : PW K (pc + 3) ls (.long r :: rest) h1 n ms) : PW K pc ls st h n ms := by
  intro p e s m args below meth c X Y R r1 r2 H locs lsA cells slots hS hR hL hn
  exact pw_callS cl d hM hna hst hw hr (Nat.le_refl _) hn.2.1 (Nat.zero_le _) (fun v h' q => by obtain ⟨rfl, rfl⟩ := q; exact k) p e s m args below meth c X Y R r1 r2 H locs lsA cells slots hS hR hL hn
theorem pw_callS_v {idx : Nat} {M' : MR} {As rest : List Value} {h1 : HP} {na : Nat} (cl : CS (mY K.2.1).cls idx M' na) (d : decode (mC K.2.1) pc = .ok (.invokestatic idx, 3)) (hM : PM K.1 M' (As) h n n 0 (fun v' h' => v' = none ∧ h' = h1)) (hna : As.length = na) (hst : st = As.reverse ++ rest) (hw : (rest.map fun v => v.category).sum ≤ 8) (hr : mFr M' + 1 ≤ mFr K.2.1 ∧ 8 + (mL M' + 11) + mLo M' ≤ mLo K.2.1) (k : PW K (pc + 3) ls (rest) h1 n ms) : PW K pc ls st h n ms := by
  intro p e s m args below meth c X Y R r1 r2 H locs lsA cells slots hS hR hL hn
  exact pw_callS cl d hM hna hst hw hr (Nat.le_refl _) hn.2.1 (Nat.zero_le _) (fun v h' q => by obtain ⟨rfl, rfl⟩ := q; exact k) p e s m args below meth c X Y R r1 r2 H locs lsA cells slots hS hR hL hn
theorem pw_callS_a {idx : Nat} {M' : MR} {As rest : List Value} {r : Nat} {h1 : HP} {na : Nat} (cl : CS (mY K.2.1).cls idx M' na) (d : decode (mC K.2.1) pc = .ok (.invokestatic idx, 3)) (hM : PM K.1 M' (As) h n n 0 (fun v' h' => v' = some (.ref r) ∧ h' = h1)) (hna : As.length = na) (hst : st = As.reverse ++ rest) (hw : (rest.map fun v => v.category).sum ≤ 8) (hr : mFr M' + 1 ≤ mFr K.2.1 ∧ 8 + (mL M' + 11) + mLo M' ≤ mLo K.2.1) (k : PW K (pc + 3) ls (.ref r :: rest) h1 n ms) : PW K pc ls st h n ms := by
  intro p e s m args below meth c X Y R r1 r2 H locs lsA cells slots hS hR hL hn
  exact pw_callS cl d hM hna hst hw hr (Nat.le_refl _) hn.2.1 (Nat.zero_le _) (fun v h' q => by obtain ⟨rfl, rfl⟩ := q; exact k) p e s m args below meth c X Y R r1 r2 H locs lsA cells slots hS hR hL hn
theorem pw_callSN_i {idx : Nat} {M' : MR} {As rest : List Value} {r : Int32} {h1 : HP} {na : Nat} (cl : CSN (mY K.2.1).cls idx M' na) (d : decode (mC K.2.1) pc = .ok (.invokestatic idx, 3)) (hM : PM K.1 M' (As) h n n 0 (fun v' h' => v' = some (.int r) ∧ h' = h1)) (hna : As.length = na) (hst : st = As.reverse ++ rest) (hw : (rest.map fun v => v.category).sum ≤ 8) (hr : mFr M' + 1 ≤ mFr K.2.1 ∧ 8 + (mL M' + 11) + mLo M' ≤ mLo K.2.1) (k : PW K (pc + 3) ls (.int r :: rest) h1 n ms) : PW K pc ls st h n ms := by
  intro p e s m args below meth c X Y R r1 r2 H locs lsA cells slots hS hR hL hn
  exact pw_callSN cl d hM hna hst hw hr (Nat.le_refl _) hn.2.1 (Nat.zero_le _) (fun v h' q => by obtain ⟨rfl, rfl⟩ := q; exact k) p e s m args below meth c X Y R r1 r2 H locs lsA cells slots hS hR hL hn
theorem pw_callSN_l {idx : Nat} {M' : MR} {As rest : List Value} {r : Int64} {h1 : HP} {na : Nat} (cl : CSN (mY K.2.1).cls idx M' na) (d : decode (mC K.2.1) pc = .ok (.invokestatic idx, 3)) (hM : PM K.1 M' (As) h n n 0 (fun v' h' => v' = some (.long r) ∧ h' = h1)) (hna : As.length = na) (hst : st = As.reverse ++ rest) (hw : (rest.map fun v => v.category).sum ≤ 8) (hr : mFr M' + 1 ≤ mFr K.2.1 ∧ 8 + (mL M' + 11) + mLo M' ≤ mLo K.2.1) (k : PW K (pc + 3) ls (.long r :: rest) h1 n ms) : PW K pc ls st h n ms := by
  intro p e s m args below meth c X Y R r1 r2 H locs lsA cells slots hS hR hL hn
  exact pw_callSN cl d hM hna hst hw hr (Nat.le_refl _) hn.2.1 (Nat.zero_le _) (fun v h' q => by obtain ⟨rfl, rfl⟩ := q; exact k) p e s m args below meth c X Y R r1 r2 H locs lsA cells slots hS hR hL hn
theorem pw_callSN_v {idx : Nat} {M' : MR} {As rest : List Value} {h1 : HP} {na : Nat} (cl : CSN (mY K.2.1).cls idx M' na) (d : decode (mC K.2.1) pc = .ok (.invokestatic idx, 3)) (hM : PM K.1 M' (As) h n n 0 (fun v' h' => v' = none ∧ h' = h1)) (hna : As.length = na) (hst : st = As.reverse ++ rest) (hw : (rest.map fun v => v.category).sum ≤ 8) (hr : mFr M' + 1 ≤ mFr K.2.1 ∧ 8 + (mL M' + 11) + mLo M' ≤ mLo K.2.1) (k : PW K (pc + 3) ls (rest) h1 n ms) : PW K pc ls st h n ms := by
  intro p e s m args below meth c X Y R r1 r2 H locs lsA cells slots hS hR hL hn
  exact pw_callSN cl d hM hna hst hw hr (Nat.le_refl _) hn.2.1 (Nat.zero_le _) (fun v h' q => by obtain ⟨rfl, rfl⟩ := q; exact k) p e s m args below meth c X Y R r1 r2 H locs lsA cells slots hS hR hL hn
theorem pw_callSN_a {idx : Nat} {M' : MR} {As rest : List Value} {r : Nat} {h1 : HP} {na : Nat} (cl : CSN (mY K.2.1).cls idx M' na) (d : decode (mC K.2.1) pc = .ok (.invokestatic idx, 3)) (hM : PM K.1 M' (As) h n n 0 (fun v' h' => v' = some (.ref r) ∧ h' = h1)) (hna : As.length = na) (hst : st = As.reverse ++ rest) (hw : (rest.map fun v => v.category).sum ≤ 8) (hr : mFr M' + 1 ≤ mFr K.2.1 ∧ 8 + (mL M' + 11) + mLo M' ≤ mLo K.2.1) (k : PW K (pc + 3) ls (.ref r :: rest) h1 n ms) : PW K pc ls st h n ms := by
  intro p e s m args below meth c X Y R r1 r2 H locs lsA cells slots hS hR hL hn
  exact pw_callSN cl d hM hna hst hw hr (Nat.le_refl _) hn.2.1 (Nat.zero_le _) (fun v h' q => by obtain ⟨rfl, rfl⟩ := q; exact k) p e s m args below meth c X Y R r1 r2 H locs lsA cells slots hS hR hL hn
theorem pw_callI_i {idx : Nat} {M' : MR} {As rest : List Value} {r : Int32} {a : Nat} {h1 : HP} {na : Nat} (cl : CI (mY K.2.1).cls idx M' na) (d : decode (mC K.2.1) pc = .ok (.invokespecial idx, 3)) (hM : PM K.1 M' (.ref a :: As) h n n 0 (fun v' h' => v' = some (.int r) ∧ h' = h1)) (hna : As.length = na) (hst : st = As.reverse ++ .ref a :: rest) (hw : (rest.map fun v => v.category).sum ≤ 8) (hr : mFr M' + 1 ≤ mFr K.2.1 ∧ 8 + (mL M' + 11) + mLo M' ≤ mLo K.2.1) (k : PW K (pc + 3) ls (.int r :: rest) h1 n ms) : PW K pc ls st h n ms := by
  intro p e s m args below meth c X Y R r1 r2 H locs lsA cells slots hS hR hL hn
  exact pw_callI cl d hM hna hst hw hr (Nat.le_refl _) hn.2.1 (Nat.zero_le _) (fun v h' q => by obtain ⟨rfl, rfl⟩ := q; exact k) p e s m args below meth c X Y R r1 r2 H locs lsA cells slots hS hR hL hn
theorem pw_callI_l {idx : Nat} {M' : MR} {As rest : List Value} {r : Int64} {a : Nat} {h1 : HP} {na : Nat} (cl : CI (mY K.2.1).cls idx M' na) (d : decode (mC K.2.1) pc = .ok (.invokespecial idx, 3)) (hM : PM K.1 M' (.ref a :: As) h n n 0 (fun v' h' => v' = some (.long r) ∧ h' = h1)) (hna : As.length = na) (hst : st = As.reverse ++ .ref a :: rest) (hw : (rest.map fun v => v.category).sum ≤ 8) (hr : mFr M' + 1 ≤ mFr K.2.1 ∧ 8 + (mL M' + 11) + mLo M' ≤ mLo K.2.1) (k : PW K (pc + 3) ls (.long r :: rest) h1 n ms) : PW K pc ls st h n ms := by
  intro p e s m args below meth c X Y R r1 r2 H locs lsA cells slots hS hR hL hn
  exact pw_callI cl d hM hna hst hw hr (Nat.le_refl _) hn.2.1 (Nat.zero_le _) (fun v h' q => by obtain ⟨rfl, rfl⟩ := q; exact k) p e s m args below meth c X Y R r1 r2 H locs lsA cells slots hS hR hL hn
theorem pw_callI_v {idx : Nat} {M' : MR} {As rest : List Value} {a : Nat} {h1 : HP} {na : Nat} (cl : CI (mY K.2.1).cls idx M' na) (d : decode (mC K.2.1) pc = .ok (.invokespecial idx, 3)) (hM : PM K.1 M' (.ref a :: As) h n n 0 (fun v' h' => v' = none ∧ h' = h1)) (hna : As.length = na) (hst : st = As.reverse ++ .ref a :: rest) (hw : (rest.map fun v => v.category).sum ≤ 8) (hr : mFr M' + 1 ≤ mFr K.2.1 ∧ 8 + (mL M' + 11) + mLo M' ≤ mLo K.2.1) (k : PW K (pc + 3) ls (rest) h1 n ms) : PW K pc ls st h n ms := by
  intro p e s m args below meth c X Y R r1 r2 H locs lsA cells slots hS hR hL hn
  exact pw_callI cl d hM hna hst hw hr (Nat.le_refl _) hn.2.1 (Nat.zero_le _) (fun v h' q => by obtain ⟨rfl, rfl⟩ := q; exact k) p e s m args below meth c X Y R r1 r2 H locs lsA cells slots hS hR hL hn
theorem pw_callI_a {idx : Nat} {M' : MR} {As rest : List Value} {r : Nat} {a : Nat} {h1 : HP} {na : Nat} (cl : CI (mY K.2.1).cls idx M' na) (d : decode (mC K.2.1) pc = .ok (.invokespecial idx, 3)) (hM : PM K.1 M' (.ref a :: As) h n n 0 (fun v' h' => v' = some (.ref r) ∧ h' = h1)) (hna : As.length = na) (hst : st = As.reverse ++ .ref a :: rest) (hw : (rest.map fun v => v.category).sum ≤ 8) (hr : mFr M' + 1 ≤ mFr K.2.1 ∧ 8 + (mL M' + 11) + mLo M' ≤ mLo K.2.1) (k : PW K (pc + 3) ls (.ref r :: rest) h1 n ms) : PW K pc ls st h n ms := by
  intro p e s m args below meth c X Y R r1 r2 H locs lsA cells slots hS hR hL hn
  exact pw_callI cl d hM hna hst hw hr (Nat.le_refl _) hn.2.1 (Nat.zero_le _) (fun v h' q => by obtain ⟨rfl, rfl⟩ := q; exact k) p e s m args below meth c X Y R r1 r2 H locs lsA cells slots hS hR hL hn
theorem pw_objInit {idx a : Nat} (cl : Cond.methodLink (mY K.2.1).cls idx objectInit ∈ tbl) (d : decode (mC K.2.1) pc = .ok (.invokespecial idx, 3)) (hfr : 1 ≤ mFr K.2.1) (hlo : (st.map fun v => v.category).sum + 12 ≤ mLo K.2.1) (kk : PW K (pc + 3) ls st h n ms) : PW K pc ls (.ref a :: st) h n ms := by
  intro p e s m args below meth c X Y R r1 r2 H locs lsA cells slots hS hR hL hn
  have htt := X.2.2.2.2.2.2.2.1
  refine W.objInit X.1 X.2.1 X.2.2.2.2.1 (htt _ cl) (htt _ (by decide +kernel)) (htt _ (by decide +kernel)) rfl (hL.1.trans X.2.2.2.1.symm) rfl d (by rw [r1]; exact hfr) (by rw [r2]; show 2 * 0 + _ + 12 ≤ _; omega) ?_
  exact kk p e s m args below meth c X Y R r1 r2 H locs lsA cells slots hS hR hL hn
end PWCall
end
section
theorem tb {w : Cond} (i : Nat) (h : tables_1[i]? = some w) (g : goodWord w = true) : w ∈ tbl := List.mem_filter.mpr ⟨List.mem_append_right _ (List.mem_of_getElem? h), g⟩
theorem tp {w : Cond} (i : Nat) (h : (k2_sels lw_privs)[i]? = some w) (g : goodWord w = true) : w ∈ tbl := List.mem_filter.mpr ⟨List.mem_append_left _ (List.mem_of_getElem? h), g⟩
theorem tn {w : Cond} (i : Nat) (h : tables_1[i]? = some w) (g : isNest w = true) : w ∈ nst := List.mem_filter.mpr ⟨List.mem_append_right _ (List.mem_of_getElem? h), g⟩
theorem uws {ws : List Cond} (is : List Nat) (h : ws.map some = is.map (fun i => tables_1[i]?)) (g : ws.all goodWord = true) : ∀ w ∈ ws, w ∈ tbl := by
  intro w hw
  obtain ⟨k, hk⟩ := List.getElem?_of_mem hw
  have h1 : (ws.map some)[k]? = some (some w) := by rw [List.getElem?_map, hk]; rfl
  rw [h, List.getElem?_map] at h1
  cases hi : is[k]? with
  | none => rw [hi] at h1; cases h1
  | some i => rw [hi] at h1; exact tb i (Option.some.inj h1) (List.all_eq_true.mp g w hw)
theorem uw_X0 : ∀ w ∈ u_ws RX0 TX0 2, w ∈ tbl := uws [90, 92] (by decide +kernel) (by decide +kernel)
theorem uw_X1 : ∀ w ∈ u_ws RX1 TX1 2, w ∈ tbl := uws [62, 64] (by decide +kernel) (by decide +kernel)
theorem uw_X2 : ∀ w ∈ u_ws RX2 TX2 4, w ∈ tbl := uws [124, 126, 128, 130] (by decide +kernel) (by decide +kernel)
theorem uw_X3 : ∀ w ∈ u_ws RX3 TX3 2, w ∈ tbl := uws [109, 111] (by decide +kernel) (by decide +kernel)
theorem uw_X4 : ∀ w ∈ u_ws RX4 TX4 5, w ∈ tbl := uws [150, 152, 154, 156, 158] (by decide +kernel) (by decide +kernel)
theorem uw_X5 : ∀ w ∈ u_ws RX5 TX5 4, w ∈ tbl := uws [172, 174, 176, 178] (by decide +kernel) (by decide +kernel)
theorem uw_X6 : ∀ w ∈ u_ws RX6 TX6 2, w ∈ tbl := uws [37, 39] (by decide +kernel) (by decide +kernel)
theorem uw_X7 : ∀ w ∈ u_ws RX7 TX7 12, w ∈ tbl := uws [194, 196, 198, 200, 202, 204, 206, 208, 210, 212, 214, 216] (by decide +kernel) (by decide +kernel)
theorem uw_X8 : ∀ w ∈ u_ws RX8 TX8 24, w ∈ tbl := uws [756, 758, 760, 762, 764, 766, 768, 770, 772, 774, 776, 778, 780, 782, 784, 786, 788, 790, 792, 794, 796, 798, 800, 802] (by decide +kernel) (by decide +kernel)
abbrev mX0_init : MR := (yX0_init, cX0_init, 1, (none : Option FieldType), 1, 40)
abbrev mX0_become : MR := (yX0_become, cX0_become, 2, (none : Option FieldType), 1, 40)
abbrev mX0_heldOf : MR := (yX0_heldOf, cX0_heldOf, 4, (some (.int) : Option FieldType), 0, 0)
abbrev mX0_countBy : MR := (yX0_countBy, cX0_countBy, 4, (some (.int) : Option FieldType), 0, 0)
abbrev mX0_hasWeakAlone : MR := (yX0_hasWeakAlone, cX0_hasWeakAlone, 4, (some (.boolean) : Option FieldType), 1, 23)
abbrev mX1_init : MR := (yX1_init, cX1_init, 1, (none : Option FieldType), 1, 40)
abbrev mX1_read : MR := (yX1_read, cX1_read, 7, (some (.int) : Option FieldType), 7, 151)
abbrev mX1_itemAt : MR := (yX1_itemAt, cX1_itemAt, 3, (some (.int) : Option FieldType), 6, 129)
abbrev mX1_wordOf : MR := (yX1_wordOf, cX1_wordOf, 1, (some (.object "java/lang/String") : Option FieldType), 0, 0)
abbrev mX2_init : MR := (yX2_init, cX2_init, 2, (none : Option FieldType), 2, 61)
abbrev mX2_become : MR := (yX2_become, cX2_become, 3, (none : Option FieldType), 2, 61)
abbrev mX2_countNames : MR := (yX2_countNames, cX2_countNames, 3, (some (.int) : Option FieldType), 0, 0)
abbrev mX3_init : MR := (yX3_init, cX3_init, 2, (none : Option FieldType), 1, 40)
abbrev mX3_has : MR := (yX3_has, cX3_has, 2, (some (.boolean) : Option FieldType), 0, 0)
abbrev mX3_nameAt : MR := (yX3_nameAt, cX3_nameAt, 2, (some (.int) : Option FieldType), 1, 21)
abbrev mX3_placeOf : MR := (yX3_placeOf, cX3_placeOf, 3, (some (.int) : Option FieldType), 0, 0)
abbrev mX3_placeOrEnd : MR := (yX3_placeOrEnd, cX3_placeOrEnd, 3, (some (.int) : Option FieldType), 1, 22)
abbrev mX3_bits : MR := (yX3_bits, cX3_bits, 3, (some (.int) : Option FieldType), 0, 0)
abbrev mX3_read : MR := (yX3_read, cX3_read, 3, (none : Option FieldType), 2, 62)
abbrev mX3_become : MR := (yX3_become, cX3_become, 2, (none : Option FieldType), 1, 40)
abbrev mX3_insert : MR := (yX3_insert, cX3_insert, 3, (none : Option FieldType), 1, 40)
abbrev mX3_remove : MR := (yX3_remove, cX3_remove, 2, (none : Option FieldType), 1, 40)
abbrev mX3_swapWithAhead : MR := (yX3_swapWithAhead, cX3_swapWithAhead, 3, (none : Option FieldType), 0, 0)
abbrev mX4_init : MR := (yX4_init, cX4_init, 1, (none : Option FieldType), 2, 61)
abbrev mX4_begin : MR := (yX4_begin, cX4_begin, 3, (none : Option FieldType), 2, 61)
abbrev mX4_speak : MR := (yX4_speak, cX4_speak, 4, (none : Option FieldType), 4, 105)
abbrev mX4_changed : MR := (yX4_changed, cX4_changed, 2, (some (.int) : Option FieldType), 0, 0)
abbrev mX4_takeStrong : MR := (yX4_takeStrong, cX4_takeStrong, 6, (none : Option FieldType), 2, 62)
abbrev mX4_moveStrong : MR := (yX4_moveStrong, cX4_moveStrong, 6, (none : Option FieldType), 1, 22)
abbrev mX4_dropWeak : MR := (yX4_dropWeak, cX4_dropWeak, 4, (none : Option FieldType), 3, 82)
abbrev mX4_dropBeyond : MR := (yX4_dropBeyond, cX4_dropBeyond, 4, (none : Option FieldType), 3, 82)
abbrev mX4_leastHeld : MR := (yX4_leastHeld, cX4_leastHeld, 4, (some (.int) : Option FieldType), 2, 42)
abbrev mX4_drop : MR := (yX4_drop, cX4_drop, 2, (none : Option FieldType), 2, 61)
abbrev mX5_init : MR := (yX5_init, cX5_init, 1, (none : Option FieldType), 1, 40)
abbrev mX5_look : MR := (yX5_look, cX5_look, 4, (none : Option FieldType), 3, 66)
abbrev mX5_lookAt : MR := (yX5_lookAt, cX5_lookAt, 5, (none : Option FieldType), 2, 42)
abbrev mX5_areTooMany : MR := (yX5_areTooMany, cX5_areTooMany, 1, (some (.boolean) : Option FieldType), 1, 20)
abbrev mX5_haveOrder : MR := (yX5_haveOrder, cX5_haveOrder, 4, (some (.boolean) : Option FieldType), 2, 44)
abbrev mX5_withAllThatCanBeNext : MR := (yX5_withAllThatCanBeNext, cX5_withAllThatCanBeNext, 4, (some (.int) : Option FieldType), 1, 21)
abbrev mX5_allAheadOf : MR := (yX5_allAheadOf, cX5_allAheadOf, 5, (some (.int) : Option FieldType), 2, 44)
abbrev mX5_withAllAhead : MR := (yX5_withAllAhead, cX5_withAllAhead, 4, (some (.int) : Option FieldType), 1, 21)
abbrev mX5_fewestWithoutOrder : MR := (yX5_fewestWithoutOrder, cX5_fewestWithoutOrder, 5, (some (.int) : Option FieldType), 4, 89)
abbrev mX5_countOrders : MR := (yX5_countOrders, cX5_countOrders, 4, (some (.long) : Option FieldType), 3, 67)
abbrev mX5_goOnFrom : MR := (yX5_goOnFrom, cX5_goOnFrom, 4, (none : Option FieldType), 1, 21)
abbrev mX5_fillNeeded : MR := (yX5_fillNeeded, cX5_fillNeeded, 3, (some (.int) : Option FieldType), 2, 45)
abbrev mX5_withoutGaps : MR := (yX5_withoutGaps, cX5_withoutGaps, 5, (some (.int) : Option FieldType), 1, 21)
abbrev mX6_init : MR := (yX6_init, cX6_init, 1, (none : Option FieldType), 1, 40)
abbrev mX6_add : MR := (yX6_add, cX6_add, 2, (none : Option FieldType), 0, 0)
abbrev mX6_empty : MR := (yX6_empty, cX6_empty, 2, (some (.int) : Option FieldType), 0, 0)
abbrev mX6_byteAt : MR := (yX6_byteAt, cX6_byteAt, 2, (some (.int) : Option FieldType), 0, 0)
abbrev mX6_afterBlanks : MR := (yX6_afterBlanks, cX6_afterBlanks, 3, (some (.int) : Option FieldType), 1, 21)
abbrev mX6_afterLetters : MR := (yX6_afterLetters, cX6_afterLetters, 3, (some (.int) : Option FieldType), 1, 21)
abbrev mX6_afterDigits : MR := (yX6_afterDigits, cX6_afterDigits, 3, (some (.int) : Option FieldType), 1, 21)
abbrev mX6_numberAt : MR := (yX6_numberAt, cX6_numberAt, 3, (some (.int) : Option FieldType), 2, 43)
abbrev mX6_isWordAt : MR := (yX6_isWordAt, cX6_isWordAt, 4, (some (.boolean) : Option FieldType), 5, 106)
abbrev mX6_faultAsList : MR := (yX6_faultAsList, cX6_faultAsList, 4, (some (.int) : Option FieldType), 1, 21)
abbrev mX7_init : MR := (yX7_init, cX7_init, 1, (none : Option FieldType), 3, 82)
abbrev mX7_type : MR := (yX7_type, cX7_type, 5, (some (.int) : Option FieldType), 1, 21)
abbrev mX7_clear : MR := (yX7_clear, cX7_clear, 1, (some (.int) : Option FieldType), 1, 21)
abbrev mX7_law : MR := (yX7_law, cX7_law, 2, (some (.int) : Option FieldType), 8, 177)
abbrev mX7_list : MR := (yX7_list, cX7_list, 4, (some (.int) : Option FieldType), 3, 84)
abbrev mX7_told : MR := (yX7_told, cX7_told, 2, (some (.int) : Option FieldType), 0, 0)
abbrev mX7_name : MR := (yX7_name, cX7_name, 4, (some (.int) : Option FieldType), 2, 42)
abbrev mX7_place : MR := (yX7_place, cX7_place, 3, (some (.int) : Option FieldType), 1, 22)
abbrev mX7_house : MR := (yX7_house, cX7_house, 4, (some (.int) : Option FieldType), 2, 40)
abbrev mX7_held : MR := (yX7_held, cX7_held, 2, (some (.int) : Option FieldType), 1, 23)
abbrev mX7_say : MR := (yX7_say, cX7_say, 4, (some (.int) : Option FieldType), 5, 128)
abbrev mX7_said : MR := (yX7_said, cX7_said, 2, (some (.int) : Option FieldType), 1, 21)
abbrev mX7_foretold : MR := (yX7_foretold, cX7_foretold, 5, (some (.int) : Option FieldType), 5, 128)
abbrev mX7_both : MR := (yX7_both, cX7_both, 8, (some (.int) : Option FieldType), 4, 93)
abbrev mX7_orders : MR := (yX7_orders, cX7_orders, 2, (some (.long) : Option FieldType), 4, 90)
abbrev mX7_quarrel : MR := (yX7_quarrel, cX7_quarrel, 4, (some (.int) : Option FieldType), 5, 113)
abbrev mX7_ahead : MR := (yX7_ahead, cX7_ahead, 4, (some (.int) : Option FieldType), 4, 89)
abbrev mX7_date : MR := (yX7_date, cX7_date, 3, (some (.int) : Option FieldType), 1, 23)
abbrev mX7_link : MR := (yX7_link, cX7_link, 4, (some (.int) : Option FieldType), 0, 0)
abbrev mX7_span : MR := (yX7_span, cX7_span, 5, (some (.int) : Option FieldType), 5, 112)
abbrev mX7_lost : MR := (yX7_lost, cX7_lost, 7, (some (.int) : Option FieldType), 3, 65)
abbrev mX7_court : MR := (yX7_court, cX7_court, 9, (some (.int) : Option FieldType), 2, 44)
abbrev mX7_worth : MR := (yX7_worth, cX7_worth, 3, (some (.int) : Option FieldType), 4, 88)
abbrev mX7_keep : MR := (yX7_keep, cX7_keep, 3, (some (.int) : Option FieldType), 3, 83)
abbrev mX7_back : MR := (yX7_back, cX7_back, 3, (some (.int) : Option FieldType), 3, 83)
abbrev mX7_count : MR := (yX7_count, cX7_count, 2, (some (.int) : Option FieldType), 1, 25)
abbrev mX7_trace : MR := (yX7_trace, cX7_trace, 1, (some (.long) : Option FieldType), 0, 0)
abbrev mX7_isList : MR := (yX7_isList, cX7_isList, 1, (some (.boolean) : Option FieldType), 0, 0)
abbrev mX7_isSet : MR := (yX7_isSet, cX7_isSet, 1, (some (.boolean) : Option FieldType), 0, 0)
abbrev mX7_isName : MR := (yX7_isName, cX7_isName, 1, (some (.boolean) : Option FieldType), 0, 0)
abbrev mX7_isNameOrNone : MR := (yX7_isNameOrNone, cX7_isNameOrNone, 1, (some (.boolean) : Option FieldType), 1, 20)
abbrev mX7_isHouse : MR := (yX7_isHouse, cX7_isHouse, 1, (some (.boolean) : Option FieldType), 0, 0)
abbrev mX7_isStrength : MR := (yX7_isStrength, cX7_isStrength, 1, (some (.boolean) : Option FieldType), 0, 0)
abbrev mX7_isIn : MR := (yX7_isIn, cX7_isIn, 2, (some (.boolean) : Option FieldType), 0, 0)
abbrev mX7_isLetter : MR := (yX7_isLetter, cX7_isLetter, 1, (some (.boolean) : Option FieldType), 0, 0)
abbrev mX7_isDigit : MR := (yX7_isDigit, cX7_isDigit, 1, (some (.boolean) : Option FieldType), 0, 0)
abbrev mX7_exchange : MR := (yX7_exchange, cX7_exchange, 4, (some (.int) : Option FieldType), 0, 0)
abbrev mX7_countThere : MR := (yX7_countThere, cX7_countThere, 6, (some (.int) : Option FieldType), 0, 0)
abbrev mX7_sameOrder : MR := (yX7_sameOrder, cX7_sameOrder, 6, (some (.int) : Option FieldType), 3, 68)
abbrev mX7_longestAhead : MR := (yX7_longestAhead, cX7_longestAhead, 7, (some (.int) : Option FieldType), 2, 42)
abbrev mX7_dateAt : MR := (yX7_dateAt, cX7_dateAt, 4, (some (.int) : Option FieldType), 2, 42)
abbrev mX7_isAnyDated : MR := (yX7_isAnyDated, cX7_isAnyDated, 3, (some (.boolean) : Option FieldType), 3, 65)
abbrev mX7_doDatesFit : MR := (yX7_doDatesFit, cX7_doDatesFit, 3, (some (.boolean) : Option FieldType), 4, 90)
abbrev mX7_earliest : MR := (yX7_earliest, cX7_earliest, 6, (some (.int) : Option FieldType), 3, 65)
abbrev mX7_latestYear : MR := (yX7_latestYear, cX7_latestYear, 6, (some (.int) : Option FieldType), 3, 65)
abbrev mX7_lostBetween : MR := (yX7_lostBetween, cX7_lostBetween, 4, (some (.int) : Option FieldType), 0, 0)
abbrev mX7_worthAsName : MR := (yX7_worthAsName, cX7_worthAsName, 4, (some (.int) : Option FieldType), 1, 22)
abbrev mX7_worthAsClaimed : MR := (yX7_worthAsClaimed, cX7_worthAsClaimed, 2, (some (.int) : Option FieldType), 2, 45)
abbrev mX7_worthAsJoined : MR := (yX7_worthAsJoined, cX7_worthAsJoined, 2, (some (.int) : Option FieldType), 2, 45)
abbrev mX7_worthAsStood : MR := (yX7_worthAsStood, cX7_worthAsStood, 3, (some (.int) : Option FieldType), 3, 66)
abbrev mX7_worthAsDated : MR := (yX7_worthAsDated, cX7_worthAsDated, 3, (some (.int) : Option FieldType), 2, 45)
abbrev mX7_worthAsFar : MR := (yX7_worthAsFar, cX7_worthAsFar, 2, (some (.int) : Option FieldType), 3, 67)
abbrev mX8_init : MR := (yX8_init, cX8_init, 2, (none : Option FieldType), 1, 40)
abbrev mX8_in : MR := (yX8_in, cX8_in, 3, (some (.boolean) : Option FieldType), 0, 0)
abbrev mX8_isList : MR := (yX8_isList, cX8_isList, 1, (some (.boolean) : Option FieldType), 1, 22)
abbrev mX8_isName : MR := (yX8_isName, cX8_isName, 1, (some (.boolean) : Option FieldType), 1, 22)
abbrev mX8_sizeOf : MR := (yX8_sizeOf, cX8_sizeOf, 2, (some (.int) : Option FieldType), 0, 0)
abbrev mX8_at : MR := (yX8_at, cX8_at, 3, (some (.int) : Option FieldType), 0, 0)
abbrev mX8_placeOf : MR := (yX8_placeOf, cX8_placeOf, 4, (some (.int) : Option FieldType), 1, 22)
abbrev mX8_type : MR := (yX8_type, cX8_type, 5, (some (.int) : Option FieldType), 1, 22)
abbrev mX8_clear : MR := (yX8_clear, cX8_clear, 2, (some (.int) : Option FieldType), 0, 0)
abbrev mX8_byteAt : MR := (yX8_byteAt, cX8_byteAt, 2, (some (.int) : Option FieldType), 0, 0)
abbrev mX8_begins : MR := (yX8_begins, cX8_begins, 1, (none : Option FieldType), 0, 0)
abbrev mX8_lays : MR := (yX8_lays, cX8_lays, 2, (none : Option FieldType), 0, 0)
abbrev mX8_add : MR := (yX8_add, cX8_add, 3, (some (.long) : Option FieldType), 0, 0)
abbrev mX8_word : MR := (yX8_word, cX8_word, 5, (some (.long) : Option FieldType), 1, 22)
abbrev mX8_wordOf : MR := (yX8_wordOf, cX8_wordOf, 2, (some (.int) : Option FieldType), 2, 46)
abbrev mX8_advances : MR := (yX8_advances, cX8_advances, 4, (none : Option FieldType), 3, 67)
abbrev mX8_isWell : MR := (yX8_isWell, cX8_isWell, 1, (some (.boolean) : Option FieldType), 0, 0)
abbrev mX8_takes : MR := (yX8_takes, cX8_takes, 3, (some (.int) : Option FieldType), 4, 90)
abbrev mX8_law : MR := (yX8_law, cX8_law, 7, (some (.int) : Option FieldType), 5, 112)
abbrev mX8_list : MR := (yX8_list, cX8_list, 5, (some (.int) : Option FieldType), 2, 42)
abbrev mX8_told : MR := (yX8_told, cX8_told, 2, (some (.int) : Option FieldType), 1, 22)
abbrev mX8_name : MR := (yX8_name, cX8_name, 3, (some (.int) : Option FieldType), 2, 42)
abbrev mX8_place : MR := (yX8_place, cX8_place, 3, (some (.int) : Option FieldType), 2, 45)
abbrev mX8_house : MR := (yX8_house, cX8_house, 6, (some (.int) : Option FieldType), 2, 42)
abbrev mX8_heldOf : MR := (yX8_heldOf, cX8_heldOf, 4, (some (.int) : Option FieldType), 0, 0)
abbrev mX8_held : MR := (yX8_held, cX8_held, 2, (some (.int) : Option FieldType), 2, 42)
abbrev mX8_found : MR := (yX8_found, cX8_found, 3, (some (.int) : Option FieldType), 0, 0)
abbrev mX8_drops : MR := (yX8_drops, cX8_drops, 3, (none : Option FieldType), 0, 0)
abbrev mX8_isWeak : MR := (yX8_isWeak, cX8_isWeak, 6, (some (.boolean) : Option FieldType), 0, 0)
abbrev mX8_says : MR := (yX8_says, cX8_says, 8, (none : Option FieldType), 1, 25)
abbrev mX8_say : MR := (yX8_say, cX8_say, 4, (some (.int) : Option FieldType), 2, 52)
abbrev mX8_said : MR := (yX8_said, cX8_said, 2, (some (.int) : Option FieldType), 1, 22)
abbrev mX8_foretold : MR := (yX8_foretold, cX8_foretold, 6, (some (.int) : Option FieldType), 2, 52)
abbrev mX8_setOf : MR := (yX8_setOf, cX8_setOf, 4, (some (.int) : Option FieldType), 1, 22)
abbrev mX8_ones : MR := (yX8_ones, cX8_ones, 3, (some (.int) : Option FieldType), 0, 0)
abbrev mX8_longest : MR := (yX8_longest, cX8_longest, 6, (some (.int) : Option FieldType), 1, 22)
abbrev mX8_both : MR := (yX8_both, cX8_both, 6, (some (.int) : Option FieldType), 2, 47)
abbrev mX8_number : MR := (yX8_number, cX8_number, 3, (some (.int) : Option FieldType), 0, 0)
abbrev mX8_gathers : MR := (yX8_gathers, cX8_gathers, 5, (none : Option FieldType), 1, 22)
abbrev mX8_counts : MR := (yX8_counts, cX8_counts, 4, (some (.long) : Option FieldType), 0, 0)
abbrev mX8_isSet : MR := (yX8_isSet, cX8_isSet, 1, (some (.boolean) : Option FieldType), 1, 22)
abbrev mX8_orders : MR := (yX8_orders, cX8_orders, 2, (some (.long) : Option FieldType), 2, 46)
abbrev mX8_quarrel : MR := (yX8_quarrel, cX8_quarrel, 5, (some (.int) : Option FieldType), 2, 46)
abbrev mX8_ahead : MR := (yX8_ahead, cX8_ahead, 10, (some (.int) : Option FieldType), 2, 46)
abbrev mX8_date : MR := (yX8_date, cX8_date, 4, (some (.int) : Option FieldType), 2, 42)
abbrev mX8_link : MR := (yX8_link, cX8_link, 4, (some (.int) : Option FieldType), 1, 22)
abbrev mX8_dateAt : MR := (yX8_dateAt, cX8_dateAt, 3, (some (.int) : Option FieldType), 1, 22)
abbrev mX8_isWithin : MR := (yX8_isWithin, cX8_isWithin, 5, (some (.boolean) : Option FieldType), 2, 44)
abbrev mX8_span : MR := (yX8_span, cX8_span, 9, (some (.int) : Option FieldType), 3, 68)
abbrev mX8_lost : MR := (yX8_lost, cX8_lost, 7, (some (.int) : Option FieldType), 2, 44)
abbrev mX8_court : MR := (yX8_court, cX8_court, 11, (some (.int) : Option FieldType), 2, 45)
abbrev mX8_worth : MR := (yX8_worth, cX8_worth, 7, (some (.int) : Option FieldType), 2, 45)
abbrev mX8_together : MR := (yX8_together, cX8_together, 1, (some (.int) : Option FieldType), 1, 21)
abbrev mX8_keep : MR := (yX8_keep, cX8_keep, 3, (some (.int) : Option FieldType), 2, 41)
abbrev mX8_back : MR := (yX8_back, cX8_back, 3, (some (.int) : Option FieldType), 2, 41)
abbrev mX8_count : MR := (yX8_count, cX8_count, 5, (some (.int) : Option FieldType), 2, 41)
abbrev mX8_trace : MR := (yX8_trace, cX8_trace, 1, (some (.long) : Option FieldType), 0, 0)
abbrev mJ6_compare_7cf53 : MR := (yJ6_compare_7cf53, cJ6_compare_7cf53, 2, (some (.int) : Option FieldType), 0, 0)
abbrev mJ6_bitCount_0f7a4 : MR := (yJ6_bitCount_0f7a4, cJ6_bitCount_0f7a4, 1, (some (.int) : Option FieldType), 0, 0)
abbrev mJ9_max_7cf53 : MR := (yJ9_max_7cf53, cJ9_max_7cf53, 2, (some (.int) : Option FieldType), 0, 0)
abbrev mJ9_min_7cf53 : MR := (yJ9_min_7cf53, cJ9_min_7cf53, 2, (some (.int) : Option FieldType), 0, 0)
abbrev mJ0_length_8abf5 : MR := (yJ0_length_8abf5, cJ0_length_8abf5, 1, (some (.int) : Option FieldType), 1, 20)
abbrev mJ0_charAt_5068e : MR := (yJ0_charAt_5068e, cJ0_charAt_5068e, 2, (some (.char) : Option FieldType), 4, 85)
abbrev mJ0_coder_7d493 : MR := (yJ0_coder_7d493, cJ0_coder_7d493, 1, (some (.byte) : Option FieldType), 0, 0)
abbrev mJ0_isLatin1_aae02 : MR := (yJ0_isLatin1_aae02, cJ0_isLatin1_aae02, 1, (some (.boolean) : Option FieldType), 0, 0)
abbrev mJ0_checkIndex_df160 : MR := (yJ0_checkIndex_df160, cJ0_checkIndex_df160, 2, (none : Option FieldType), 1, 22)
abbrev mJ1_charAt_3b067 : MR := (yJ1_charAt_3b067, cJ1_charAt_3b067, 2, (some (.char) : Option FieldType), 2, 43)
abbrev mJ2_getChar_3b067 : MR := (yJ2_getChar_3b067, cJ2_getChar_3b067, 2, (some (.char) : Option FieldType), 1, 20)
abbrev mJ2_length_9d52b : MR := (yJ2_length_9d52b, cJ2_length_9d52b, 1, (some (.int) : Option FieldType), 0, 0)
abbrev mJ2_charAt_3b067 : MR := (yJ2_charAt_3b067, cJ2_charAt_3b067, 2, (some (.char) : Option FieldType), 3, 64)
abbrev mJ2_checkIndex_2214a : MR := (yJ2_checkIndex_2214a, cJ2_checkIndex_2214a, 2, (none : Option FieldType), 2, 43)
abbrev mJ7_fill_53178 : MR := (yJ7_fill_53178, cJ7_fill_53178, 4, (none : Option FieldType), 0, 0)
abbrev mJ3_checkIndex_8e157 : MR := (yJ3_checkIndex_8e157, cJ3_checkIndex_8e157, 3, (some (.int) : Option FieldType), 0, 0)
theorem ff_X0_9 : FF RX0 9 0 0 (.array .int) := ⟨RX0, TX0, 2, tyX0, rfl, by decide, uw_X0, rfl, tb 84 (by decide +kernel) rfl, tyX0_ok, nmX0, rfl, rfl, by decide +kernel⟩
theorem ff_X0_15 : FF RX0 15 0 1 (.array .int) := ⟨RX0, TX0, 2, tyX0, rfl, by decide, uw_X0, rfl, tb 87 (by decide +kernel) rfl, tyX0_ok, nmX0, rfl, rfl, by decide +kernel⟩
theorem fg_X0_15 : FG RX0 15 0 1 := ⟨RX0, TX0, 2, rfl, by decide, uw_X0, rfl, tb 87 (by decide +kernel) rfl⟩
theorem cs_X0_18 : CS RX0 18 mJ7_fill_53178 2 := ⟨⟨tb 81 (by decide +kernel) rfl, tb 6 (by decide +kernel) rfl, tb 83 (by decide +kernel) rfl, by decide, by decide, by decide +kernel⟩, tb 82 (by decide +kernel) rfl⟩
theorem fg_X0_9 : FG RX0 9 0 0 := ⟨RX0, TX0, 2, rfl, by decide, uw_X0, rfl, tb 84 (by decide +kernel) rfl⟩
theorem cv_X0_30 : CV RX0 30 mX0_countBy 1 := ⟨⟨tb 468 (by decide +kernel) rfl, tb 5 (by decide +kernel) rfl, tb 471 (by decide +kernel) rfl, by decide, by decide, by decide +kernel⟩, tb 469 (by decide +kernel) rfl, tb 470 (by decide +kernel) rfl⟩
theorem ff_X1_18 : FF RX1 18 1 0 (.array .int) := ⟨RX1, TX1, 2, tyX1, rfl, by decide, uw_X1, rfl, tb 58 (by decide +kernel) rfl, tyX1_ok, nmX1, rfl, rfl, by decide +kernel⟩
theorem ff_X1_23 : FF RX1 23 1 1 (.array .int) := ⟨RX1, TX1, 2, tyX1, rfl, by decide, uw_X1, rfl, tb 61 (by decide +kernel) rfl, tyX1_ok, nmX1, rfl, rfl, by decide +kernel⟩
theorem fg_X1_23 : FG RX1 23 1 1 := ⟨RX1, TX1, 2, rfl, by decide, uw_X1, rfl, tb 61 (by decide +kernel) rfl⟩
theorem fg_X1_38 : FG RX1 38 6 1 := ⟨RX6, TX6, 2, rfl, by decide, uw_X6, rfl, tb 35 (by decide +kernel) rfl⟩
theorem fg_X1_18 : FG RX1 18 1 0 := ⟨RX1, TX1, 2, rfl, by decide, uw_X1, rfl, tb 58 (by decide +kernel) rfl⟩
theorem cv_X1_32 : CV RX1 32 mX6_afterBlanks 1 := ⟨⟨tb 246 (by decide +kernel) rfl, tb 2 (by decide +kernel) rfl, tb 249 (by decide +kernel) rfl, by decide, by decide, by decide +kernel⟩, tb 247 (by decide +kernel) rfl, tb 248 (by decide +kernel) rfl⟩
theorem cs_X1_42 : CS RX1 42 mX1_itemAt 2 := ⟨⟨tb 254 (by decide +kernel) rfl, tb 3 (by decide +kernel) rfl, tb 256 (by decide +kernel) rfl, by decide, by decide, by decide +kernel⟩, tb 255 (by decide +kernel) rfl⟩
theorem csn_X1_46 : CSN RX1 46 mX7_isIn 2 := ⟨"FatherLists", ⟨tn 324 (by decide +kernel) rfl, tb 1 (by decide +kernel) rfl, tb 326 (by decide +kernel) rfl, by decide, by decide, by decide +kernel⟩, tb 325 (by decide +kernel) rfl⟩
theorem cv_X1_50 : CV RX1 50 mX6_afterLetters 1 := ⟨⟨tb 327 (by decide +kernel) rfl, tb 2 (by decide +kernel) rfl, tb 272 (by decide +kernel) rfl, by decide, by decide, by decide +kernel⟩, tb 270 (by decide +kernel) rfl, tb 271 (by decide +kernel) rfl⟩
theorem cv_X1_53 : CV RX1 53 mX6_numberAt 1 := ⟨⟨tb 328 (by decide +kernel) rfl, tb 2 (by decide +kernel) rfl, tb 331 (by decide +kernel) rfl, by decide, by decide, by decide +kernel⟩, tb 329 (by decide +kernel) rfl, tb 330 (by decide +kernel) rfl⟩
theorem cv_X1_62 : CV RX1 62 mX6_afterDigits 1 := ⟨⟨tb 343 (by decide +kernel) rfl, tb 2 (by decide +kernel) rfl, tb 335 (by decide +kernel) rfl, by decide, by decide, by decide +kernel⟩, tb 333 (by decide +kernel) rfl, tb 334 (by decide +kernel) rfl⟩
theorem cv_X1_65 : CV RX1 65 mX6_byteAt 1 := ⟨⟨tb 344 (by decide +kernel) rfl, tb 2 (by decide +kernel) rfl, tb 253 (by decide +kernel) rfl, by decide, by decide, by decide +kernel⟩, tb 251 (by decide +kernel) rfl, tb 252 (by decide +kernel) rfl⟩
theorem cs_X1_68 : CS RX1 68 mX1_wordOf 1 := ⟨⟨tb 257 (by decide +kernel) rfl, tb 3 (by decide +kernel) rfl, tb 259 (by decide +kernel) rfl, by decide, by decide, by decide +kernel⟩, tb 258 (by decide +kernel) rfl⟩
theorem cv_X1_72 : CV RX1 72 mX6_isWordAt 2 := ⟨⟨tb 265 (by decide +kernel) rfl, tb 2 (by decide +kernel) rfl, tb 268 (by decide +kernel) rfl, by decide, by decide, by decide +kernel⟩, tb 266 (by decide +kernel) rfl, tb 267 (by decide +kernel) rfl⟩
theorem ff_X2_11 : FF RX2 11 2 0 (.array (.object "FatherLists$Row")) := ⟨RX2, TX2, 4, tyX2, rfl, by decide, uw_X2, rfl, tb 115 (by decide +kernel) rfl, tyX2_ok, nmX2, rfl, rfl, by decide +kernel⟩
theorem ff_X2_20 : FF RX2 20 2 1 (.object "FatherLists$Houses") := ⟨RX2, TX2, 4, tyX2, rfl, by decide, uw_X2, rfl, tb 118 (by decide +kernel) rfl, tyX2_ok, nmX2, rfl, rfl, by decide +kernel⟩
theorem ff_X2_24 : FF RX2 24 2 2 (.array .int) := ⟨RX2, TX2, 4, tyX2, rfl, by decide, uw_X2, rfl, tb 120 (by decide +kernel) rfl, tyX2_ok, nmX2, rfl, rfl, by decide +kernel⟩
theorem fp_X2_28 : FP RX2 28 2 3 .boolean := ⟨RX2, TX2, 4, tyX2, rfl, by decide, uw_X2, rfl, tb 122 (by decide +kernel) rfl, tyX2_ok, nmX2, rfl, by decide +kernel⟩
theorem fg_X2_11 : FG RX2 11 2 0 := ⟨RX2, TX2, 4, rfl, by decide, uw_X2, rfl, tb 115 (by decide +kernel) rfl⟩
theorem fg_X2_24 : FG RX2 24 2 2 := ⟨RX2, TX2, 4, rfl, by decide, uw_X2, rfl, tb 120 (by decide +kernel) rfl⟩
theorem ci_X2_19 : CI RX2 19 mX0_init 0 := ⟨⟨tb 77 (by decide +kernel) rfl, tb 5 (by decide +kernel) rfl, tb 79 (by decide +kernel) rfl, by decide, by decide, by decide +kernel⟩, rfl, tb 78 (by decide +kernel) rfl, rfl⟩
theorem ci_X2_32 : CI RX2 32 mX3_init 1 := ⟨⟨tb 96 (by decide +kernel) rfl, tb 7 (by decide +kernel) rfl, tb 98 (by decide +kernel) rfl, by decide, by decide, by decide +kernel⟩, rfl, tb 97 (by decide +kernel) rfl, rfl⟩
theorem cs_X2_35 : CS RX2 35 mJ7_fill_53178 2 := ⟨⟨tb 114 (by decide +kernel) rfl, tb 6 (by decide +kernel) rfl, tb 83 (by decide +kernel) rfl, by decide, by decide, by decide +kernel⟩, tb 82 (by decide +kernel) rfl⟩
theorem fg_X2_20 : FG RX2 20 2 1 := ⟨RX2, TX2, 4, rfl, by decide, uw_X2, rfl, tb 118 (by decide +kernel) rfl⟩
theorem cv_X2_41 : CV RX2 41 mX3_become 1 := ⟨⟨tb 696 (by decide +kernel) rfl, tb 7 (by decide +kernel) rfl, tb 431 (by decide +kernel) rfl, by decide, by decide, by decide +kernel⟩, tb 429 (by decide +kernel) rfl, tb 430 (by decide +kernel) rfl⟩
theorem cv_X2_45 : CV RX2 45 mX0_become 1 := ⟨⟨tb 697 (by decide +kernel) rfl, tb 5 (by decide +kernel) rfl, tb 438 (by decide +kernel) rfl, by decide, by decide, by decide +kernel⟩, tb 436 (by decide +kernel) rfl, tb 437 (by decide +kernel) rfl⟩
theorem fg_X2_54 : FG RX2 54 3 1 := ⟨RX3, TX3, 2, rfl, by decide, uw_X3, rfl, tb 106 (by decide +kernel) rfl⟩
theorem fp_X3_9 : FP RX3 9 3 1 .int := ⟨RX3, TX3, 2, tyX3, rfl, by decide, uw_X3, rfl, tb 104 (by decide +kernel) rfl, tyX3_ok, nmX3, rfl, by decide +kernel⟩
theorem ff_X3_21 : FF RX3 21 3 0 (.array .int) := ⟨RX3, TX3, 2, tyX3, rfl, by decide, uw_X3, rfl, tb 103 (by decide +kernel) rfl, tyX3_ok, nmX3, rfl, rfl, by decide +kernel⟩
theorem cs_X3_15 : CS RX3 15 mJ9_max_7cf53 2 := ⟨⟨tb 100 (by decide +kernel) rfl, tb 8 (by decide +kernel) rfl, tb 102 (by decide +kernel) rfl, by decide, by decide, by decide +kernel⟩, tb 101 (by decide +kernel) rfl⟩
theorem fg_X3_9 : FG RX3 9 3 1 := ⟨RX3, TX3, 2, rfl, by decide, uw_X3, rfl, tb 104 (by decide +kernel) rfl⟩
theorem fg_X3_21 : FG RX3 21 3 0 := ⟨RX3, TX3, 2, rfl, by decide, uw_X3, rfl, tb 103 (by decide +kernel) rfl⟩
theorem cv_X3_25 : CV RX3 25 mX3_has 1 := ⟨⟨tb 384 (by decide +kernel) rfl, tb 7 (by decide +kernel) rfl, tb 379 (by decide +kernel) rfl, by decide, by decide, by decide +kernel⟩, tb 377 (by decide +kernel) rfl, tb 378 (by decide +kernel) rfl⟩
theorem cv_X3_29 : CV RX3 29 mX3_placeOf 1 := ⟨⟨tb 650 (by decide +kernel) rfl, tb 7 (by decide +kernel) rfl, tb 395 (by decide +kernel) rfl, by decide, by decide, by decide +kernel⟩, tb 393 (by decide +kernel) rfl, tb 394 (by decide +kernel) rfl⟩
theorem fg_X3_33 : FG RX3 33 6 1 := ⟨RX6, TX6, 2, rfl, by decide, uw_X6, rfl, tb 36 (by decide +kernel) rfl⟩
theorem cv_X3_36 : CV RX3 36 mX6_byteAt 1 := ⟨⟨tb 362 (by decide +kernel) rfl, tb 2 (by decide +kernel) rfl, tb 253 (by decide +kernel) rfl, by decide, by decide, by decide +kernel⟩, tb 251 (by decide +kernel) rfl, tb 252 (by decide +kernel) rfl⟩
theorem cv_X3_39 : CV RX3 39 mX3_insert 2 := ⟨⟨tb 363 (by decide +kernel) rfl, tb 7 (by decide +kernel) rfl, tb 366 (by decide +kernel) rfl, by decide, by decide, by decide +kernel⟩, tb 364 (by decide +kernel) rfl, tb 365 (by decide +kernel) rfl⟩
theorem cs_X3_43 : CS RX3 43 mJ9_min_7cf53 2 := ⟨⟨tb 432 (by decide +kernel) rfl, tb 8 (by decide +kernel) rfl, tb 434 (by decide +kernel) rfl, by decide, by decide, by decide +kernel⟩, tb 433 (by decide +kernel) rfl⟩
theorem ff_X4_14 : FF RX4 14 4 0 (.object "FatherLists$Row") := ⟨RX4, TX4, 5, tyX4, rfl, by decide, uw_X4, rfl, tb 143 (by decide +kernel) rfl, tyX4_ok, nmX4, rfl, rfl, by decide +kernel⟩
theorem ff_X4_23 : FF RX4 23 4 1 (.object "FatherLists$Houses") := ⟨RX4, TX4, 5, tyX4, rfl, by decide, uw_X4, rfl, tb 145 (by decide +kernel) rfl, tyX4_ok, nmX4, rfl, rfl, by decide +kernel⟩
theorem fp_X4_27 : FP RX4 27 4 2 .int := ⟨RX4, TX4, 5, tyX4, rfl, by decide, uw_X4, rfl, tb 147 (by decide +kernel) rfl, tyX4_ok, nmX4, rfl, by decide +kernel⟩
theorem fp_X4_31 : FP RX4 31 4 3 .int := ⟨RX4, TX4, 5, tyX4, rfl, by decide, uw_X4, rfl, tb 148 (by decide +kernel) rfl, tyX4_ok, nmX4, rfl, by decide +kernel⟩
theorem fp_X4_34 : FP RX4 34 4 4 .int := ⟨RX4, TX4, 5, tyX4, rfl, by decide, uw_X4, rfl, tb 149 (by decide +kernel) rfl, tyX4_ok, nmX4, rfl, by decide +kernel⟩
theorem ci_X4_11 : CI RX4 11 mX3_init 1 := ⟨⟨tb 140 (by decide +kernel) rfl, tb 7 (by decide +kernel) rfl, tb 98 (by decide +kernel) rfl, by decide, by decide, by decide +kernel⟩, rfl, tb 97 (by decide +kernel) rfl, rfl⟩
theorem ci_X4_22 : CI RX4 22 mX0_init 0 := ⟨⟨tb 142 (by decide +kernel) rfl, tb 5 (by decide +kernel) rfl, tb 79 (by decide +kernel) rfl, by decide, by decide, by decide +kernel⟩, rfl, tb 78 (by decide +kernel) rfl, rfl⟩
theorem fg_X4_14 : FG RX4 14 4 0 := ⟨RX4, TX4, 5, rfl, by decide, uw_X4, rfl, tb 143 (by decide +kernel) rfl⟩
theorem fg_X4_23 : FG RX4 23 4 1 := ⟨RX4, TX4, 5, rfl, by decide, uw_X4, rfl, tb 145 (by decide +kernel) rfl⟩
theorem cv_X4_37 : CV RX4 37 mX3_become 1 := ⟨⟨tb 428 (by decide +kernel) rfl, tb 7 (by decide +kernel) rfl, tb 431 (by decide +kernel) rfl, by decide, by decide, by decide +kernel⟩, tb 429 (by decide +kernel) rfl, tb 430 (by decide +kernel) rfl⟩
theorem cv_X4_41 : CV RX4 41 mX0_become 1 := ⟨⟨tb 435 (by decide +kernel) rfl, tb 5 (by decide +kernel) rfl, tb 438 (by decide +kernel) rfl, by decide, by decide, by decide +kernel⟩, tb 436 (by decide +kernel) rfl, tb 437 (by decide +kernel) rfl⟩
theorem fg_X4_44 : FG RX4 44 1 0 := ⟨RX1, TX1, 2, rfl, by decide, uw_X1, rfl, tb 59 (by decide +kernel) rfl⟩
theorem fg_X4_61 : FG RX4 61 3 1 := ⟨RX3, TX3, 2, rfl, by decide, uw_X3, rfl, tb 107 (by decide +kernel) rfl⟩
theorem cv_X4_50 : CV RX4 50 mX4_takeStrong 3 := ⟨⟨tb 444 (by decide +kernel) rfl, tb 9 (by decide +kernel) rfl, tb 447 (by decide +kernel) rfl, by decide, by decide, by decide +kernel⟩, tb 445 (by decide +kernel) rfl, tb 446 (by decide +kernel) rfl⟩
theorem cv_X4_54 : CV RX4 54 mX4_moveStrong 2 := ⟨⟨tb 451 (by decide +kernel) rfl, tb 9 (by decide +kernel) rfl, tb 454 (by decide +kernel) rfl, by decide, by decide, by decide +kernel⟩, tb 452 (by decide +kernel) rfl, tb 453 (by decide +kernel) rfl⟩
theorem cv_X4_58 : CV RX4 58 mX4_dropWeak 2 := ⟨⟨tb 459 (by decide +kernel) rfl, tb 9 (by decide +kernel) rfl, tb 462 (by decide +kernel) rfl, by decide, by decide, by decide +kernel⟩, tb 460 (by decide +kernel) rfl, tb 461 (by decide +kernel) rfl⟩
theorem cv_X4_64 : CV RX4 64 mX3_insert 2 := ⟨⟨tb 450 (by decide +kernel) rfl, tb 7 (by decide +kernel) rfl, tb 366 (by decide +kernel) rfl, by decide, by decide, by decide +kernel⟩, tb 364 (by decide +kernel) rfl, tb 365 (by decide +kernel) rfl⟩
theorem cv_X4_67 : CV RX4 67 mX4_dropBeyond 2 := ⟨⟨tb 481 (by decide +kernel) rfl, tb 9 (by decide +kernel) rfl, tb 484 (by decide +kernel) rfl, by decide, by decide, by decide +kernel⟩, tb 482 (by decide +kernel) rfl, tb 483 (by decide +kernel) rfl⟩
theorem fg_X4_27 : FG RX4 27 4 2 := ⟨RX4, TX4, 5, rfl, by decide, uw_X4, rfl, tb 147 (by decide +kernel) rfl⟩
theorem fg_X4_31 : FG RX4 31 4 3 := ⟨RX4, TX4, 5, rfl, by decide, uw_X4, rfl, tb 148 (by decide +kernel) rfl⟩
theorem fg_X4_34 : FG RX4 34 4 4 := ⟨RX4, TX4, 5, rfl, by decide, uw_X4, rfl, tb 149 (by decide +kernel) rfl⟩
theorem fg_X4_70 : FG RX4 70 0 1 := ⟨RX0, TX0, 2, rfl, by decide, uw_X0, rfl, tb 88 (by decide +kernel) rfl⟩
theorem fg_X4_73 : FG RX4 73 0 0 := ⟨RX0, TX0, 2, rfl, by decide, uw_X0, rfl, tb 85 (by decide +kernel) rfl⟩
theorem cv_X4_76 : CV RX4 76 mX3_placeOf 1 := ⟨⟨tb 448 (by decide +kernel) rfl, tb 7 (by decide +kernel) rfl, tb 395 (by decide +kernel) rfl, by decide, by decide, by decide +kernel⟩, tb 393 (by decide +kernel) rfl, tb 394 (by decide +kernel) rfl⟩
theorem cs_X4_80 : CS RX4 80 mJ9_min_7cf53 2 := ⟨⟨tb 449 (by decide +kernel) rfl, tb 8 (by decide +kernel) rfl, tb 434 (by decide +kernel) rfl, by decide, by decide, by decide +kernel⟩, tb 433 (by decide +kernel) rfl⟩
theorem cv_X4_86 : CV RX4 86 mX3_swapWithAhead 1 := ⟨⟨tb 455 (by decide +kernel) rfl, tb 7 (by decide +kernel) rfl, tb 458 (by decide +kernel) rfl, by decide, by decide, by decide +kernel⟩, tb 456 (by decide +kernel) rfl, tb 457 (by decide +kernel) rfl⟩
theorem cv_X4_89 : CV RX4 89 mX3_nameAt 1 := ⟨⟨tb 463 (by decide +kernel) rfl, tb 7 (by decide +kernel) rfl, tb 383 (by decide +kernel) rfl, by decide, by decide, by decide +kernel⟩, tb 381 (by decide +kernel) rfl, tb 382 (by decide +kernel) rfl⟩
theorem cv_X4_92 : CV RX4 92 mX0_hasWeakAlone 2 := ⟨⟨tb 464 (by decide +kernel) rfl, tb 5 (by decide +kernel) rfl, tb 467 (by decide +kernel) rfl, by decide, by decide, by decide +kernel⟩, tb 465 (by decide +kernel) rfl, tb 466 (by decide +kernel) rfl⟩
theorem cv_X4_96 : CV RX4 96 mX4_drop 1 := ⟨⟨tb 472 (by decide +kernel) rfl, tb 9 (by decide +kernel) rfl, tb 475 (by decide +kernel) rfl, by decide, by decide, by decide +kernel⟩, tb 473 (by decide +kernel) rfl, tb 474 (by decide +kernel) rfl⟩
theorem cv_X4_99 : CV RX4 99 mX4_leastHeld 1 := ⟨⟨tb 485 (by decide +kernel) rfl, tb 9 (by decide +kernel) rfl, tb 488 (by decide +kernel) rfl, by decide, by decide, by decide +kernel⟩, tb 486 (by decide +kernel) rfl, tb 487 (by decide +kernel) rfl⟩
theorem cv_X4_102 : CV RX4 102 mX0_heldOf 1 := ⟨⟨tb 489 (by decide +kernel) rfl, tb 5 (by decide +kernel) rfl, tb 419 (by decide +kernel) rfl, by decide, by decide, by decide +kernel⟩, tb 417 (by decide +kernel) rfl, tb 418 (by decide +kernel) rfl⟩
theorem cv_X4_105 : CV RX4 105 mX3_has 1 := ⟨⟨tb 476 (by decide +kernel) rfl, tb 7 (by decide +kernel) rfl, tb 379 (by decide +kernel) rfl, by decide, by decide, by decide +kernel⟩, tb 377 (by decide +kernel) rfl, tb 378 (by decide +kernel) rfl⟩
theorem cv_X4_109 : CV RX4 109 mX3_remove 1 := ⟨⟨tb 477 (by decide +kernel) rfl, tb 7 (by decide +kernel) rfl, tb 480 (by decide +kernel) rfl, by decide, by decide, by decide +kernel⟩, tb 478 (by decide +kernel) rfl, tb 479 (by decide +kernel) rfl⟩
theorem ff_X5_9 : FF RX5 9 5 0 (.array .int) := ⟨RX5, TX5, 4, tyX5, rfl, by decide, uw_X5, rfl, tb 167 (by decide +kernel) rfl, tyX5_ok, nmX5, rfl, rfl, by decide +kernel⟩
theorem ff_X5_15 : FF RX5 15 5 1 (.array .int) := ⟨RX5, TX5, 4, tyX5, rfl, by decide, uw_X5, rfl, tb 168 (by decide +kernel) rfl, tyX5_ok, nmX5, rfl, rfl, by decide +kernel⟩
theorem ff_X5_18 : FF RX5 18 5 2 (.array .long) := ⟨RX5, TX5, 4, tyX5, rfl, by decide, uw_X5, rfl, tb 169 (by decide +kernel) rfl, tyX5_ok, nmX5, rfl, rfl, by decide +kernel⟩
theorem fp_X5_22 : FP RX5 22 5 3 .int := ⟨RX5, TX5, 4, tyX5, rfl, by decide, uw_X5, rfl, tb 170 (by decide +kernel) rfl, tyX5_ok, nmX5, rfl, by decide +kernel⟩
theorem fg_X5_9 : FG RX5 9 5 0 := ⟨RX5, TX5, 4, rfl, by decide, uw_X5, rfl, tb 167 (by decide +kernel) rfl⟩
theorem fg_X5_36 : FG RX5 36 2 0 := ⟨RX2, TX2, 4, rfl, by decide, uw_X2, rfl, tb 116 (by decide +kernel) rfl⟩
theorem cs_X5_26 : CS RX5 26 mJ7_fill_53178 2 := ⟨⟨tb 538 (by decide +kernel) rfl, tb 6 (by decide +kernel) rfl, tb 83 (by decide +kernel) rfl, by decide, by decide, by decide +kernel⟩, tb 82 (by decide +kernel) rfl⟩
theorem csn_X5_32 : CSN RX5 32 mX7_isIn 2 := ⟨"FatherLists", ⟨tn 539 (by decide +kernel) rfl, tb 1 (by decide +kernel) rfl, tb 326 (by decide +kernel) rfl, by decide, by decide, by decide +kernel⟩, tb 325 (by decide +kernel) rfl⟩
theorem cv_X5_42 : CV RX5 42 mX5_lookAt 1 := ⟨⟨tb 540 (by decide +kernel) rfl, tb 10 (by decide +kernel) rfl, tb 543 (by decide +kernel) rfl, by decide, by decide, by decide +kernel⟩, tb 541 (by decide +kernel) rfl, tb 542 (by decide +kernel) rfl⟩
theorem fg_X5_46 : FG RX5 46 3 1 := ⟨RX3, TX3, 2, rfl, by decide, uw_X3, rfl, tb 105 (by decide +kernel) rfl⟩
theorem fg_X5_22 : FG RX5 22 5 3 := ⟨RX5, TX5, 4, rfl, by decide, uw_X5, rfl, tb 170 (by decide +kernel) rfl⟩
theorem cv_X5_51 : CV RX5 51 mX3_nameAt 1 := ⟨⟨tb 544 (by decide +kernel) rfl, tb 7 (by decide +kernel) rfl, tb 383 (by decide +kernel) rfl, by decide, by decide, by decide +kernel⟩, tb 381 (by decide +kernel) rfl, tb 382 (by decide +kernel) rfl⟩
theorem csn_X5_55 : CSN RX5 55 mX7_isName 1 := ⟨"FatherLists", ⟨tn 545 (by decide +kernel) rfl, tb 1 (by decide +kernel) rfl, tb 391 (by decide +kernel) rfl, by decide, by decide, by decide +kernel⟩, tb 390 (by decide +kernel) rfl⟩
theorem cs_X5_59 : CS RX5 59 mJ6_bitCount_0f7a4 1 := ⟨⟨tb 550 (by decide +kernel) rfl, tb 17 (by decide +kernel) rfl, tb 522 (by decide +kernel) rfl, by decide, by decide, by decide +kernel⟩, tb 521 (by decide +kernel) rfl⟩
theorem cv_X5_64 : CV RX5 64 mX5_withAllThatCanBeNext 1 := ⟨⟨tb 581 (by decide +kernel) rfl, tb 10 (by decide +kernel) rfl, tb 584 (by decide +kernel) rfl, by decide, by decide, by decide +kernel⟩, tb 582 (by decide +kernel) rfl, tb 583 (by decide +kernel) rfl⟩
theorem cv_X5_67 : CV RX5 67 mX5_withAllAhead 1 := ⟨⟨tb 595 (by decide +kernel) rfl, tb 10 (by decide +kernel) rfl, tb 598 (by decide +kernel) rfl, by decide, by decide, by decide +kernel⟩, tb 596 (by decide +kernel) rfl, tb 597 (by decide +kernel) rfl⟩
theorem cv_X5_70 : CV RX5 70 mX5_look 2 := ⟨⟨tb 576 (by decide +kernel) rfl, tb 10 (by decide +kernel) rfl, tb 537 (by decide +kernel) rfl, by decide, by decide, by decide +kernel⟩, tb 535 (by decide +kernel) rfl, tb 536 (by decide +kernel) rfl⟩
theorem cv_X5_74 : CV RX5 74 mX5_haveOrder 0 := ⟨⟨tb 577 (by decide +kernel) rfl, tb 10 (by decide +kernel) rfl, tb 580 (by decide +kernel) rfl, by decide, by decide, by decide +kernel⟩, tb 578 (by decide +kernel) rfl, tb 579 (by decide +kernel) rfl⟩
theorem fg_X5_18 : FG RX5 18 5 2 := ⟨RX5, TX5, 4, rfl, by decide, uw_X5, rfl, tb 169 (by decide +kernel) rfl⟩
theorem cv_X5_78 : CV RX5 78 mX5_fillNeeded 0 := ⟨⟨tb 556 (by decide +kernel) rfl, tb 10 (by decide +kernel) rfl, tb 559 (by decide +kernel) rfl, by decide, by decide, by decide +kernel⟩, tb 557 (by decide +kernel) rfl, tb 558 (by decide +kernel) rfl⟩
theorem cv_X5_82 : CV RX5 82 mX5_goOnFrom 2 := ⟨⟨tb 564 (by decide +kernel) rfl, tb 10 (by decide +kernel) rfl, tb 567 (by decide +kernel) rfl, by decide, by decide, by decide +kernel⟩, tb 565 (by decide +kernel) rfl, tb 566 (by decide +kernel) rfl⟩
theorem fg_X5_15 : FG RX5 15 5 1 := ⟨RX5, TX5, 4, rfl, by decide, uw_X5, rfl, tb 168 (by decide +kernel) rfl⟩
theorem cv_X5_86 : CV RX5 86 mX5_withoutGaps 1 := ⟨⟨tb 560 (by decide +kernel) rfl, tb 10 (by decide +kernel) rfl, tb 563 (by decide +kernel) rfl, by decide, by decide, by decide +kernel⟩, tb 561 (by decide +kernel) rfl, tb 562 (by decide +kernel) rfl⟩
theorem ff_X6_9 : FF RX6 9 6 0 (.array .int) := ⟨RX6, TX6, 2, tyX6, rfl, by decide, uw_X6, rfl, tb 32 (by decide +kernel) rfl, tyX6_ok, nmX6, rfl, rfl, by decide +kernel⟩
theorem fp_X6_15 : FP RX6 15 6 1 .int := ⟨RX6, TX6, 2, tyX6, rfl, by decide, uw_X6, rfl, tb 33 (by decide +kernel) rfl, tyX6_ok, nmX6, rfl, by decide +kernel⟩
theorem fg_X6_15 : FG RX6 15 6 1 := ⟨RX6, TX6, 2, rfl, by decide, uw_X6, rfl, tb 33 (by decide +kernel) rfl⟩
theorem fg_X6_9 : FG RX6 9 6 0 := ⟨RX6, TX6, 2, rfl, by decide, uw_X6, rfl, tb 32 (by decide +kernel) rfl⟩
theorem cv_X6_19 : CV RX6 19 mX6_byteAt 1 := ⟨⟨tb 250 (by decide +kernel) rfl, tb 2 (by decide +kernel) rfl, tb 253 (by decide +kernel) rfl, by decide, by decide, by decide +kernel⟩, tb 251 (by decide +kernel) rfl, tb 252 (by decide +kernel) rfl⟩
theorem csn_X6_23 : CSN RX6 23 mX7_isLetter 1 := ⟨"FatherLists", ⟨tn 273 (by decide +kernel) rfl, tb 1 (by decide +kernel) rfl, tb 275 (by decide +kernel) rfl, by decide, by decide, by decide +kernel⟩, tb 274 (by decide +kernel) rfl⟩
theorem csn_X6_27 : CSN RX6 27 mX7_isDigit 1 := ⟨"FatherLists", ⟨tn 336 (by decide +kernel) rfl, tb 1 (by decide +kernel) rfl, tb 338 (by decide +kernel) rfl, by decide, by decide, by decide +kernel⟩, tb 337 (by decide +kernel) rfl⟩
theorem cv_X6_30 : CV RX6 30 mX6_afterDigits 1 := ⟨⟨tb 332 (by decide +kernel) rfl, tb 2 (by decide +kernel) rfl, tb 335 (by decide +kernel) rfl, by decide, by decide, by decide +kernel⟩, tb 333 (by decide +kernel) rfl, tb 334 (by decide +kernel) rfl⟩
theorem cv_X6_33 : CV RX6 33 mX6_afterLetters 1 := ⟨⟨tb 269 (by decide +kernel) rfl, tb 2 (by decide +kernel) rfl, tb 272 (by decide +kernel) rfl, by decide, by decide, by decide +kernel⟩, tb 270 (by decide +kernel) rfl, tb 271 (by decide +kernel) rfl⟩
theorem cv_X6_36 : CV RX6 36 mJ0_length_8abf5 0 := ⟨⟨tb 276 (by decide +kernel) rfl, tb 13 (by decide +kernel) rfl, tb 279 (by decide +kernel) rfl, by decide, by decide, by decide +kernel⟩, tb 277 (by decide +kernel) rfl, tb 278 (by decide +kernel) rfl⟩
theorem cv_X6_42 : CV RX6 42 mJ0_charAt_5068e 1 := ⟨⟨tb 286 (by decide +kernel) rfl, tb 13 (by decide +kernel) rfl, tb 289 (by decide +kernel) rfl, by decide, by decide, by decide +kernel⟩, tb 287 (by decide +kernel) rfl, tb 288 (by decide +kernel) rfl⟩
theorem csn_X6_46 : CSN RX6 46 mX7_isIn 2 := ⟨"FatherLists", ⟨tn 357 (by decide +kernel) rfl, tb 1 (by decide +kernel) rfl, tb 326 (by decide +kernel) rfl, by decide, by decide, by decide +kernel⟩, tb 325 (by decide +kernel) rfl⟩
theorem ff_X7_12 : FF RX7 12 7 0 (.object "FatherLists$Text") := ⟨RX7, TX7, 12, tyX7, rfl, by decide, uw_X7, rfl, tb 182 (by decide +kernel) rfl, tyX7_ok, nmX7, rfl, rfl, by decide +kernel⟩
theorem ff_X7_19 : FF RX7 19 7 1 (.object "FatherLists$Law") := ⟨RX7, TX7, 12, tyX7, rfl, by decide, uw_X7, rfl, tb 183 (by decide +kernel) rfl, tyX7_ok, nmX7, rfl, rfl, by decide +kernel⟩
theorem ff_X7_26 : FF RX7 26 7 2 (.object "FatherLists$Records") := ⟨RX7, TX7, 12, tyX7, rfl, by decide, uw_X7, rfl, tb 184 (by decide +kernel) rfl, tyX7_ok, nmX7, rfl, rfl, by decide +kernel⟩
theorem ff_X7_30 : FF RX7 30 7 3 (.object "FatherLists$Records") := ⟨RX7, TX7, 12, tyX7, rfl, by decide, uw_X7, rfl, tb 185 (by decide +kernel) rfl, tyX7_ok, nmX7, rfl, rfl, by decide +kernel⟩
theorem ff_X7_33 : FF RX7 33 7 4 (.object "FatherLists$Records") := ⟨RX7, TX7, 12, tyX7, rfl, by decide, uw_X7, rfl, tb 186 (by decide +kernel) rfl, tyX7_ok, nmX7, rfl, rfl, by decide +kernel⟩
theorem ff_X7_39 : FF RX7 39 7 5 (.object "FatherLists$Saying") := ⟨RX7, TX7, 12, tyX7, rfl, by decide, uw_X7, rfl, tb 187 (by decide +kernel) rfl, tyX7_ok, nmX7, rfl, rfl, by decide +kernel⟩
theorem ff_X7_43 : FF RX7 43 7 6 (.object "FatherLists$Saying") := ⟨RX7, TX7, 12, tyX7, rfl, by decide, uw_X7, rfl, tb 188 (by decide +kernel) rfl, tyX7_ok, nmX7, rfl, rfl, by decide +kernel⟩
theorem ff_X7_49 : FF RX7 49 7 7 (.object "FatherLists$SideBySide") := ⟨RX7, TX7, 12, tyX7, rfl, by decide, uw_X7, rfl, tb 189 (by decide +kernel) rfl, tyX7_ok, nmX7, rfl, rfl, by decide +kernel⟩
theorem ff_X7_53 : FF RX7 53 7 8 (.array .int) := ⟨RX7, TX7, 12, tyX7, rfl, by decide, uw_X7, rfl, tb 190 (by decide +kernel) rfl, tyX7_ok, nmX7, rfl, rfl, by decide +kernel⟩
theorem fp_X7_57 : FP RX7 57 7 9 .int := ⟨RX7, TX7, 12, tyX7, rfl, by decide, uw_X7, rfl, tb 191 (by decide +kernel) rfl, tyX7_ok, nmX7, rfl, by decide +kernel⟩
theorem fp_X7_61 : FP RX7 61 7 10 .int := ⟨RX7, TX7, 12, tyX7, rfl, by decide, uw_X7, rfl, tb 192 (by decide +kernel) rfl, tyX7_ok, nmX7, rfl, by decide +kernel⟩
theorem fp_X7_64 : FP RX7 64 7 11 .long := ⟨RX7, TX7, 12, tyX7, rfl, by decide, uw_X7, rfl, tb 193 (by decide +kernel) rfl, tyX7_ok, nmX7, rfl, by decide +kernel⟩
theorem cin_X7_11 : CIN RX7 11 mX6_init 0 := ⟨"FatherLists", ⟨tn 28 (by decide +kernel) rfl, tb 2 (by decide +kernel) rfl, tb 30 (by decide +kernel) rfl, by decide, by decide, by decide +kernel⟩, rfl, tb 29 (by decide +kernel) rfl, rfl⟩
theorem cin_X7_18 : CIN RX7 18 mX1_init 0 := ⟨"FatherLists", ⟨tn 45 (by decide +kernel) rfl, tb 3 (by decide +kernel) rfl, tb 47 (by decide +kernel) rfl, by decide, by decide, by decide +kernel⟩, rfl, tb 46 (by decide +kernel) rfl, rfl⟩
theorem ci_X7_25 : CI RX7 25 mX2_init 0 := ⟨⟨tb 69 (by decide +kernel) rfl, tb 4 (by decide +kernel) rfl, tb 71 (by decide +kernel) rfl, by decide, by decide, by decide +kernel⟩, rfl, tb 70 (by decide +kernel) rfl, rfl⟩
theorem cin_X7_38 : CIN RX7 38 mX4_init 0 := ⟨"FatherLists", ⟨tn 135 (by decide +kernel) rfl, tb 9 (by decide +kernel) rfl, tb 137 (by decide +kernel) rfl, by decide, by decide, by decide +kernel⟩, rfl, tb 136 (by decide +kernel) rfl, rfl⟩
theorem cin_X7_48 : CIN RX7 48 mX5_init 0 := ⟨"FatherLists", ⟨tn 163 (by decide +kernel) rfl, tb 10 (by decide +kernel) rfl, tb 165 (by decide +kernel) rfl, by decide, by decide, by decide +kernel⟩, rfl, tb 164 (by decide +kernel) rfl, rfl⟩
theorem fg_X7_12 : FG RX7 12 7 0 := ⟨RX7, TX7, 12, rfl, by decide, uw_X7, rfl, tb 182 (by decide +kernel) rfl⟩
theorem fg_X7_68 : FG RX7 68 6 1 := ⟨RX6, TX6, 2, rfl, by decide, uw_X6, rfl, tb 34 (by decide +kernel) rfl⟩
theorem cv_X7_71 : CV RX7 71 mX6_add 1 := ⟨⟨tb 223 (by decide +kernel) rfl, tb 2 (by decide +kernel) rfl, tb 226 (by decide +kernel) rfl, by decide, by decide, by decide +kernel⟩, tb 224 (by decide +kernel) rfl, tb 225 (by decide +kernel) rfl⟩
theorem cv_X7_75 : CV RX7 75 mX6_empty 0 := ⟨⟨tb 231 (by decide +kernel) rfl, tb 2 (by decide +kernel) rfl, tb 234 (by decide +kernel) rfl, by decide, by decide, by decide +kernel⟩, tb 232 (by decide +kernel) rfl, tb 233 (by decide +kernel) rfl⟩
theorem fg_X7_19 : FG RX7 19 7 1 := ⟨RX7, TX7, 12, rfl, by decide, uw_X7, rfl, tb 183 (by decide +kernel) rfl⟩
theorem cv_X7_79 : CV RX7 79 mX1_read 1 := ⟨⟨tb 239 (by decide +kernel) rfl, tb 3 (by decide +kernel) rfl, tb 242 (by decide +kernel) rfl, by decide, by decide, by decide +kernel⟩, tb 240 (by decide +kernel) rfl, tb 241 (by decide +kernel) rfl⟩
theorem fg_X7_26 : FG RX7 26 7 2 := ⟨RX7, TX7, 12, rfl, by decide, uw_X7, rfl, tb 184 (by decide +kernel) rfl⟩
theorem fg_X7_90 : FG RX7 90 2 0 := ⟨RX2, TX2, 4, rfl, by decide, uw_X2, rfl, tb 117 (by decide +kernel) rfl⟩
theorem fg_X7_99 : FG RX7 99 3 1 := ⟨RX3, TX3, 2, rfl, by decide, uw_X3, rfl, tb 108 (by decide +kernel) rfl⟩
theorem cs_X7_83 : CS RX7 83 mX7_isList 1 := ⟨⟨tb 350 (by decide +kernel) rfl, tb 1 (by decide +kernel) rfl, tb 352 (by decide +kernel) rfl, by decide, by decide, by decide +kernel⟩, tb 351 (by decide +kernel) rfl⟩
theorem cv_X7_87 : CV RX7 87 mX6_faultAsList 0 := ⟨⟨tb 353 (by decide +kernel) rfl, tb 2 (by decide +kernel) rfl, tb 356 (by decide +kernel) rfl, by decide, by decide, by decide +kernel⟩, tb 354 (by decide +kernel) rfl, tb 355 (by decide +kernel) rfl⟩
theorem cv_X7_94 : CV RX7 94 mX3_read 1 := ⟨⟨tb 358 (by decide +kernel) rfl, tb 7 (by decide +kernel) rfl, tb 361 (by decide +kernel) rfl, by decide, by decide, by decide +kernel⟩, tb 359 (by decide +kernel) rfl, tb 360 (by decide +kernel) rfl⟩
theorem fg_X7_100 : FG RX7 100 1 0 := ⟨RX1, TX1, 2, rfl, by decide, uw_X1, rfl, tb 60 (by decide +kernel) rfl⟩
theorem cv_X7_103 : CV RX7 103 mX3_has 1 := ⟨⟨tb 376 (by decide +kernel) rfl, tb 7 (by decide +kernel) rfl, tb 379 (by decide +kernel) rfl, by decide, by decide, by decide +kernel⟩, tb 377 (by decide +kernel) rfl, tb 378 (by decide +kernel) rfl⟩
theorem cv_X7_106 : CV RX7 106 mX3_nameAt 1 := ⟨⟨tb 380 (by decide +kernel) rfl, tb 7 (by decide +kernel) rfl, tb 383 (by decide +kernel) rfl, by decide, by decide, by decide +kernel⟩, tb 381 (by decide +kernel) rfl, tb 382 (by decide +kernel) rfl⟩
theorem cs_X7_110 : CS RX7 110 mX7_isName 1 := ⟨⟨tb 389 (by decide +kernel) rfl, tb 1 (by decide +kernel) rfl, tb 391 (by decide +kernel) rfl, by decide, by decide, by decide +kernel⟩, tb 390 (by decide +kernel) rfl⟩
theorem cv_X7_113 : CV RX7 113 mX3_placeOf 1 := ⟨⟨tb 392 (by decide +kernel) rfl, tb 7 (by decide +kernel) rfl, tb 395 (by decide +kernel) rfl, by decide, by decide, by decide +kernel⟩, tb 393 (by decide +kernel) rfl, tb 394 (by decide +kernel) rfl⟩
theorem fg_X7_122 : FG RX7 122 2 1 := ⟨RX2, TX2, 4, rfl, by decide, uw_X2, rfl, tb 119 (by decide +kernel) rfl⟩
theorem fg_X7_126 : FG RX7 126 0 0 := ⟨RX0, TX0, 2, rfl, by decide, uw_X0, rfl, tb 86 (by decide +kernel) rfl⟩
theorem fg_X7_138 : FG RX7 138 0 1 := ⟨RX0, TX0, 2, rfl, by decide, uw_X0, rfl, tb 89 (by decide +kernel) rfl⟩
theorem cs_X7_116 : CS RX7 116 mX7_isHouse 1 := ⟨⟨tb 400 (by decide +kernel) rfl, tb 1 (by decide +kernel) rfl, tb 402 (by decide +kernel) rfl, by decide, by decide, by decide +kernel⟩, tb 401 (by decide +kernel) rfl⟩
theorem cs_X7_119 : CS RX7 119 mX7_isStrength 1 := ⟨⟨tb 403 (by decide +kernel) rfl, tb 1 (by decide +kernel) rfl, tb 405 (by decide +kernel) rfl, by decide, by decide, by decide +kernel⟩, tb 404 (by decide +kernel) rfl⟩
theorem cs_X7_131 : CS RX7 131 mX7_exchange 3 := ⟨⟨tb 406 (by decide +kernel) rfl, tb 1 (by decide +kernel) rfl, tb 408 (by decide +kernel) rfl, by decide, by decide, by decide +kernel⟩, tb 407 (by decide +kernel) rfl⟩
theorem cs_X7_135 : CS RX7 135 mX7_isNameOrNone 1 := ⟨⟨tb 409 (by decide +kernel) rfl, tb 1 (by decide +kernel) rfl, tb 411 (by decide +kernel) rfl, by decide, by decide, by decide +kernel⟩, tb 410 (by decide +kernel) rfl⟩
theorem cv_X7_141 : CV RX7 141 mX0_heldOf 1 := ⟨⟨tb 416 (by decide +kernel) rfl, tb 5 (by decide +kernel) rfl, tb 419 (by decide +kernel) rfl, by decide, by decide, by decide +kernel⟩, tb 417 (by decide +kernel) rfl, tb 418 (by decide +kernel) rfl⟩
theorem fg_X7_39 : FG RX7 39 7 5 := ⟨RX7, TX7, 12, rfl, by decide, uw_X7, rfl, tb 187 (by decide +kernel) rfl⟩
theorem fg_X7_152 : FG RX7 152 4 0 := ⟨RX4, TX4, 5, rfl, by decide, uw_X4, rfl, tb 144 (by decide +kernel) rfl⟩
theorem cv_X7_144 : CV RX7 144 mX4_begin 2 := ⟨⟨tb 424 (by decide +kernel) rfl, tb 9 (by decide +kernel) rfl, tb 427 (by decide +kernel) rfl, by decide, by decide, by decide +kernel⟩, tb 425 (by decide +kernel) rfl, tb 426 (by decide +kernel) rfl⟩
theorem cv_X7_148 : CV RX7 148 mX4_speak 2 := ⟨⟨tb 440 (by decide +kernel) rfl, tb 9 (by decide +kernel) rfl, tb 443 (by decide +kernel) rfl, by decide, by decide, by decide +kernel⟩, tb 441 (by decide +kernel) rfl, tb 442 (by decide +kernel) rfl⟩
theorem cv_X7_156 : CV RX7 156 mX3_become 1 := ⟨⟨tb 490 (by decide +kernel) rfl, tb 7 (by decide +kernel) rfl, tb 431 (by decide +kernel) rfl, by decide, by decide, by decide +kernel⟩, tb 429 (by decide +kernel) rfl, tb 430 (by decide +kernel) rfl⟩
theorem cv_X7_160 : CV RX7 160 mX4_changed 1 := ⟨⟨tb 495 (by decide +kernel) rfl, tb 9 (by decide +kernel) rfl, tb 498 (by decide +kernel) rfl, by decide, by decide, by decide +kernel⟩, tb 496 (by decide +kernel) rfl, tb 497 (by decide +kernel) rfl⟩
theorem fg_X7_43 : FG RX7 43 7 6 := ⟨RX7, TX7, 12, rfl, by decide, uw_X7, rfl, tb 188 (by decide +kernel) rfl⟩
theorem fg_X7_163 : FG RX7 163 4 1 := ⟨RX4, TX4, 5, rfl, by decide, uw_X4, rfl, tb 146 (by decide +kernel) rfl⟩
theorem cv_X7_164 : CV RX7 164 mX3_bits 0 := ⟨⟨tb 507 (by decide +kernel) rfl, tb 7 (by decide +kernel) rfl, tb 510 (by decide +kernel) rfl, by decide, by decide, by decide +kernel⟩, tb 508 (by decide +kernel) rfl, tb 509 (by decide +kernel) rfl⟩
theorem cv_X7_167 : CV RX7 167 mX7_sameOrder 2 := ⟨⟨tb 511 (by decide +kernel) rfl, tb 1 (by decide +kernel) rfl, tb 514 (by decide +kernel) rfl, by decide, by decide, by decide +kernel⟩, tb 513 (by decide +kernel) rfl, tp 0 (by decide +kernel) rfl⟩
theorem cs_X7_171 : CS RX7 171 mJ6_bitCount_0f7a4 1 := ⟨⟨tb 520 (by decide +kernel) rfl, tb 17 (by decide +kernel) rfl, tb 522 (by decide +kernel) rfl, by decide, by decide, by decide +kernel⟩, tb 521 (by decide +kernel) rfl⟩
theorem fg_X7_49 : FG RX7 49 7 7 := ⟨RX7, TX7, 12, rfl, by decide, uw_X7, rfl, tb 189 (by decide +kernel) rfl⟩
theorem cs_X7_176 : CS RX7 176 mX7_isSet 1 := ⟨⟨tb 530 (by decide +kernel) rfl, tb 1 (by decide +kernel) rfl, tb 532 (by decide +kernel) rfl, by decide, by decide, by decide +kernel⟩, tb 531 (by decide +kernel) rfl⟩
theorem cv_X7_181 : CV RX7 181 mX5_look 2 := ⟨⟨tb 534 (by decide +kernel) rfl, tb 10 (by decide +kernel) rfl, tb 537 (by decide +kernel) rfl, by decide, by decide, by decide +kernel⟩, tb 535 (by decide +kernel) rfl, tb 536 (by decide +kernel) rfl⟩
theorem cv_X7_185 : CV RX7 185 mX5_areTooMany 0 := ⟨⟨tb 546 (by decide +kernel) rfl, tb 10 (by decide +kernel) rfl, tb 549 (by decide +kernel) rfl, by decide, by decide, by decide +kernel⟩, tb 547 (by decide +kernel) rfl, tb 548 (by decide +kernel) rfl⟩
theorem cv_X7_191 : CV RX7 191 mX5_countOrders 0 := ⟨⟨tb 552 (by decide +kernel) rfl, tb 10 (by decide +kernel) rfl, tb 555 (by decide +kernel) rfl, by decide, by decide, by decide +kernel⟩, tb 553 (by decide +kernel) rfl, tb 554 (by decide +kernel) rfl⟩
theorem cv_X7_195 : CV RX7 195 mX5_fewestWithoutOrder 2 := ⟨⟨tb 572 (by decide +kernel) rfl, tb 10 (by decide +kernel) rfl, tb 575 (by decide +kernel) rfl, by decide, by decide, by decide +kernel⟩, tb 573 (by decide +kernel) rfl, tb 574 (by decide +kernel) rfl⟩
theorem fg_X7_199 : FG RX7 199 5 3 := ⟨RX5, TX5, 4, rfl, by decide, uw_X5, rfl, tb 171 (by decide +kernel) rfl⟩
theorem cs_X7_202 : CS RX7 202 mX7_isIn 2 := ⟨⟨tb 589 (by decide +kernel) rfl, tb 1 (by decide +kernel) rfl, tb 326 (by decide +kernel) rfl, by decide, by decide, by decide +kernel⟩, tb 325 (by decide +kernel) rfl⟩
theorem cv_X7_206 : CV RX7 206 mX5_haveOrder 0 := ⟨⟨tb 590 (by decide +kernel) rfl, tb 10 (by decide +kernel) rfl, tb 580 (by decide +kernel) rfl, by decide, by decide, by decide +kernel⟩, tb 578 (by decide +kernel) rfl, tb 579 (by decide +kernel) rfl⟩
theorem cv_X7_209 : CV RX7 209 mX5_allAheadOf 1 := ⟨⟨tb 591 (by decide +kernel) rfl, tb 10 (by decide +kernel) rfl, tb 594 (by decide +kernel) rfl, by decide, by decide, by decide +kernel⟩, tb 592 (by decide +kernel) rfl, tb 593 (by decide +kernel) rfl⟩
theorem fg_X7_212 : FG RX7 212 2 2 := ⟨RX2, TX2, 4, rfl, by decide, uw_X2, rfl, tb 121 (by decide +kernel) rfl⟩
theorem fg_X7_61 : FG RX7 61 7 10 := ⟨RX7, TX7, 12, rfl, by decide, uw_X7, rfl, tb 192 (by decide +kernel) rfl⟩
theorem fg_X7_57 : FG RX7 57 7 9 := ⟨RX7, TX7, 12, rfl, by decide, uw_X7, rfl, tb 191 (by decide +kernel) rfl⟩
theorem cv_X7_216 : CV RX7 216 mX7_isAnyDated 1 := ⟨⟨tb 612 (by decide +kernel) rfl, tb 1 (by decide +kernel) rfl, tb 615 (by decide +kernel) rfl, by decide, by decide, by decide +kernel⟩, tb 614 (by decide +kernel) rfl, tp 2 (by decide +kernel) rfl⟩
theorem cv_X7_220 : CV RX7 220 mX7_doDatesFit 1 := ⟨⟨tb 620 (by decide +kernel) rfl, tb 1 (by decide +kernel) rfl, tb 623 (by decide +kernel) rfl, by decide, by decide, by decide +kernel⟩, tb 622 (by decide +kernel) rfl, tp 4 (by decide +kernel) rfl⟩
theorem cv_X7_223 : CV RX7 223 mX7_earliest 2 := ⟨⟨tb 624 (by decide +kernel) rfl, tb 1 (by decide +kernel) rfl, tb 627 (by decide +kernel) rfl, by decide, by decide, by decide +kernel⟩, tb 626 (by decide +kernel) rfl, tp 5 (by decide +kernel) rfl⟩
theorem cv_X7_227 : CV RX7 227 mX7_latestYear 2 := ⟨⟨tb 628 (by decide +kernel) rfl, tb 1 (by decide +kernel) rfl, tb 631 (by decide +kernel) rfl, by decide, by decide, by decide +kernel⟩, tb 630 (by decide +kernel) rfl, tp 6 (by decide +kernel) rfl⟩
theorem cv_X7_230 : CV RX7 230 mX7_dateAt 2 := ⟨⟨tb 616 (by decide +kernel) rfl, tb 1 (by decide +kernel) rfl, tb 619 (by decide +kernel) rfl, by decide, by decide, by decide +kernel⟩, tb 618 (by decide +kernel) rfl, tp 3 (by decide +kernel) rfl⟩
theorem cv_X7_233 : CV RX7 233 mX7_lostBetween 2 := ⟨⟨tb 638 (by decide +kernel) rfl, tb 1 (by decide +kernel) rfl, tb 641 (by decide +kernel) rfl, by decide, by decide, by decide +kernel⟩, tb 640 (by decide +kernel) rfl, tp 7 (by decide +kernel) rfl⟩
theorem cv_X7_237 : CV RX7 237 mX3_placeOrEnd 1 := ⟨⟨tb 646 (by decide +kernel) rfl, tb 7 (by decide +kernel) rfl, tb 649 (by decide +kernel) rfl, by decide, by decide, by decide +kernel⟩, tb 647 (by decide +kernel) rfl, tb 648 (by decide +kernel) rfl⟩
theorem cs_X7_240 : CS RX7 240 mJ6_compare_7cf53 2 := ⟨⟨tb 651 (by decide +kernel) rfl, tb 17 (by decide +kernel) rfl, tb 653 (by decide +kernel) rfl, by decide, by decide, by decide +kernel⟩, tb 652 (by decide +kernel) rfl⟩
theorem cv_X7_243 : CV RX7 243 mX7_worthAsName 1 := ⟨⟨tb 658 (by decide +kernel) rfl, tb 1 (by decide +kernel) rfl, tb 661 (by decide +kernel) rfl, by decide, by decide, by decide +kernel⟩, tb 660 (by decide +kernel) rfl, tp 8 (by decide +kernel) rfl⟩
theorem cv_X7_246 : CV RX7 246 mX7_worthAsClaimed 1 := ⟨⟨tb 662 (by decide +kernel) rfl, tb 1 (by decide +kernel) rfl, tb 665 (by decide +kernel) rfl, by decide, by decide, by decide +kernel⟩, tb 664 (by decide +kernel) rfl, tp 9 (by decide +kernel) rfl⟩
theorem cv_X7_249 : CV RX7 249 mX7_worthAsJoined 1 := ⟨⟨tb 667 (by decide +kernel) rfl, tb 1 (by decide +kernel) rfl, tb 670 (by decide +kernel) rfl, by decide, by decide, by decide +kernel⟩, tb 669 (by decide +kernel) rfl, tp 10 (by decide +kernel) rfl⟩
theorem cv_X7_252 : CV RX7 252 mX7_worthAsStood 1 := ⟨⟨tb 673 (by decide +kernel) rfl, tb 1 (by decide +kernel) rfl, tb 676 (by decide +kernel) rfl, by decide, by decide, by decide +kernel⟩, tb 675 (by decide +kernel) rfl, tp 11 (by decide +kernel) rfl⟩
theorem cv_X7_255 : CV RX7 255 mX7_worthAsDated 1 := ⟨⟨tb 678 (by decide +kernel) rfl, tb 1 (by decide +kernel) rfl, tb 681 (by decide +kernel) rfl, by decide, by decide, by decide +kernel⟩, tb 680 (by decide +kernel) rfl, tp 12 (by decide +kernel) rfl⟩
theorem cv_X7_258 : CV RX7 258 mX7_worthAsFar 1 := ⟨⟨tb 683 (by decide +kernel) rfl, tb 1 (by decide +kernel) rfl, tb 686 (by decide +kernel) rfl, by decide, by decide, by decide +kernel⟩, tb 685 (by decide +kernel) rfl, tp 13 (by decide +kernel) rfl⟩
theorem fg_X7_30 : FG RX7 30 7 3 := ⟨RX7, TX7, 12, rfl, by decide, uw_X7, rfl, tb 185 (by decide +kernel) rfl⟩
theorem fg_X7_33 : FG RX7 33 7 4 := ⟨RX7, TX7, 12, rfl, by decide, uw_X7, rfl, tb 186 (by decide +kernel) rfl⟩
theorem fp_X7_264 : FP RX7 264 2 3 .boolean := ⟨RX2, TX2, 4, tyX2, rfl, by decide, uw_X2, rfl, tb 123 (by decide +kernel) rfl, tyX2_ok, nmX2, rfl, by decide +kernel⟩
theorem cv_X7_261 : CV RX7 261 mX2_become 1 := ⟨⟨tb 692 (by decide +kernel) rfl, tb 4 (by decide +kernel) rfl, tb 695 (by decide +kernel) rfl, by decide, by decide, by decide +kernel⟩, tb 693 (by decide +kernel) rfl, tb 694 (by decide +kernel) rfl⟩
theorem cv_X7_268 : CV RX7 268 mX2_countNames 0 := ⟨⟨tb 699 (by decide +kernel) rfl, tb 4 (by decide +kernel) rfl, tb 702 (by decide +kernel) rfl, by decide, by decide, by decide +kernel⟩, tb 700 (by decide +kernel) rfl, tb 701 (by decide +kernel) rfl⟩
theorem fg_X7_264 : FG RX7 264 2 3 := ⟨RX2, TX2, 4, rfl, by decide, uw_X2, rfl, tb 123 (by decide +kernel) rfl⟩
theorem cs_X7_271 : CS RX7 271 mX7_countThere 1 := ⟨⟨tb 711 (by decide +kernel) rfl, tb 1 (by decide +kernel) rfl, tb 713 (by decide +kernel) rfl, by decide, by decide, by decide +kernel⟩, tb 712 (by decide +kernel) rfl⟩
theorem fg_X7_64 : FG RX7 64 7 11 := ⟨RX7, TX7, 12, rfl, by decide, uw_X7, rfl, tb 193 (by decide +kernel) rfl⟩
theorem fg_X7_53 : FG RX7 53 7 8 := ⟨RX7, TX7, 12, rfl, by decide, uw_X7, rfl, tb 190 (by decide +kernel) rfl⟩
theorem cv_X7_275 : CV RX7 275 mX7_longestAhead 4 := ⟨⟨tb 515 (by decide +kernel) rfl, tb 1 (by decide +kernel) rfl, tb 518 (by decide +kernel) rfl, by decide, by decide, by decide +kernel⟩, tb 517 (by decide +kernel) rfl, tp 1 (by decide +kernel) rfl⟩
theorem cs_X7_279 : CS RX7 279 mJ9_max_7cf53 2 := ⟨⟨tb 519 (by decide +kernel) rfl, tb 8 (by decide +kernel) rfl, tb 102 (by decide +kernel) rfl, by decide, by decide, by decide +kernel⟩, tb 101 (by decide +kernel) rfl⟩
theorem cs_X7_285 : CS RX7 285 mJ9_min_7cf53 2 := ⟨⟨tb 633 (by decide +kernel) rfl, tb 8 (by decide +kernel) rfl, tb 434 (by decide +kernel) rfl, by decide, by decide, by decide +kernel⟩, tb 433 (by decide +kernel) rfl⟩
theorem cv_X7_292 : CV RX7 292 mX0_countBy 1 := ⟨⟨tb 672 (by decide +kernel) rfl, tb 5 (by decide +kernel) rfl, tb 471 (by decide +kernel) rfl, by decide, by decide, by decide +kernel⟩, tb 469 (by decide +kernel) rfl, tb 470 (by decide +kernel) rfl⟩
theorem ff_X8_7 : FF RX8 7 8 2 (.array .int) := ⟨RX8, TX8, 24, tyX8, rfl, by decide, uw_X8, rfl, tb 734 (by decide +kernel) rfl, tyX8_ok, nmX8, rfl, rfl, by decide +kernel⟩
theorem ff_X8_13 : FF RX8 13 8 3 (.array .int) := ⟨RX8, TX8, 24, tyX8, rfl, by decide, uw_X8, rfl, tb 735 (by decide +kernel) rfl, tyX8_ok, nmX8, rfl, rfl, by decide +kernel⟩
theorem ff_X8_16 : FF RX8 16 8 4 (.array .boolean) := ⟨RX8, TX8, 24, tyX8, rfl, by decide, uw_X8, rfl, tb 736 (by decide +kernel) rfl, tyX8_ok, nmX8, rfl, rfl, by decide +kernel⟩
theorem ff_X8_20 : FF RX8 20 8 5 (.array .int) := ⟨RX8, TX8, 24, tyX8, rfl, by decide, uw_X8, rfl, tb 737 (by decide +kernel) rfl, tyX8_ok, nmX8, rfl, rfl, by decide +kernel⟩
theorem ff_X8_23 : FF RX8 23 8 6 (.array .int) := ⟨RX8, TX8, 24, tyX8, rfl, by decide, uw_X8, rfl, tb 738 (by decide +kernel) rfl, tyX8_ok, nmX8, rfl, rfl, by decide +kernel⟩
theorem fp_X8_26 : FP RX8 26 8 13 .int := ⟨RX8, TX8, 24, tyX8, rfl, by decide, uw_X8, rfl, tb 745 (by decide +kernel) rfl, tyX8_ok, nmX8, rfl, by decide +kernel⟩
theorem fp_X8_30 : FP RX8 30 8 14 .int := ⟨RX8, TX8, 24, tyX8, rfl, by decide, uw_X8, rfl, tb 746 (by decide +kernel) rfl, tyX8_ok, nmX8, rfl, by decide +kernel⟩
theorem ff_X8_33 : FF RX8 33 8 15 (.array .int) := ⟨RX8, TX8, 24, tyX8, rfl, by decide, uw_X8, rfl, tb 747 (by decide +kernel) rfl, tyX8_ok, nmX8, rfl, rfl, by decide +kernel⟩
theorem ff_X8_36 : FF RX8 36 8 17 (.array .int) := ⟨RX8, TX8, 24, tyX8, rfl, by decide, uw_X8, rfl, tb 749 (by decide +kernel) rfl, tyX8_ok, nmX8, rfl, rfl, by decide +kernel⟩
theorem ff_X8_39 : FF RX8 39 8 18 (.array .int) := ⟨RX8, TX8, 24, tyX8, rfl, by decide, uw_X8, rfl, tb 750 (by decide +kernel) rfl, tyX8_ok, nmX8, rfl, rfl, by decide +kernel⟩
theorem ff_X8_42 : FF RX8 42 8 19 (.array .int) := ⟨RX8, TX8, 24, tyX8, rfl, by decide, uw_X8, rfl, tb 751 (by decide +kernel) rfl, tyX8_ok, nmX8, rfl, rfl, by decide +kernel⟩
theorem ff_X8_45 : FF RX8 45 8 21 (.array .int) := ⟨RX8, TX8, 24, tyX8, rfl, by decide, uw_X8, rfl, tb 753 (by decide +kernel) rfl, tyX8_ok, nmX8, rfl, rfl, by decide +kernel⟩
theorem ff_X8_48 : FF RX8 48 8 22 (.array .long) := ⟨RX8, TX8, 24, tyX8, rfl, by decide, uw_X8, rfl, tb 754 (by decide +kernel) rfl, tyX8_ok, nmX8, rfl, rfl, by decide +kernel⟩
theorem ff_X8_52 : FF RX8 52 8 23 (.array .int) := ⟨RX8, TX8, 24, tyX8, rfl, by decide, uw_X8, rfl, tb 755 (by decide +kernel) rfl, tyX8_ok, nmX8, rfl, rfl, by decide +kernel⟩
theorem fg_X8_7 : FG RX8 7 8 2 := ⟨RX8, TX8, 24, rfl, by decide, uw_X8, rfl, tb 734 (by decide +kernel) rfl⟩
theorem cv_X8_55 : CV RX8 55 mX8_begins 0 := ⟨⟨tb 724 (by decide +kernel) rfl, tb 11 (by decide +kernel) rfl, tb 727 (by decide +kernel) rfl, by decide, by decide, by decide +kernel⟩, tb 726 (by decide +kernel) rfl, tp 14 (by decide +kernel) rfl⟩
theorem cv_X8_58 : CV RX8 58 mX8_lays 0 := ⟨⟨tb 728 (by decide +kernel) rfl, tb 11 (by decide +kernel) rfl, tb 731 (by decide +kernel) rfl, by decide, by decide, by decide +kernel⟩, tb 730 (by decide +kernel) rfl, tp 15 (by decide +kernel) rfl⟩
theorem cs_X8_64 : CS RX8 64 mX8_in 3 := ⟨⟨tb 810 (by decide +kernel) rfl, tb 11 (by decide +kernel) rfl, tb 812 (by decide +kernel) rfl, by decide, by decide, by decide +kernel⟩, tb 811 (by decide +kernel) rfl⟩
theorem cv_X8_68 : CV RX8 68 mX8_sizeOf 1 := ⟨⟨tb 855 (by decide +kernel) rfl, tb 11 (by decide +kernel) rfl, tb 858 (by decide +kernel) rfl, by decide, by decide, by decide +kernel⟩, tb 857 (by decide +kernel) rfl, tp 20 (by decide +kernel) rfl⟩
theorem cv_X8_72 : CV RX8 72 mX8_at 2 := ⟨⟨tb 867 (by decide +kernel) rfl, tb 11 (by decide +kernel) rfl, tb 870 (by decide +kernel) rfl, by decide, by decide, by decide +kernel⟩, tb 869 (by decide +kernel) rfl, tp 21 (by decide +kernel) rfl⟩
theorem fp_X8_61 : FP RX8 61 8 0 .int := ⟨RX8, TX8, 24, tyX8, rfl, by decide, uw_X8, rfl, tb 732 (by decide +kernel) rfl, tyX8_ok, nmX8, rfl, by decide +kernel⟩
theorem fg_X8_76 : FG RX8 76 8 7 := ⟨RX8, TX8, 24, rfl, by decide, uw_X8, rfl, tb 739 (by decide +kernel) rfl⟩
theorem fg_X8_23 : FG RX8 23 8 6 := ⟨RX8, TX8, 24, rfl, by decide, uw_X8, rfl, tb 738 (by decide +kernel) rfl⟩
theorem fp_X8_76 : FP RX8 76 8 7 .int := ⟨RX8, TX8, 24, tyX8, rfl, by decide, uw_X8, rfl, tb 739 (by decide +kernel) rfl, tyX8_ok, nmX8, rfl, by decide +kernel⟩
theorem fg_X8_20 : FG RX8 20 8 5 := ⟨RX8, TX8, 24, rfl, by decide, uw_X8, rfl, tb 737 (by decide +kernel) rfl⟩
theorem cs_X8_83 : CS RX8 83 mX8_add 2 := ⟨⟨tb 830 (by decide +kernel) rfl, tb 11 (by decide +kernel) rfl, tb 832 (by decide +kernel) rfl, by decide, by decide, by decide +kernel⟩, tb 831 (by decide +kernel) rfl⟩
theorem cs_X8_87 : CS RX8 87 mX8_word 5 := ⟨⟨tb 837 (by decide +kernel) rfl, tb 11 (by decide +kernel) rfl, tb 839 (by decide +kernel) rfl, by decide, by decide, by decide +kernel⟩, tb 838 (by decide +kernel) rfl⟩
theorem fg_X8_91 : FG RX8 91 8 8 := ⟨RX8, TX8, 24, rfl, by decide, uw_X8, rfl, tb 740 (by decide +kernel) rfl⟩
theorem fp_X8_91 : FP RX8 91 8 8 .int := ⟨RX8, TX8, 24, tyX8, rfl, by decide, uw_X8, rfl, tb 740 (by decide +kernel) rfl, tyX8_ok, nmX8, rfl, by decide +kernel⟩
theorem fp_X8_97 : FP RX8 97 8 10 .int := ⟨RX8, TX8, 24, tyX8, rfl, by decide, uw_X8, rfl, tb 742 (by decide +kernel) rfl, tyX8_ok, nmX8, rfl, by decide +kernel⟩
theorem fp_X8_100 : FP RX8 100 8 9 .int := ⟨RX8, TX8, 24, tyX8, rfl, by decide, uw_X8, rfl, tb 741 (by decide +kernel) rfl, tyX8_ok, nmX8, rfl, by decide +kernel⟩
theorem fg_X8_97 : FG RX8 97 8 10 := ⟨RX8, TX8, 24, rfl, by decide, uw_X8, rfl, tb 742 (by decide +kernel) rfl⟩
theorem fp_X8_107 : FP RX8 107 8 11 .int := ⟨RX8, TX8, 24, tyX8, rfl, by decide, uw_X8, rfl, tb 743 (by decide +kernel) rfl, tyX8_ok, nmX8, rfl, by decide +kernel⟩
theorem fg_X8_107 : FG RX8 107 8 11 := ⟨RX8, TX8, 24, rfl, by decide, uw_X8, rfl, tb 743 (by decide +kernel) rfl⟩
theorem cv_X8_94 : CV RX8 94 mX8_byteAt 1 := ⟨⟨tb 826 (by decide +kernel) rfl, tb 11 (by decide +kernel) rfl, tb 829 (by decide +kernel) rfl, by decide, by decide, by decide +kernel⟩, tb 828 (by decide +kernel) rfl, tp 17 (by decide +kernel) rfl⟩
theorem cs_X8_103 : CS RX8 103 mX8_wordOf 1 := ⟨⟨tb 834 (by decide +kernel) rfl, tb 11 (by decide +kernel) rfl, tb 836 (by decide +kernel) rfl, by decide, by decide, by decide +kernel⟩, tb 835 (by decide +kernel) rfl⟩
theorem fg_X8_110 : FG RX8 110 8 12 := ⟨RX8, TX8, 24, rfl, by decide, uw_X8, rfl, tb 744 (by decide +kernel) rfl⟩
theorem fp_X8_110 : FP RX8 110 8 12 .int := ⟨RX8, TX8, 24, tyX8, rfl, by decide, uw_X8, rfl, tb 744 (by decide +kernel) rfl, tyX8_ok, nmX8, rfl, by decide +kernel⟩
theorem cv_X8_113 : CV RX8 113 mX8_isWell 0 := ⟨⟨tb 840 (by decide +kernel) rfl, tb 11 (by decide +kernel) rfl, tb 843 (by decide +kernel) rfl, by decide, by decide, by decide +kernel⟩, tb 842 (by decide +kernel) rfl, tp 18 (by decide +kernel) rfl⟩
theorem cv_X8_117 : CV RX8 117 mX8_advances 0 := ⟨⟨tb 822 (by decide +kernel) rfl, tb 11 (by decide +kernel) rfl, tb 825 (by decide +kernel) rfl, by decide, by decide, by decide +kernel⟩, tb 824 (by decide +kernel) rfl, tp 16 (by decide +kernel) rfl⟩
theorem fg_X8_100 : FG RX8 100 8 9 := ⟨RX8, TX8, 24, rfl, by decide, uw_X8, rfl, tb 741 (by decide +kernel) rfl⟩
theorem cv_X8_120 : CV RX8 120 mX8_takes 1 := ⟨⟨tb 844 (by decide +kernel) rfl, tb 11 (by decide +kernel) rfl, tb 847 (by decide +kernel) rfl, by decide, by decide, by decide +kernel⟩, tb 846 (by decide +kernel) rfl, tp 19 (by decide +kernel) rfl⟩
theorem cs_X8_124 : CS RX8 124 mX8_isList 1 := ⟨⟨tb 852 (by decide +kernel) rfl, tb 11 (by decide +kernel) rfl, tb 854 (by decide +kernel) rfl, by decide, by decide, by decide +kernel⟩, tb 853 (by decide +kernel) rfl⟩
theorem cs_X8_128 : CS RX8 128 mX8_isName 1 := ⟨⟨tb 875 (by decide +kernel) rfl, tb 11 (by decide +kernel) rfl, tb 877 (by decide +kernel) rfl, by decide, by decide, by decide +kernel⟩, tb 876 (by decide +kernel) rfl⟩
theorem cv_X8_131 : CV RX8 131 mX8_placeOf 2 := ⟨⟨tb 878 (by decide +kernel) rfl, tb 11 (by decide +kernel) rfl, tb 881 (by decide +kernel) rfl, by decide, by decide, by decide +kernel⟩, tb 880 (by decide +kernel) rfl, tp 22 (by decide +kernel) rfl⟩
theorem cv_X8_134 : CV RX8 134 mX8_heldOf 1 := ⟨⟨tb 890 (by decide +kernel) rfl, tb 11 (by decide +kernel) rfl, tb 893 (by decide +kernel) rfl, by decide, by decide, by decide +kernel⟩, tb 892 (by decide +kernel) rfl, tp 23 (by decide +kernel) rfl⟩
theorem fg_X8_137 : FG RX8 137 8 16 := ⟨RX8, TX8, 24, rfl, by decide, uw_X8, rfl, tb 748 (by decide +kernel) rfl⟩
theorem fg_X8_33 : FG RX8 33 8 15 := ⟨RX8, TX8, 24, rfl, by decide, uw_X8, rfl, tb 747 (by decide +kernel) rfl⟩
theorem fg_X8_36 : FG RX8 36 8 17 := ⟨RX8, TX8, 24, rfl, by decide, uw_X8, rfl, tb 749 (by decide +kernel) rfl⟩
theorem fp_X8_137 : FP RX8 137 8 16 .int := ⟨RX8, TX8, 24, tyX8, rfl, by decide, uw_X8, rfl, tb 748 (by decide +kernel) rfl, tyX8_ok, nmX8, rfl, by decide +kernel⟩
theorem cv_X8_140 : CV RX8 140 mX8_found 1 := ⟨⟨tb 902 (by decide +kernel) rfl, tb 11 (by decide +kernel) rfl, tb 905 (by decide +kernel) rfl, by decide, by decide, by decide +kernel⟩, tb 904 (by decide +kernel) rfl, tp 25 (by decide +kernel) rfl⟩
theorem cv_X8_143 : CV RX8 143 mX8_isWeak 1 := ⟨⟨tb 906 (by decide +kernel) rfl, tb 11 (by decide +kernel) rfl, tb 909 (by decide +kernel) rfl, by decide, by decide, by decide +kernel⟩, tb 908 (by decide +kernel) rfl, tp 26 (by decide +kernel) rfl⟩
theorem cv_X8_146 : CV RX8 146 mX8_drops 1 := ⟨⟨tb 910 (by decide +kernel) rfl, tb 11 (by decide +kernel) rfl, tb 913 (by decide +kernel) rfl, by decide, by decide, by decide +kernel⟩, tb 912 (by decide +kernel) rfl, tp 27 (by decide +kernel) rfl⟩
theorem fg_X8_39 : FG RX8 39 8 18 := ⟨RX8, TX8, 24, rfl, by decide, uw_X8, rfl, tb 750 (by decide +kernel) rfl⟩
theorem cv_X8_150 : CV RX8 150 mX8_says 2 := ⟨⟨tb 898 (by decide +kernel) rfl, tb 11 (by decide +kernel) rfl, tb 901 (by decide +kernel) rfl, by decide, by decide, by decide +kernel⟩, tb 900 (by decide +kernel) rfl, tp 24 (by decide +kernel) rfl⟩
theorem fg_X8_52 : FG RX8 52 8 23 := ⟨RX8, TX8, 24, rfl, by decide, uw_X8, rfl, tb 755 (by decide +kernel) rfl⟩
theorem cv_X8_154 : CV RX8 154 mX8_setOf 1 := ⟨⟨tb 926 (by decide +kernel) rfl, tb 11 (by decide +kernel) rfl, tb 929 (by decide +kernel) rfl, by decide, by decide, by decide +kernel⟩, tb 928 (by decide +kernel) rfl, tp 28 (by decide +kernel) rfl⟩
theorem cv_X8_157 : CV RX8 157 mX8_longest 2 := ⟨⟨tb 930 (by decide +kernel) rfl, tb 11 (by decide +kernel) rfl, tb 933 (by decide +kernel) rfl, by decide, by decide, by decide +kernel⟩, tb 932 (by decide +kernel) rfl, tp 29 (by decide +kernel) rfl⟩
theorem cs_X8_160 : CS RX8 160 mX8_ones 1 := ⟨⟨tb 934 (by decide +kernel) rfl, tb 11 (by decide +kernel) rfl, tb 936 (by decide +kernel) rfl, by decide, by decide, by decide +kernel⟩, tb 935 (by decide +kernel) rfl⟩
theorem fg_X8_163 : FG RX8 163 8 20 := ⟨RX8, TX8, 24, rfl, by decide, uw_X8, rfl, tb 752 (by decide +kernel) rfl⟩
theorem fg_X8_42 : FG RX8 42 8 19 := ⟨RX8, TX8, 24, rfl, by decide, uw_X8, rfl, tb 751 (by decide +kernel) rfl⟩
theorem fp_X8_163 : FP RX8 163 8 20 .int := ⟨RX8, TX8, 24, tyX8, rfl, by decide, uw_X8, rfl, tb 752 (by decide +kernel) rfl, tyX8_ok, nmX8, rfl, by decide +kernel⟩
theorem fg_X8_45 : FG RX8 45 8 21 := ⟨RX8, TX8, 24, rfl, by decide, uw_X8, rfl, tb 753 (by decide +kernel) rfl⟩
theorem cv_X8_166 : CV RX8 166 mX8_number 1 := ⟨⟨tb 949 (by decide +kernel) rfl, tb 11 (by decide +kernel) rfl, tb 952 (by decide +kernel) rfl, by decide, by decide, by decide +kernel⟩, tb 951 (by decide +kernel) rfl, tp 31 (by decide +kernel) rfl⟩
theorem fg_X8_48 : FG RX8 48 8 22 := ⟨RX8, TX8, 24, rfl, by decide, uw_X8, rfl, tb 754 (by decide +kernel) rfl⟩
theorem cs_X8_169 : CS RX8 169 mX8_isSet 1 := ⟨⟨tb 941 (by decide +kernel) rfl, tb 11 (by decide +kernel) rfl, tb 943 (by decide +kernel) rfl, by decide, by decide, by decide +kernel⟩, tb 942 (by decide +kernel) rfl⟩
theorem cv_X8_174 : CV RX8 174 mX8_gathers 1 := ⟨⟨tb 945 (by decide +kernel) rfl, tb 11 (by decide +kernel) rfl, tb 948 (by decide +kernel) rfl, by decide, by decide, by decide +kernel⟩, tb 947 (by decide +kernel) rfl, tp 30 (by decide +kernel) rfl⟩
theorem cv_X8_179 : CV RX8 179 mX8_counts 0 := ⟨⟨tb 954 (by decide +kernel) rfl, tb 11 (by decide +kernel) rfl, tb 957 (by decide +kernel) rfl, by decide, by decide, by decide +kernel⟩, tb 956 (by decide +kernel) rfl, tp 32 (by decide +kernel) rfl⟩
theorem fg_X8_26 : FG RX8 26 8 13 := ⟨RX8, TX8, 24, rfl, by decide, uw_X8, rfl, tb 745 (by decide +kernel) rfl⟩
theorem fg_X8_30 : FG RX8 30 8 14 := ⟨RX8, TX8, 24, rfl, by decide, uw_X8, rfl, tb 746 (by decide +kernel) rfl⟩
theorem cv_X8_183 : CV RX8 183 mX8_dateAt 2 := ⟨⟨tb 979 (by decide +kernel) rfl, tb 11 (by decide +kernel) rfl, tb 982 (by decide +kernel) rfl, by decide, by decide, by decide +kernel⟩, tb 981 (by decide +kernel) rfl, tp 33 (by decide +kernel) rfl⟩
theorem cv_X8_187 : CV RX8 187 mX8_isWithin 3 := ⟨⟨tb 983 (by decide +kernel) rfl, tb 11 (by decide +kernel) rfl, tb 986 (by decide +kernel) rfl, by decide, by decide, by decide +kernel⟩, tb 985 (by decide +kernel) rfl, tp 34 (by decide +kernel) rfl⟩
theorem fg_X8_190 : FG RX8 190 8 1 := ⟨RX8, TX8, 24, rfl, by decide, uw_X8, rfl, tb 733 (by decide +kernel) rfl⟩
theorem fp_X8_190 : FP RX8 190 8 1 .long := ⟨RX8, TX8, 24, tyX8, rfl, by decide, uw_X8, rfl, tb 733 (by decide +kernel) rfl, tyX8_ok, nmX8, rfl, by decide +kernel⟩
theorem fg_X8_13 : FG RX8 13 8 3 := ⟨RX8, TX8, 24, rfl, by decide, uw_X8, rfl, tb 735 (by decide +kernel) rfl⟩
theorem fg_X8_16 : FG RX8 16 8 4 := ⟨RX8, TX8, 24, rfl, by decide, uw_X8, rfl, tb 736 (by decide +kernel) rfl⟩
theorem cv_X8_204 : CV RX8 204 mX8_together 0 := ⟨⟨tb 1008 (by decide +kernel) rfl, tb 11 (by decide +kernel) rfl, tb 1011 (by decide +kernel) rfl, by decide, by decide, by decide +kernel⟩, tb 1010 (by decide +kernel) rfl, tp 35 (by decide +kernel) rfl⟩
theorem cv_J0_335 : CV RJ0 335 mJ0_coder_7d493 0 := ⟨⟨tb 280 (by decide +kernel) rfl, tb 13 (by decide +kernel) rfl, tb 283 (by decide +kernel) rfl, by decide, by decide, by decide +kernel⟩, tb 281 (by decide +kernel) rfl, tb 282 (by decide +kernel) rfl⟩
theorem cv_J0_492 : CV RJ0 492 mJ0_isLatin1_aae02 0 := ⟨⟨tb 290 (by decide +kernel) rfl, tb 13 (by decide +kernel) rfl, tb 293 (by decide +kernel) rfl, by decide, by decide, by decide +kernel⟩, tb 291 (by decide +kernel) rfl, tb 292 (by decide +kernel) rfl⟩
theorem cs_J0_495 : CS RJ0 495 mJ1_charAt_3b067 2 := ⟨⟨tb 294 (by decide +kernel) rfl, tb 14 (by decide +kernel) rfl, tb 296 (by decide +kernel) rfl, by decide, by decide, by decide +kernel⟩, tb 295 (by decide +kernel) rfl⟩
theorem cs_J0_498 : CS RJ0 498 mJ2_charAt_3b067 2 := ⟨⟨tb 305 (by decide +kernel) rfl, tb 16 (by decide +kernel) rfl, tb 307 (by decide +kernel) rfl, by decide, by decide, by decide +kernel⟩, tb 306 (by decide +kernel) rfl⟩
theorem cs_J0_1059 : CS RJ0 1059 mJ3_checkIndex_8e157 3 := ⟨⟨tb 302 (by decide +kernel) rfl, tb 15 (by decide +kernel) rfl, tb 304 (by decide +kernel) rfl, by decide, by decide, by decide +kernel⟩, tb 303 (by decide +kernel) rfl⟩
theorem cs_J1_9 : CS RJ1 9 mJ0_checkIndex_df160 2 := ⟨⟨tb 297 (by decide +kernel) rfl, tb 13 (by decide +kernel) rfl, tb 299 (by decide +kernel) rfl, by decide, by decide, by decide +kernel⟩, tb 298 (by decide +kernel) rfl⟩
theorem cs_J2_48 : CS RJ2 48 mJ2_length_9d52b 1 := ⟨⟨tb 311 (by decide +kernel) rfl, tb 16 (by decide +kernel) rfl, tb 313 (by decide +kernel) rfl, by decide, by decide, by decide +kernel⟩, tb 312 (by decide +kernel) rfl⟩
theorem cs_J2_67 : CS RJ2 67 mJ2_checkIndex_2214a 2 := ⟨⟨tb 308 (by decide +kernel) rfl, tb 16 (by decide +kernel) rfl, tb 310 (by decide +kernel) rfl, by decide, by decide, by decide +kernel⟩, tb 309 (by decide +kernel) rfl⟩
theorem cs_J2_71 : CS RJ2 71 mJ2_getChar_3b067 2 := ⟨⟨tb 315 (by decide +kernel) rfl, tb 16 (by decide +kernel) rfl, tb 317 (by decide +kernel) rfl, by decide, by decide, by decide +kernel⟩, tb 316 (by decide +kernel) rfl⟩
theorem cs_J2_414 : CS RJ2 414 mJ0_checkIndex_df160 2 := ⟨⟨tb 314 (by decide +kernel) rfl, tb 13 (by decide +kernel) rfl, tb 299 (by decide +kernel) rfl, by decide, by decide, by decide +kernel⟩, tb 298 (by decide +kernel) rfl⟩
theorem ci_L_9 : CI RL 9 mX7_init 0 := ⟨⟨tb 20 (by decide +kernel) rfl, tb 1 (by decide +kernel) rfl, tb 22 (by decide +kernel) rfl, by decide, by decide, by decide +kernel⟩, rfl, tb 21 (by decide +kernel) rfl, rfl⟩
theorem ci_L_12 : CI RL 12 mX8_init 0 := ⟨⟨tb 720 (by decide +kernel) rfl, tb 11 (by decide +kernel) rfl, tb 722 (by decide +kernel) rfl, by decide, by decide, by decide +kernel⟩, rfl, tb 721 (by decide +kernel) rfl, rfl⟩
theorem cv_L_15 : CV RL 15 mX7_type 2 := ⟨⟨tb 219 (by decide +kernel) rfl, tb 1 (by decide +kernel) rfl, tb 222 (by decide +kernel) rfl, by decide, by decide, by decide +kernel⟩, tb 220 (by decide +kernel) rfl, tb 221 (by decide +kernel) rfl⟩
theorem cv_L_19 : CV RL 19 mX8_type 2 := ⟨⟨tb 806 (by decide +kernel) rfl, tb 11 (by decide +kernel) rfl, tb 809 (by decide +kernel) rfl, by decide, by decide, by decide +kernel⟩, tb 807 (by decide +kernel) rfl, tb 808 (by decide +kernel) rfl⟩
theorem cv_L_20 : CV RL 20 mX7_clear 0 := ⟨⟨tb 227 (by decide +kernel) rfl, tb 1 (by decide +kernel) rfl, tb 230 (by decide +kernel) rfl, by decide, by decide, by decide +kernel⟩, tb 228 (by decide +kernel) rfl, tb 229 (by decide +kernel) rfl⟩
theorem cv_L_24 : CV RL 24 mX8_clear 0 := ⟨⟨tb 814 (by decide +kernel) rfl, tb 11 (by decide +kernel) rfl, tb 817 (by decide +kernel) rfl, by decide, by decide, by decide +kernel⟩, tb 815 (by decide +kernel) rfl, tb 816 (by decide +kernel) rfl⟩
theorem cv_L_25 : CV RL 25 mX7_law 0 := ⟨⟨tb 235 (by decide +kernel) rfl, tb 1 (by decide +kernel) rfl, tb 238 (by decide +kernel) rfl, by decide, by decide, by decide +kernel⟩, tb 236 (by decide +kernel) rfl, tb 237 (by decide +kernel) rfl⟩
theorem cv_L_28 : CV RL 28 mX8_law 0 := ⟨⟨tb 818 (by decide +kernel) rfl, tb 11 (by decide +kernel) rfl, tb 821 (by decide +kernel) rfl, by decide, by decide, by decide +kernel⟩, tb 819 (by decide +kernel) rfl, tb 820 (by decide +kernel) rfl⟩
theorem cv_L_29 : CV RL 29 mX7_list 1 := ⟨⟨tb 346 (by decide +kernel) rfl, tb 1 (by decide +kernel) rfl, tb 349 (by decide +kernel) rfl, by decide, by decide, by decide +kernel⟩, tb 347 (by decide +kernel) rfl, tb 348 (by decide +kernel) rfl⟩
theorem cv_L_33 : CV RL 33 mX8_list 1 := ⟨⟨tb 848 (by decide +kernel) rfl, tb 11 (by decide +kernel) rfl, tb 851 (by decide +kernel) rfl, by decide, by decide, by decide +kernel⟩, tb 849 (by decide +kernel) rfl, tb 850 (by decide +kernel) rfl⟩
theorem cv_L_34 : CV RL 34 mX7_told 1 := ⟨⟨tb 368 (by decide +kernel) rfl, tb 1 (by decide +kernel) rfl, tb 371 (by decide +kernel) rfl, by decide, by decide, by decide +kernel⟩, tb 369 (by decide +kernel) rfl, tb 370 (by decide +kernel) rfl⟩
theorem cv_L_37 : CV RL 37 mX8_told 1 := ⟨⟨tb 859 (by decide +kernel) rfl, tb 11 (by decide +kernel) rfl, tb 862 (by decide +kernel) rfl, by decide, by decide, by decide +kernel⟩, tb 860 (by decide +kernel) rfl, tb 861 (by decide +kernel) rfl⟩
theorem cv_L_38 : CV RL 38 mX7_name 2 := ⟨⟨tb 372 (by decide +kernel) rfl, tb 1 (by decide +kernel) rfl, tb 375 (by decide +kernel) rfl, by decide, by decide, by decide +kernel⟩, tb 373 (by decide +kernel) rfl, tb 374 (by decide +kernel) rfl⟩
theorem cv_L_42 : CV RL 42 mX8_name 2 := ⟨⟨tb 863 (by decide +kernel) rfl, tb 11 (by decide +kernel) rfl, tb 866 (by decide +kernel) rfl, by decide, by decide, by decide +kernel⟩, tb 864 (by decide +kernel) rfl, tb 865 (by decide +kernel) rfl⟩
theorem cv_L_43 : CV RL 43 mX7_place 2 := ⟨⟨tb 385 (by decide +kernel) rfl, tb 1 (by decide +kernel) rfl, tb 388 (by decide +kernel) rfl, by decide, by decide, by decide +kernel⟩, tb 386 (by decide +kernel) rfl, tb 387 (by decide +kernel) rfl⟩
theorem cv_L_46 : CV RL 46 mX8_place 2 := ⟨⟨tb 871 (by decide +kernel) rfl, tb 11 (by decide +kernel) rfl, tb 874 (by decide +kernel) rfl, by decide, by decide, by decide +kernel⟩, tb 872 (by decide +kernel) rfl, tb 873 (by decide +kernel) rfl⟩
theorem cv_L_47 : CV RL 47 mX7_house 3 := ⟨⟨tb 396 (by decide +kernel) rfl, tb 1 (by decide +kernel) rfl, tb 399 (by decide +kernel) rfl, by decide, by decide, by decide +kernel⟩, tb 397 (by decide +kernel) rfl, tb 398 (by decide +kernel) rfl⟩
theorem cv_L_51 : CV RL 51 mX8_house 3 := ⟨⟨tb 882 (by decide +kernel) rfl, tb 11 (by decide +kernel) rfl, tb 885 (by decide +kernel) rfl, by decide, by decide, by decide +kernel⟩, tb 883 (by decide +kernel) rfl, tb 884 (by decide +kernel) rfl⟩
theorem cv_L_52 : CV RL 52 mX7_held 1 := ⟨⟨tb 412 (by decide +kernel) rfl, tb 1 (by decide +kernel) rfl, tb 415 (by decide +kernel) rfl, by decide, by decide, by decide +kernel⟩, tb 413 (by decide +kernel) rfl, tb 414 (by decide +kernel) rfl⟩
theorem cv_L_55 : CV RL 55 mX8_held 1 := ⟨⟨tb 886 (by decide +kernel) rfl, tb 11 (by decide +kernel) rfl, tb 889 (by decide +kernel) rfl, by decide, by decide, by decide +kernel⟩, tb 887 (by decide +kernel) rfl, tb 888 (by decide +kernel) rfl⟩
theorem cv_L_56 : CV RL 56 mX7_say 2 := ⟨⟨tb 420 (by decide +kernel) rfl, tb 1 (by decide +kernel) rfl, tb 423 (by decide +kernel) rfl, by decide, by decide, by decide +kernel⟩, tb 421 (by decide +kernel) rfl, tb 422 (by decide +kernel) rfl⟩
theorem cv_L_59 : CV RL 59 mX8_say 2 := ⟨⟨tb 894 (by decide +kernel) rfl, tb 11 (by decide +kernel) rfl, tb 897 (by decide +kernel) rfl, by decide, by decide, by decide +kernel⟩, tb 895 (by decide +kernel) rfl, tb 896 (by decide +kernel) rfl⟩
theorem cv_L_60 : CV RL 60 mX7_said 1 := ⟨⟨tb 491 (by decide +kernel) rfl, tb 1 (by decide +kernel) rfl, tb 494 (by decide +kernel) rfl, by decide, by decide, by decide +kernel⟩, tb 492 (by decide +kernel) rfl, tb 493 (by decide +kernel) rfl⟩
theorem cv_L_63 : CV RL 63 mX8_said 1 := ⟨⟨tb 914 (by decide +kernel) rfl, tb 11 (by decide +kernel) rfl, tb 917 (by decide +kernel) rfl, by decide, by decide, by decide +kernel⟩, tb 915 (by decide +kernel) rfl, tb 916 (by decide +kernel) rfl⟩
theorem cv_L_64 : CV RL 64 mX7_foretold 4 := ⟨⟨tb 499 (by decide +kernel) rfl, tb 1 (by decide +kernel) rfl, tb 502 (by decide +kernel) rfl, by decide, by decide, by decide +kernel⟩, tb 500 (by decide +kernel) rfl, tb 501 (by decide +kernel) rfl⟩
theorem cv_L_68 : CV RL 68 mX8_foretold 4 := ⟨⟨tb 918 (by decide +kernel) rfl, tb 11 (by decide +kernel) rfl, tb 921 (by decide +kernel) rfl, by decide, by decide, by decide +kernel⟩, tb 919 (by decide +kernel) rfl, tb 920 (by decide +kernel) rfl⟩
theorem cv_L_69 : CV RL 69 mX7_both 3 := ⟨⟨tb 503 (by decide +kernel) rfl, tb 1 (by decide +kernel) rfl, tb 506 (by decide +kernel) rfl, by decide, by decide, by decide +kernel⟩, tb 504 (by decide +kernel) rfl, tb 505 (by decide +kernel) rfl⟩
theorem cv_L_72 : CV RL 72 mX8_both 3 := ⟨⟨tb 922 (by decide +kernel) rfl, tb 11 (by decide +kernel) rfl, tb 925 (by decide +kernel) rfl, by decide, by decide, by decide +kernel⟩, tb 923 (by decide +kernel) rfl, tb 924 (by decide +kernel) rfl⟩
theorem cv_L_73 : CV RL 73 mX7_orders 1 := ⟨⟨tb 526 (by decide +kernel) rfl, tb 1 (by decide +kernel) rfl, tb 529 (by decide +kernel) rfl, by decide, by decide, by decide +kernel⟩, tb 527 (by decide +kernel) rfl, tb 528 (by decide +kernel) rfl⟩
theorem cv_L_77 : CV RL 77 mX8_orders 1 := ⟨⟨tb 937 (by decide +kernel) rfl, tb 11 (by decide +kernel) rfl, tb 940 (by decide +kernel) rfl, by decide, by decide, by decide +kernel⟩, tb 938 (by decide +kernel) rfl, tb 939 (by decide +kernel) rfl⟩
theorem cv_L_78 : CV RL 78 mX7_quarrel 2 := ⟨⟨tb 568 (by decide +kernel) rfl, tb 1 (by decide +kernel) rfl, tb 571 (by decide +kernel) rfl, by decide, by decide, by decide +kernel⟩, tb 569 (by decide +kernel) rfl, tb 570 (by decide +kernel) rfl⟩
theorem cv_L_81 : CV RL 81 mX8_quarrel 2 := ⟨⟨tb 958 (by decide +kernel) rfl, tb 11 (by decide +kernel) rfl, tb 961 (by decide +kernel) rfl, by decide, by decide, by decide +kernel⟩, tb 959 (by decide +kernel) rfl, tb 960 (by decide +kernel) rfl⟩
theorem cv_L_82 : CV RL 82 mX7_ahead 3 := ⟨⟨tb 585 (by decide +kernel) rfl, tb 1 (by decide +kernel) rfl, tb 588 (by decide +kernel) rfl, by decide, by decide, by decide +kernel⟩, tb 586 (by decide +kernel) rfl, tb 587 (by decide +kernel) rfl⟩
theorem cv_L_85 : CV RL 85 mX8_ahead 3 := ⟨⟨tb 962 (by decide +kernel) rfl, tb 11 (by decide +kernel) rfl, tb 965 (by decide +kernel) rfl, by decide, by decide, by decide +kernel⟩, tb 963 (by decide +kernel) rfl, tb 964 (by decide +kernel) rfl⟩
theorem cv_L_86 : CV RL 86 mX7_date 2 := ⟨⟨tb 599 (by decide +kernel) rfl, tb 1 (by decide +kernel) rfl, tb 602 (by decide +kernel) rfl, by decide, by decide, by decide +kernel⟩, tb 600 (by decide +kernel) rfl, tb 601 (by decide +kernel) rfl⟩
theorem cv_L_89 : CV RL 89 mX8_date 2 := ⟨⟨tb 966 (by decide +kernel) rfl, tb 11 (by decide +kernel) rfl, tb 969 (by decide +kernel) rfl, by decide, by decide, by decide +kernel⟩, tb 967 (by decide +kernel) rfl, tb 968 (by decide +kernel) rfl⟩
theorem cv_L_90 : CV RL 90 mX7_link 2 := ⟨⟨tb 603 (by decide +kernel) rfl, tb 1 (by decide +kernel) rfl, tb 606 (by decide +kernel) rfl, by decide, by decide, by decide +kernel⟩, tb 604 (by decide +kernel) rfl, tb 605 (by decide +kernel) rfl⟩
theorem cv_L_93 : CV RL 93 mX8_link 2 := ⟨⟨tb 970 (by decide +kernel) rfl, tb 11 (by decide +kernel) rfl, tb 973 (by decide +kernel) rfl, by decide, by decide, by decide +kernel⟩, tb 971 (by decide +kernel) rfl, tb 972 (by decide +kernel) rfl⟩
theorem cv_L_94 : CV RL 94 mX7_span 3 := ⟨⟨tb 607 (by decide +kernel) rfl, tb 1 (by decide +kernel) rfl, tb 610 (by decide +kernel) rfl, by decide, by decide, by decide +kernel⟩, tb 608 (by decide +kernel) rfl, tb 609 (by decide +kernel) rfl⟩
theorem cv_L_97 : CV RL 97 mX8_span 3 := ⟨⟨tb 974 (by decide +kernel) rfl, tb 11 (by decide +kernel) rfl, tb 977 (by decide +kernel) rfl, by decide, by decide, by decide +kernel⟩, tb 975 (by decide +kernel) rfl, tb 976 (by decide +kernel) rfl⟩
theorem cv_L_98 : CV RL 98 mX7_lost 1 := ⟨⟨tb 634 (by decide +kernel) rfl, tb 1 (by decide +kernel) rfl, tb 637 (by decide +kernel) rfl, by decide, by decide, by decide +kernel⟩, tb 635 (by decide +kernel) rfl, tb 636 (by decide +kernel) rfl⟩
theorem cv_L_101 : CV RL 101 mX8_lost 1 := ⟨⟨tb 987 (by decide +kernel) rfl, tb 11 (by decide +kernel) rfl, tb 990 (by decide +kernel) rfl, by decide, by decide, by decide +kernel⟩, tb 988 (by decide +kernel) rfl, tb 989 (by decide +kernel) rfl⟩
theorem cv_L_102 : CV RL 102 mX7_court 3 := ⟨⟨tb 642 (by decide +kernel) rfl, tb 1 (by decide +kernel) rfl, tb 645 (by decide +kernel) rfl, by decide, by decide, by decide +kernel⟩, tb 643 (by decide +kernel) rfl, tb 644 (by decide +kernel) rfl⟩
theorem cv_L_105 : CV RL 105 mX8_court 3 := ⟨⟨tb 991 (by decide +kernel) rfl, tb 11 (by decide +kernel) rfl, tb 994 (by decide +kernel) rfl, by decide, by decide, by decide +kernel⟩, tb 992 (by decide +kernel) rfl, tb 993 (by decide +kernel) rfl⟩
theorem cv_L_106 : CV RL 106 mX7_worth 2 := ⟨⟨tb 654 (by decide +kernel) rfl, tb 1 (by decide +kernel) rfl, tb 657 (by decide +kernel) rfl, by decide, by decide, by decide +kernel⟩, tb 655 (by decide +kernel) rfl, tb 656 (by decide +kernel) rfl⟩
theorem cv_L_109 : CV RL 109 mX8_worth 2 := ⟨⟨tb 995 (by decide +kernel) rfl, tb 11 (by decide +kernel) rfl, tb 998 (by decide +kernel) rfl, by decide, by decide, by decide +kernel⟩, tb 996 (by decide +kernel) rfl, tb 997 (by decide +kernel) rfl⟩
theorem cv_L_110 : CV RL 110 mX7_keep 1 := ⟨⟨tb 688 (by decide +kernel) rfl, tb 1 (by decide +kernel) rfl, tb 691 (by decide +kernel) rfl, by decide, by decide, by decide +kernel⟩, tb 689 (by decide +kernel) rfl, tb 690 (by decide +kernel) rfl⟩
theorem cv_L_113 : CV RL 113 mX8_keep 1 := ⟨⟨tb 1004 (by decide +kernel) rfl, tb 11 (by decide +kernel) rfl, tb 1007 (by decide +kernel) rfl, by decide, by decide, by decide +kernel⟩, tb 1005 (by decide +kernel) rfl, tb 1006 (by decide +kernel) rfl⟩
theorem cv_L_114 : CV RL 114 mX7_back 1 := ⟨⟨tb 703 (by decide +kernel) rfl, tb 1 (by decide +kernel) rfl, tb 706 (by decide +kernel) rfl, by decide, by decide, by decide +kernel⟩, tb 704 (by decide +kernel) rfl, tb 705 (by decide +kernel) rfl⟩
theorem cv_L_117 : CV RL 117 mX8_back 1 := ⟨⟨tb 1012 (by decide +kernel) rfl, tb 11 (by decide +kernel) rfl, tb 1015 (by decide +kernel) rfl, by decide, by decide, by decide +kernel⟩, tb 1013 (by decide +kernel) rfl, tb 1014 (by decide +kernel) rfl⟩
theorem cv_L_118 : CV RL 118 mX7_count 1 := ⟨⟨tb 707 (by decide +kernel) rfl, tb 1 (by decide +kernel) rfl, tb 710 (by decide +kernel) rfl, by decide, by decide, by decide +kernel⟩, tb 708 (by decide +kernel) rfl, tb 709 (by decide +kernel) rfl⟩
theorem cv_L_121 : CV RL 121 mX8_count 1 := ⟨⟨tb 1016 (by decide +kernel) rfl, tb 11 (by decide +kernel) rfl, tb 1019 (by decide +kernel) rfl, by decide, by decide, by decide +kernel⟩, tb 1017 (by decide +kernel) rfl, tb 1018 (by decide +kernel) rfl⟩
theorem cv_L_122 : CV RL 122 mX7_trace 0 := ⟨⟨tb 714 (by decide +kernel) rfl, tb 1 (by decide +kernel) rfl, tb 717 (by decide +kernel) rfl, by decide, by decide, by decide +kernel⟩, tb 715 (by decide +kernel) rfl, tb 716 (by decide +kernel) rfl⟩
theorem cv_L_126 : CV RL 126 mX8_trace 0 := ⟨⟨tb 1020 (by decide +kernel) rfl, tb 11 (by decide +kernel) rfl, tb 1023 (by decide +kernel) rfl, by decide, by decide, by decide +kernel⟩, tb 1021 (by decide +kernel) rfl, tb 1022 (by decide +kernel) rfl⟩
end
section
theorem ni_inc (k : Nat) : nI k + Int32.ofInt 1 = nI (k + 1) := nI_1 k
theorem ni_dec (k : Nat) : nI (k + 1) + Int32.ofInt (-1) = nI k := pk_m1 k
def bI (b : Bool) : Int32 := if b then 1 else 0
theorem bI_t : bI true = 1 := rfl
theorem bI_f : bI false = 0 := rfl
section PWN
variable {K : MX} {pc : Nat} {ls st : List Value} {h : HP} {n ms : Nat}
theorem pw_icmp_eq_n {a b : Nat} {off : Int} (tgt : Nat) (d : decode (mC K.2.1) pc = .ok (.if_icmp .eq off, 3)) (ht : (pc : Int) + off = (tgt : Int)) (ha : a < 2147483648) (hb : b < 2147483648) (kt : a = b → PW K tgt ls st h n ms) (kf : a ≠ b → PW K (pc + 3) ls st h n ms) : PW K pc ls (.int (nI b) :: .int (nI a) :: st) h n ms := by
  exact pw_icmp_eq tgt d ht (fun q => kt ((nI_eq ha hb).mp q)) (fun q => kf (fun e => q (congrArg nI e)))
theorem pw_icmp_ne_n {a b : Nat} {off : Int} (tgt : Nat) (d : decode (mC K.2.1) pc = .ok (.if_icmp .ne off, 3)) (ht : (pc : Int) + off = (tgt : Int)) (ha : a < 2147483648) (hb : b < 2147483648) (kt : a ≠ b → PW K tgt ls st h n ms) (kf : a = b → PW K (pc + 3) ls st h n ms) : PW K pc ls (.int (nI b) :: .int (nI a) :: st) h n ms := by
  exact pw_icmp_ne tgt d ht (fun q => kt (fun e => q (congrArg nI e))) (fun q => kf ((nI_eq ha hb).mp q))
theorem pw_icmp_lt_n {a b : Nat} {off : Int} (tgt : Nat) (d : decode (mC K.2.1) pc = .ok (.if_icmp .lt off, 3)) (ht : (pc : Int) + off = (tgt : Int)) (ha : a < 2147483648) (hb : b < 2147483648) (kt : a < b → PW K tgt ls st h n ms) (kf : b ≤ a → PW K (pc + 3) ls st h n ms) : PW K pc ls (.int (nI b) :: .int (nI a) :: st) h n ms := by
  exact pw_icmp_lt tgt d ht (fun q => kt ((nI_ltI ha hb).mp q)) (fun q => kf (by rw [nI_ltI ha hb] at q; omega))
theorem pw_icmp_ge_n {a b : Nat} {off : Int} (tgt : Nat) (d : decode (mC K.2.1) pc = .ok (.if_icmp .ge off, 3)) (ht : (pc : Int) + off = (tgt : Int)) (ha : a < 2147483648) (hb : b < 2147483648) (kt : b ≤ a → PW K tgt ls st h n ms) (kf : a < b → PW K (pc + 3) ls st h n ms) : PW K pc ls (.int (nI b) :: .int (nI a) :: st) h n ms := by
  exact pw_icmp_ge tgt d ht (fun q => kt ((nI_leI hb ha).mp q)) (fun q => kf (by rw [nI_leI hb ha] at q; omega))
theorem pw_icmp_gt_n {a b : Nat} {off : Int} (tgt : Nat) (d : decode (mC K.2.1) pc = .ok (.if_icmp .gt off, 3)) (ht : (pc : Int) + off = (tgt : Int)) (ha : a < 2147483648) (hb : b < 2147483648) (kt : b < a → PW K tgt ls st h n ms) (kf : a ≤ b → PW K (pc + 3) ls st h n ms) : PW K pc ls (.int (nI b) :: .int (nI a) :: st) h n ms := by
  exact pw_icmp_gt tgt d ht (fun q => kt ((nI_ltI hb ha).mp q)) (fun q => kf (by rw [nI_ltI hb ha] at q; omega))
theorem pw_icmp_le_n {a b : Nat} {off : Int} (tgt : Nat) (d : decode (mC K.2.1) pc = .ok (.if_icmp .le off, 3)) (ht : (pc : Int) + off = (tgt : Int)) (ha : a < 2147483648) (hb : b < 2147483648) (kt : a ≤ b → PW K tgt ls st h n ms) (kf : b < a → PW K (pc + 3) ls st h n ms) : PW K pc ls (.int (nI b) :: .int (nI a) :: st) h n ms := by
  exact pw_icmp_le tgt d ht (fun q => kt ((nI_leI ha hb).mp q)) (fun q => kf (by rw [nI_leI ha hb] at q; omega))
theorem pw_if_eq_b {b : Bool} {off : Int} (tgt : Nat) (d : decode (mC K.2.1) pc = .ok (.ifCond .eq off, 3)) (ht : (pc : Int) + off = (tgt : Int)) (kt : b = false → PW K tgt ls st h n ms) (kf : b = true → PW K (pc + 3) ls st h n ms) : PW K pc ls (.int (bI b) :: st) h n ms := by
  refine pw_if_eq tgt d ht (fun q => kt ?_) (fun q => kf ?_)
  · cases b <;> simp_all [bI]
  · cases b <;> simp_all [bI]
theorem pw_if_ne_b {b : Bool} {off : Int} (tgt : Nat) (d : decode (mC K.2.1) pc = .ok (.ifCond .ne off, 3)) (ht : (pc : Int) + off = (tgt : Int)) (kt : b = true → PW K tgt ls st h n ms) (kf : b = false → PW K (pc + 3) ls st h n ms) : PW K pc ls (.int (bI b) :: st) h n ms := by
  refine pw_if_ne tgt d ht (fun q => kt ?_) (fun q => kf ?_)
  · cases b <;> simp_all [bI]
  · cases b <;> simp_all [bI]
theorem pw_if_lt_n {a : Nat} {off : Int} (tgt : Nat) (d : decode (mC K.2.1) pc = .ok (.ifCond .lt off, 3)) (ht : (pc : Int) + off = (tgt : Int)) (ha : a < 2147483648) (kf : PW K (pc + 3) ls st h n ms) : PW K pc ls (.int (nI a) :: st) h n ms := pw_if_lt tgt d ht (fun q => absurd q (nI_pos ha)) (fun _ => kf)
theorem pw_ift_lt {x : Int32} {off : Int} (tgt : Nat) (d : decode (mC K.2.1) pc = .ok (.ifCond .lt off, 3)) (ht : (pc : Int) + off = (tgt : Int)) (hx : x < 0) (kt : PW K tgt ls st h n ms) : PW K pc ls (.int x :: st) h n ms := pw_if_lt tgt d ht (fun _ => kt) (fun q => absurd hx q)
end PWN
section PWC0
variable {E : EV} {M : MR} {pc : Nat} {ls st : List Value} {h : HP} {n ms : Nat}
end PWC0
theorem i32_lt (a b : Int32) : a < b ↔ a.toInt < b.toInt := Int32.lt_iff_toInt_lt
theorem i32_le (a b : Int32) : a ≤ b ↔ a.toInt ≤ b.toInt := Int32.le_iff_toInt_le
theorem i32_eq (a b : Int32) : a = b ↔ a.toInt = b.toInt := Int32.toInt_inj.symm
theorem ni_toInt {k : Nat} (hk : k < 2147483648) : (nI k).toInt = (k : Int) := nI_toInt hk
abbrev QE (v : Option Value) (h1 : HP) : Option Value → HP → Prop := fun v' h' => v' = v ∧ h' = h1
def firstP (p : Nat → Bool) : Nat → Nat
  | 0 => 0
  | m + 1 => if p 0 then 0 else firstP (fun k => p (k + 1)) m + 1
end
section
theorem lk_X0_3 : Cond.methodLink RX0 3 objectInit ∈ tbl := tb 80 (by decide +kernel) rfl
theorem lk_X0_24 : Cond.methodLink RX0 24 arraycopyName ∈ tbl := tb 439 (by decide +kernel) rfl
theorem lk_X1_3 : Cond.methodLink RX1 3 objectInit ∈ tbl := tb 48 (by decide +kernel) rfl
theorem lk_X1_13 : Cond.methodLink RX1 13 ⟨"[I", "clone", "()Ljava/lang/Object;"⟩ ∈ tbl := tb 51 (by decide +kernel) rfl
theorem ll_X1_14 : Cond.classLink RX1 14 "[I" ∈ tbl := tb 57 (by decide +kernel) rfl
theorem lk_X1_26 : Cond.methodLink RX1 26 arraycopyName ∈ tbl := tb 243 (by decide +kernel) rfl
theorem lk_X2_3 : Cond.methodLink RX2 3 objectInit ∈ tbl := tb 72 (by decide +kernel) rfl
theorem ll_X2_9 : Cond.classLink RX2 9 "FatherLists$Row" ∈ tbl := tb 73 (by decide +kernel) rfl
theorem ll_X2_17 : Cond.classLink RX2 17 "FatherLists$Houses" ∈ tbl := tb 75 (by decide +kernel) rfl
theorem lk_X2_48 : Cond.methodLink RX2 48 arraycopyName ∈ tbl := tb 698 (by decide +kernel) rfl
theorem lk_X3_3 : Cond.methodLink RX3 3 objectInit ∈ tbl := tb 99 (by decide +kernel) rfl
theorem lk_X3_15 : Cond.methodLink RX3 15 ⟨"java/lang/Math", "max", "(II)I"⟩ ∈ tbl := tb 100 (by decide +kernel) rfl
theorem lk_X3_43 : Cond.methodLink RX3 43 ⟨"java/lang/Math", "min", "(II)I"⟩ ∈ tbl := tb 432 (by decide +kernel) rfl
theorem lk_X3_46 : Cond.methodLink RX3 46 arraycopyName ∈ tbl := tb 367 (by decide +kernel) rfl
theorem lk_X4_3 : Cond.methodLink RX4 3 objectInit ∈ tbl := tb 138 (by decide +kernel) rfl
theorem ll_X4_9 : Cond.classLink RX4 9 "FatherLists$Row" ∈ tbl := tb 139 (by decide +kernel) rfl
theorem ll_X4_20 : Cond.classLink RX4 20 "FatherLists$Houses" ∈ tbl := tb 141 (by decide +kernel) rfl
theorem lk_X4_80 : Cond.methodLink RX4 80 ⟨"java/lang/Math", "min", "(II)I"⟩ ∈ tbl := tb 449 (by decide +kernel) rfl
theorem lk_X5_3 : Cond.methodLink RX5 3 objectInit ∈ tbl := tb 166 (by decide +kernel) rfl
theorem lk_X6_3 : Cond.methodLink RX6 3 objectInit ∈ tbl := tb 31 (by decide +kernel) rfl
theorem lk_X7_3 : Cond.methodLink RX7 3 objectInit ∈ tbl := tb 23 (by decide +kernel) rfl
theorem ll_X7_9 : Cond.classLink RX7 9 "FatherLists$Text" ∈ tbl := tb 26 (by decide +kernel) rfl
theorem ll_X7_16 : Cond.classLink RX7 16 "FatherLists$Law" ∈ tbl := tb 43 (by decide +kernel) rfl
theorem ll_X7_23 : Cond.classLink RX7 23 "FatherLists$Records" ∈ tbl := tb 67 (by decide +kernel) rfl
theorem ll_X7_36 : Cond.classLink RX7 36 "FatherLists$Saying" ∈ tbl := tb 133 (by decide +kernel) rfl
theorem ll_X7_46 : Cond.classLink RX7 46 "FatherLists$SideBySide" ∈ tbl := tb 161 (by decide +kernel) rfl
theorem lc_X7_179 : Cond.constantLong RX7 179 (-1) ∈ tbl := tb 533 (by decide +kernel) rfl
theorem lc_X7_189 : Cond.constantLong RX7 189 (-2) ∈ tbl := tb 551 (by decide +kernel) rfl
theorem lc_X7_215 : Cond.constant RX7 215 (-1000000) ∈ tbl := tb 611 (by decide +kernel) rfl
theorem lk_X7_279 : Cond.methodLink RX7 279 ⟨"java/lang/Math", "max", "(II)I"⟩ ∈ tbl := tb 519 (by decide +kernel) rfl
theorem lk_X7_285 : Cond.methodLink RX7 285 ⟨"java/lang/Math", "min", "(II)I"⟩ ∈ tbl := tb 633 (by decide +kernel) rfl
theorem lc_X7_284 : Cond.constant RX7 284 (1000000) ∈ tbl := tb 632 (by decide +kernel) rfl
theorem lc_X7_288 : Cond.constantLong RX7 288 (10) ∈ tbl := tb 666 (by decide +kernel) rfl
theorem lc_X7_290 : Cond.constantLong RX7 290 (100) ∈ tbl := tb 671 (by decide +kernel) rfl
theorem lc_X7_295 : Cond.constantLong RX7 295 (1000) ∈ tbl := tb 677 (by decide +kernel) rfl
theorem lc_X7_297 : Cond.constantLong RX7 297 (10000) ∈ tbl := tb 682 (by decide +kernel) rfl
theorem lc_X7_299 : Cond.constantLong RX7 299 (100000) ∈ tbl := tb 687 (by decide +kernel) rfl
theorem lk_X8_1 : Cond.methodLink RX8 1 objectInit ∈ tbl := tb 723 (by decide +kernel) rfl
theorem lc_X8_79 : Cond.constantLong RX8 79 (255) ∈ tbl := tb 813 (by decide +kernel) rfl
theorem lc_X8_81 : Cond.constantLong RX8 81 (256) ∈ tbl := tb 833 (by decide +kernel) rfl
theorem lc_X8_172 : Cond.constantLong RX8 172 (-1) ∈ tbl := tb 944 (by decide +kernel) rfl
theorem lc_X8_177 : Cond.constantLong RX8 177 (-2) ∈ tbl := tb 953 (by decide +kernel) rfl
theorem lc_X8_186 : Cond.constant RX8 186 (-1000000) ∈ tbl := tb 978 (by decide +kernel) rfl
theorem lc_X8_194 : Cond.constantLong RX8 194 (11) ∈ tbl := tb 999 (by decide +kernel) rfl
theorem lc_X8_196 : Cond.constantLong RX8 196 (101) ∈ tbl := tb 1000 (by decide +kernel) rfl
theorem lc_X8_198 : Cond.constantLong RX8 198 (1101) ∈ tbl := tb 1001 (by decide +kernel) rfl
theorem lc_X8_200 : Cond.constantLong RX8 200 (10001) ∈ tbl := tb 1002 (by decide +kernel) rfl
theorem lc_X8_202 : Cond.constantLong RX8 202 (110001) ∈ tbl := tb 1003 (by decide +kernel) rfl
theorem lc_J6_265 : Cond.constant RJ6 265 (1431655765) ∈ tbl := tb 523 (by decide +kernel) rfl
theorem lc_J6_266 : Cond.constant RJ6 266 (858993459) ∈ tbl := tb 524 (by decide +kernel) rfl
theorem lc_J6_267 : Cond.constant RJ6 267 (252645135) ∈ tbl := tb 525 (by decide +kernel) rfl
theorem ll_L_7 : Cond.classLink RL 7 "FatherLists" ∈ tbl := tb 18 (by decide +kernel) rfl
theorem ll_L_10 : Cond.classLink RL 10 "FatherListsModel" ∈ tbl := tb 718 (by decide +kernel) rfl
theorem lc_L_13 : Cond.constantLong RL 13 (4294967295) ∈ tbl := tb 1024 (by decide +kernel) rfl
end
section
theorem lk1 {h : HP} {j k : Nat} {v : Option PE} {e : PE} (h1 : j ≠ k) (h2 : h j = some e) : va_up h k v j = some e := (va_up_ne _ _ h1).trans h2
theorem pw_mmin {K : MX} {pc : Nat} {ls st : List Value} {h : HP} {n ms : Nat} {idx : Nat} {x y : Int32} (cl : Cond.methodLink (mY K.2.1).cls idx ⟨"java/lang/Math", "min", "(II)I"⟩ ∈ tbl) (d : decode (mC K.2.1) pc = .ok (.invokestatic idx, 3)) (hfr : 1 ≤ mFr K.2.1) (hlo : (st.map fun v => v.category).sum + 13 ≤ mLo K.2.1) (kk : PW K (pc + 3) ls (.int (if y < x then y else x) :: st) h n ms) : PW K pc ls (.int y :: .int x :: st) h n ms := by
  intro p e s m args below meth c X Y R r1 r2 H locs lsA cells slots hS hR hL hn
  have htt := X.2.2.2.2.2.2.2.1
  refine va_mmin X.1 X.2.1 (X.2.2.2.1.trans hL.1.symm) X.2.2.2.2.1 (htt _ cl) (htt _ (tb 433 (by decide +kernel) rfl)) (htt _ (tb 8 (by decide +kernel) rfl)) (htt _ (tb 434 (by decide +kernel) rfl)) (by rw [r1]; exact hfr) (by rw [r2]; exact hlo) (by omega) (by omega) d ?_
  exact kk p e s m args below meth c X Y R r1 r2 H locs lsA cells slots hS hR hL hn
theorem pw_mmax {K : MX} {pc : Nat} {ls st : List Value} {h : HP} {n ms : Nat} {idx : Nat} {x y : Int32} (cl : Cond.methodLink (mY K.2.1).cls idx ⟨"java/lang/Math", "max", "(II)I"⟩ ∈ tbl) (d : decode (mC K.2.1) pc = .ok (.invokestatic idx, 3)) (hfr : 1 ≤ mFr K.2.1) (hlo : (st.map fun v => v.category).sum + 13 ≤ mLo K.2.1) (kk : PW K (pc + 3) ls (.int (if x < y then y else x) :: st) h n ms) : PW K pc ls (.int y :: .int x :: st) h n ms := by
  intro p e s m args below meth c X Y R r1 r2 H locs lsA cells slots hS hR hL hn
  have htt := X.2.2.2.2.2.2.2.1
  refine va_mmax X.1 X.2.1 (X.2.2.2.1.trans hL.1.symm) X.2.2.2.2.1 (htt _ cl) (htt _ (tb 101 (by decide +kernel) rfl)) (htt _ (tb 8 (by decide +kernel) rfl)) (htt _ (tb 102 (by decide +kernel) rfl)) (by rw [r1]; exact hfr) (by rw [r2]; exact hlo) (by omega) (by omega) d ?_
  exact kk p e s m args below meth c X Y R r1 r2 H locs lsA cells slots hS hR hL hn
theorem c_compare {E : EV} {h : HP} {n : Nat} (x y : Int32) : PM E mJ6_compare_7cf53 [.int x, .int y] h n n 0 (QE (some (.int (if x < y then -1 else if x = y then 0 else 1))) h) := by
  refine PM.of [.int x, .int y] rfl (Nat.le_of_ble_eq_true rfl) rfl ?_
  refine pw_iload_n (pc := 0) dJ6_compare_7cf53_0 rfl ?_
  refine pw_iload_n (pc := 1) dJ6_compare_7cf53_1 rfl ?_
  refine pw_icmp_ge (pc := 2) 9 dJ6_compare_7cf53_2 (by decide) (fun c => ?_) (fun c => ?_)
  · have c0 : ¬ x < y := by rw [i32_lt]; rw [i32_le] at c; omega
    refine pw_iload_n (pc := 9) dJ6_compare_7cf53_9 rfl ?_
    refine pw_iload_n (pc := 10) dJ6_compare_7cf53_10 rfl ?_
    refine pw_icmp_ne (pc := 11) 18 dJ6_compare_7cf53_11 (by decide) (fun c => ?_) (fun c => ?_)
    · refine pw_iconst (pc := 18) (nI 1) dJ6_compare_7cf53_18 (by decide) ?_
      refine pw_iret dJ6_compare_7cf53_19 rfl ⟨?_, rfl⟩
      rw [if_neg c0, if_neg c]; rfl
    · refine pw_iconst (pc := 14) (nI 0) dJ6_compare_7cf53_14 (by decide) ?_
      refine pw_goto (pc := 15) 19 dJ6_compare_7cf53_15 (by decide) ?_
      refine pw_iret dJ6_compare_7cf53_19 rfl ⟨?_, rfl⟩
      rw [if_neg c0, if_pos c]; rfl
  · have c0 : x < y := by rw [i32_lt]; rw [i32_le] at c; omega
    refine pw_iconst (pc := 5) (-1) dJ6_compare_7cf53_5 (by decide) ?_
    refine pw_goto (pc := 6) 19 dJ6_compare_7cf53_6 (by decide) ?_
    refine pw_iret dJ6_compare_7cf53_19 rfl ⟨?_, rfl⟩
    rw [if_pos c0]
theorem c_fill {E : EV} {h : HP} {a N n : Nat} {f : Nat → Int32} (ha : h a = some (.inl (0, N, .inl f))) (hN : N < 1000) (x : Int32) : PM E mJ7_fill_53178 [.ref a, .int x] h n n 0 (QE none (va_up h a (some (.inl (0, N, .inl (fun k => if k < N then x else f k)))))) := by
  have loop : ∀ m k, k + m = N → PW (KX E mJ7_fill_53178 n (QE none (va_up h a (some (.inl (0, N, .inl (fun k => if k < N then x else f k))))))) 5 [.ref a, .int x, .int (nI k), .int (nI N)] [] (va_up h a (some (.inl (0, N, .inl (fun j => if j < k then x else f j))))) n 0 := by
    intro m
    induction m with
    | zero =>
      intro k hk
      refine pw_iload_n (pc := 5) dJ7_fill_53178_5 rfl ?_
      refine pw_iload_n (pc := 6) dJ7_fill_53178_6 rfl ?_
      refine pw_icmp_ge_n (pc := 7) 20 dJ7_fill_53178_7 (by decide) (by omega) (by omega) (fun c => ?_) (fun c => ?_)
      · obtain rfl : k = N := by omega
        exact pw_vret dJ7_fill_53178_20 rfl ⟨rfl, rfl⟩
      · omega
    | succ m ih =>
      intro k hk
      refine pw_iload_n (pc := 5) dJ7_fill_53178_5 rfl ?_
      refine pw_iload_n (pc := 6) dJ7_fill_53178_6 rfl ?_
      refine pw_icmp_ge_n (pc := 7) 20 dJ7_fill_53178_7 (by decide) (by omega) (by omega) (fun c => ?_) (fun c => ?_)
      · omega
      · refine pw_aload_n (pc := 10) dJ7_fill_53178_10 rfl ?_
        refine pw_iload_n (pc := 11) dJ7_fill_53178_11 rfl ?_
        refine pw_iload_n (pc := 12) dJ7_fill_53178_12 rfl ?_
        refine pw_iast (pc := 13) (k) dJ7_fill_53178_13 (by first | assumption | exact va_up_self _ _ _ | exact lk1 (by first | assumption | (apply Ne.symm; assumption) | omega) (by assumption) | exact lk1 (by first | assumption | (apply Ne.symm; assumption) | omega) (va_up_self _ _ _) | exact lk1 (by first | assumption | (apply Ne.symm; assumption) | omega) (lk1 (by first | assumption | (apply Ne.symm; assumption) | omega) (by assumption)) | exact lk1 (by first | assumption | (apply Ne.symm; assumption) | omega) (lk1 (by first | assumption | (apply Ne.symm; assumption) | omega) (va_up_self _ _ _)) | exact lk1 (by first | assumption | (apply Ne.symm; assumption) | omega) (lk1 (by first | assumption | (apply Ne.symm; assumption) | omega) (lk1 (by first | assumption | (apply Ne.symm; assumption) | omega) (by assumption))) | exact lk1 (by first | assumption | (apply Ne.symm; assumption) | omega) (lk1 (by first | assumption | (apply Ne.symm; assumption) | omega) (lk1 (by first | assumption | (apply Ne.symm; assumption) | omega) (va_up_self _ _ _))) | exact lk1 (by first | assumption | (apply Ne.symm; assumption) | omega) (lk1 (by first | assumption | (apply Ne.symm; assumption) | omega) (lk1 (by first | assumption | (apply Ne.symm; assumption) | omega) (lk1 (by first | assumption | (apply Ne.symm; assumption) | omega) (by assumption)))) | exact lk1 (by first | assumption | (apply Ne.symm; assumption) | omega) (lk1 (by first | assumption | (apply Ne.symm; assumption) | omega) (lk1 (by first | assumption | (apply Ne.symm; assumption) | omega) (lk1 (by first | assumption | (apply Ne.symm; assumption) | omega) (va_up_self _ _ _))))) (by first | rfl | (simp only [nI_add, pk_mul, Nat.one_mul, Nat.mul_one, Nat.zero_add, Nat.add_zero, Nat.mul_zero]; done) | exact pk_sub (by omega) | (rw [pk_sub (by omega)]; first | done | (rw [nI_add]; done) | (rw [pk_sub (by omega)]; done) | (rw [pk_sub (by omega), nI_add]; done)) | (simp only [nI_add, pk_mul]; first | exact pk_sub (by omega) | (congr 1; omega)) | (congr 1; omega)) (by omega) (by omega) ?_
        refine pw_iinc2 (pc := 14) (nI (k + 1)) dJ7_fill_53178_14 (Nat.le_of_ble_eq_true rfl) rfl (ni_inc _) ?_
        refine pw_goto (pc := 17) 5 dJ7_fill_53178_17 (by decide) ?_
        refine pw_heap ?_ (ih (k + 1) (by omega))
        rw [bx_uu]
        congr 6
        funext j
        by_cases hj : j = k
        · subst hj; simp [upd]
        · have : (j < k + 1) = (j < k) := by simp; omega
          simp [upd, hj, this]
  refine PM.of [.ref a, .int x, .null, .null] rfl (Nat.le_of_ble_eq_true rfl) rfl ?_
  refine pw_iconst (pc := 0) (nI 0) dJ7_fill_53178_0 (by decide) ?_
  refine pw_ist2 (pc := 1) dJ7_fill_53178_1 (Nat.le_of_ble_eq_true rfl) rfl ?_
  refine pw_aload_n (pc := 2) dJ7_fill_53178_2 rfl ?_
  refine pw_alen (pc := 3) _ dJ7_fill_53178_3 (by first | assumption | exact va_up_self _ _ _ | exact lk1 (by first | assumption | (apply Ne.symm; assumption) | omega) (by assumption) | exact lk1 (by first | assumption | (apply Ne.symm; assumption) | omega) (va_up_self _ _ _) | exact lk1 (by first | assumption | (apply Ne.symm; assumption) | omega) (lk1 (by first | assumption | (apply Ne.symm; assumption) | omega) (by assumption)) | exact lk1 (by first | assumption | (apply Ne.symm; assumption) | omega) (lk1 (by first | assumption | (apply Ne.symm; assumption) | omega) (va_up_self _ _ _)) | exact lk1 (by first | assumption | (apply Ne.symm; assumption) | omega) (lk1 (by first | assumption | (apply Ne.symm; assumption) | omega) (lk1 (by first | assumption | (apply Ne.symm; assumption) | omega) (by assumption))) | exact lk1 (by first | assumption | (apply Ne.symm; assumption) | omega) (lk1 (by first | assumption | (apply Ne.symm; assumption) | omega) (lk1 (by first | assumption | (apply Ne.symm; assumption) | omega) (va_up_self _ _ _))) | exact lk1 (by first | assumption | (apply Ne.symm; assumption) | omega) (lk1 (by first | assumption | (apply Ne.symm; assumption) | omega) (lk1 (by first | assumption | (apply Ne.symm; assumption) | omega) (lk1 (by first | assumption | (apply Ne.symm; assumption) | omega) (by assumption)))) | exact lk1 (by first | assumption | (apply Ne.symm; assumption) | omega) (lk1 (by first | assumption | (apply Ne.symm; assumption) | omega) (lk1 (by first | assumption | (apply Ne.symm; assumption) | omega) (lk1 (by first | assumption | (apply Ne.symm; assumption) | omega) (va_up_self _ _ _))))) (by decide) rfl ?_
  refine pw_ist3 (pc := 4) dJ7_fill_53178_4 (Nat.le_of_ble_eq_true rfl) rfl ?_
  refine pw_heap ?_ (loop N 0 (by omega))
  funext q
  by_cases hq : q = a
  · subst hq; simp [va_up, ha]
  · simp [va_up, hq]
end
section
/-- a Row at a: names at b, of cap places, f its names, sz its size -/
def rowAt (h : HP) (a b cap : Nat) (f : Nat → Int32) (sz : Nat) : Prop := h a = some (.inr (3, [.ref b, .int (nI sz)])) ∧ h b = some (.inl (0, cap, .inl f)) ∧ sz ≤ cap ∧ cap < 1000
theorem c_Row_has {E : EV} {h : HP} {a b cap sz n : Nat} {f : Nat → Int32} (hr : rowAt h a b cap f sz) (x : Int32) : PM E mX3_has [.ref a, .int x] h n n 0 (QE (some (.int (bI (decide (0 ≤ x.toInt ∧ x.toInt < sz))))) h) := by
  obtain ⟨h1, h2, h3, h4⟩ := hr
  refine PM.of [.ref a, .int x] rfl (Nat.le_of_ble_eq_true rfl) rfl ?_
  refine pw_iload_n (pc := 0) dX3_has_0 rfl ?_
  refine pw_if_lt (pc := 1) 16 dX3_has_1 (by decide) (fun c => ?_) (fun c => ?_)
  · have c0 : x.toInt < 0 := by simpa [i32_lt] using c
    refine pw_iconst (pc := 16) (nI 0) dX3_has_16 (by decide) ?_
    refine pw_zret dX3_has_17 rfl (by decide) ⟨?_, rfl⟩
    have : decide (0 ≤ x.toInt ∧ x.toInt < (sz : Int)) = false := by simp; omega
    rw [this]; rfl
  · have c0 : ¬ x.toInt < 0 := by simpa [i32_lt] using c
    refine pw_iload_n (pc := 4) dX3_has_4 rfl ?_
    refine pw_aload_n (pc := 5) dX3_has_5 rfl ?_
    refine pw_get (pc := 6) fg_X3_9 dX3_has_6 (by first | assumption | exact va_up_self _ _ _ | exact lk1 (by first | assumption | (apply Ne.symm; assumption) | omega) (by assumption) | exact lk1 (by first | assumption | (apply Ne.symm; assumption) | omega) (va_up_self _ _ _) | exact lk1 (by first | assumption | (apply Ne.symm; assumption) | omega) (lk1 (by first | assumption | (apply Ne.symm; assumption) | omega) (by assumption)) | exact lk1 (by first | assumption | (apply Ne.symm; assumption) | omega) (lk1 (by first | assumption | (apply Ne.symm; assumption) | omega) (va_up_self _ _ _)) | exact lk1 (by first | assumption | (apply Ne.symm; assumption) | omega) (lk1 (by first | assumption | (apply Ne.symm; assumption) | omega) (lk1 (by first | assumption | (apply Ne.symm; assumption) | omega) (by assumption))) | exact lk1 (by first | assumption | (apply Ne.symm; assumption) | omega) (lk1 (by first | assumption | (apply Ne.symm; assumption) | omega) (lk1 (by first | assumption | (apply Ne.symm; assumption) | omega) (va_up_self _ _ _))) | exact lk1 (by first | assumption | (apply Ne.symm; assumption) | omega) (lk1 (by first | assumption | (apply Ne.symm; assumption) | omega) (lk1 (by first | assumption | (apply Ne.symm; assumption) | omega) (lk1 (by first | assumption | (apply Ne.symm; assumption) | omega) (by assumption)))) | exact lk1 (by first | assumption | (apply Ne.symm; assumption) | omega) (lk1 (by first | assumption | (apply Ne.symm; assumption) | omega) (lk1 (by first | assumption | (apply Ne.symm; assumption) | omega) (lk1 (by first | assumption | (apply Ne.symm; assumption) | omega) (va_up_self _ _ _))))) (by rfl) ?_
    refine pw_icmp_ge (pc := 9) 16 dX3_has_9 (by decide) (fun c => ?_) (fun c => ?_)
    · have c1 : (sz : Int) ≤ x.toInt := by simpa [i32_le, nI_toInt (show sz < 2 ^ 31 by omega)] using c
      refine pw_iconst (pc := 16) (nI 0) dX3_has_16 (by decide) ?_
      refine pw_zret dX3_has_17 rfl (by decide) ⟨?_, rfl⟩
      have : decide (0 ≤ x.toInt ∧ x.toInt < (sz : Int)) = false := by simp; omega
      rw [this]; rfl
    · have c1 : ¬ (sz : Int) ≤ x.toInt := by simpa [i32_le, nI_toInt (show sz < 2 ^ 31 by omega)] using c
      refine pw_iconst (pc := 12) (nI 1) dX3_has_12 (by decide) ?_
      refine pw_goto (pc := 13) 17 dX3_has_13 (by decide) ?_
      refine pw_zret dX3_has_17 rfl (by decide) ⟨?_, rfl⟩
      have : decide (0 ≤ x.toInt ∧ x.toInt < (sz : Int)) = true := by simp; omega
      rw [this]; rfl
theorem ix_of {x : Int32} {sz : Nat} (h0 : 0 ≤ x.toInt) (h1 : x.toInt < sz) (hs : sz < 1000) : ∃ j : Nat, j < sz ∧ x = nI j := by
  refine ⟨x.toInt.toNat, by omega, ?_⟩
  rw [i32_eq, nI_toInt (by omega)]
  omega
/-- what nameAt answers -/
def nmA (f : Nat → Int32) (sz : Nat) (x : Int32) : Int32 := if 0 ≤ x.toInt ∧ x.toInt < sz then f x.toInt.toNat else -9
theorem nmA_in {f : Nat → Int32} {sz k : Nat} (hk : k < sz) (hs : sz < 1000) : nmA f sz (nI k) = f k := by
  have h1 : (nI k).toInt = (k : Int) := nI_toInt (by omega)
  simp [nmA, h1, hk]
theorem c_Row_nameAt {E : EV} {h : HP} {a b cap sz n : Nat} {f : Nat → Int32} (hr : rowAt h a b cap f sz) (x : Int32) : PM E mX3_nameAt [.ref a, .int x] h n n 0 (QE (some (.int (nmA f sz x))) h) := by
  obtain ⟨h1, h2, h3, h4⟩ := id hr
  refine PM.of [.ref a, .int x] rfl (Nat.le_of_ble_eq_true rfl) rfl ?_
  refine pw_aload_n (pc := 0) dX3_nameAt_0 rfl ?_
  refine pw_iload_n (pc := 1) dX3_nameAt_1 rfl ?_
  refine pw_callV_i (pc := 2) cv_X3_25 dX3_nameAt_2 (by first | assumption | exact va_up_self _ _ _ | exact lk1 (by first | assumption | (apply Ne.symm; assumption) | omega) (by assumption) | exact lk1 (by first | assumption | (apply Ne.symm; assumption) | omega) (va_up_self _ _ _) | exact lk1 (by first | assumption | (apply Ne.symm; assumption) | omega) (lk1 (by first | assumption | (apply Ne.symm; assumption) | omega) (by assumption)) | exact lk1 (by first | assumption | (apply Ne.symm; assumption) | omega) (lk1 (by first | assumption | (apply Ne.symm; assumption) | omega) (va_up_self _ _ _)) | exact lk1 (by first | assumption | (apply Ne.symm; assumption) | omega) (lk1 (by first | assumption | (apply Ne.symm; assumption) | omega) (lk1 (by first | assumption | (apply Ne.symm; assumption) | omega) (by assumption))) | exact lk1 (by first | assumption | (apply Ne.symm; assumption) | omega) (lk1 (by first | assumption | (apply Ne.symm; assumption) | omega) (lk1 (by first | assumption | (apply Ne.symm; assumption) | omega) (va_up_self _ _ _))) | exact lk1 (by first | assumption | (apply Ne.symm; assumption) | omega) (lk1 (by first | assumption | (apply Ne.symm; assumption) | omega) (lk1 (by first | assumption | (apply Ne.symm; assumption) | omega) (lk1 (by first | assumption | (apply Ne.symm; assumption) | omega) (by assumption)))) | exact lk1 (by first | assumption | (apply Ne.symm; assumption) | omega) (lk1 (by first | assumption | (apply Ne.symm; assumption) | omega) (lk1 (by first | assumption | (apply Ne.symm; assumption) | omega) (lk1 (by first | assumption | (apply Ne.symm; assumption) | omega) (va_up_self _ _ _))))) rfl (c_Row_has hr x) rfl rfl (Nat.le_of_ble_eq_true rfl) ⟨(Nat.le_of_ble_eq_true rfl), (Nat.le_of_ble_eq_true rfl)⟩ ?_
  refine pw_if_eq_b 17 dX3_nameAt_5 (by decide) (fun c => ?_) (fun c => ?_)
  · refine pw_bipush (pc := 17) (-9) dX3_nameAt_17 (by decide) ?_
    refine pw_iret dX3_nameAt_19 rfl ⟨?_, rfl⟩
    have : ¬ (0 ≤ x.toInt ∧ x.toInt < (sz : Int)) := by simpa using c
    simp [nmA, this]
  · have c1 : 0 ≤ x.toInt ∧ x.toInt < (sz : Int) := by simpa using c
    obtain ⟨j, hj, rfl⟩ := ix_of c1.1 c1.2 (by omega)
    refine pw_aload_n (pc := 8) dX3_nameAt_8 rfl ?_
    refine pw_get (pc := 9) fg_X3_21 dX3_nameAt_9 (by first | assumption | exact va_up_self _ _ _ | exact lk1 (by first | assumption | (apply Ne.symm; assumption) | omega) (by assumption) | exact lk1 (by first | assumption | (apply Ne.symm; assumption) | omega) (va_up_self _ _ _) | exact lk1 (by first | assumption | (apply Ne.symm; assumption) | omega) (lk1 (by first | assumption | (apply Ne.symm; assumption) | omega) (by assumption)) | exact lk1 (by first | assumption | (apply Ne.symm; assumption) | omega) (lk1 (by first | assumption | (apply Ne.symm; assumption) | omega) (va_up_self _ _ _)) | exact lk1 (by first | assumption | (apply Ne.symm; assumption) | omega) (lk1 (by first | assumption | (apply Ne.symm; assumption) | omega) (lk1 (by first | assumption | (apply Ne.symm; assumption) | omega) (by assumption))) | exact lk1 (by first | assumption | (apply Ne.symm; assumption) | omega) (lk1 (by first | assumption | (apply Ne.symm; assumption) | omega) (lk1 (by first | assumption | (apply Ne.symm; assumption) | omega) (va_up_self _ _ _))) | exact lk1 (by first | assumption | (apply Ne.symm; assumption) | omega) (lk1 (by first | assumption | (apply Ne.symm; assumption) | omega) (lk1 (by first | assumption | (apply Ne.symm; assumption) | omega) (lk1 (by first | assumption | (apply Ne.symm; assumption) | omega) (by assumption)))) | exact lk1 (by first | assumption | (apply Ne.symm; assumption) | omega) (lk1 (by first | assumption | (apply Ne.symm; assumption) | omega) (lk1 (by first | assumption | (apply Ne.symm; assumption) | omega) (lk1 (by first | assumption | (apply Ne.symm; assumption) | omega) (va_up_self _ _ _))))) (by rfl) ?_
    refine pw_iload_n (pc := 12) dX3_nameAt_12 rfl ?_
    refine pw_iald (pc := 13) (j) dX3_nameAt_13 (by first | assumption | exact va_up_self _ _ _ | exact lk1 (by first | assumption | (apply Ne.symm; assumption) | omega) (by assumption) | exact lk1 (by first | assumption | (apply Ne.symm; assumption) | omega) (va_up_self _ _ _) | exact lk1 (by first | assumption | (apply Ne.symm; assumption) | omega) (lk1 (by first | assumption | (apply Ne.symm; assumption) | omega) (by assumption)) | exact lk1 (by first | assumption | (apply Ne.symm; assumption) | omega) (lk1 (by first | assumption | (apply Ne.symm; assumption) | omega) (va_up_self _ _ _)) | exact lk1 (by first | assumption | (apply Ne.symm; assumption) | omega) (lk1 (by first | assumption | (apply Ne.symm; assumption) | omega) (lk1 (by first | assumption | (apply Ne.symm; assumption) | omega) (by assumption))) | exact lk1 (by first | assumption | (apply Ne.symm; assumption) | omega) (lk1 (by first | assumption | (apply Ne.symm; assumption) | omega) (lk1 (by first | assumption | (apply Ne.symm; assumption) | omega) (va_up_self _ _ _))) | exact lk1 (by first | assumption | (apply Ne.symm; assumption) | omega) (lk1 (by first | assumption | (apply Ne.symm; assumption) | omega) (lk1 (by first | assumption | (apply Ne.symm; assumption) | omega) (lk1 (by first | assumption | (apply Ne.symm; assumption) | omega) (by assumption)))) | exact lk1 (by first | assumption | (apply Ne.symm; assumption) | omega) (lk1 (by first | assumption | (apply Ne.symm; assumption) | omega) (lk1 (by first | assumption | (apply Ne.symm; assumption) | omega) (lk1 (by first | assumption | (apply Ne.symm; assumption) | omega) (va_up_self _ _ _))))) (by first | rfl | (simp only [nI_add, pk_mul, Nat.one_mul, Nat.mul_one, Nat.zero_add, Nat.add_zero, Nat.mul_zero]; done) | exact pk_sub (by omega) | (rw [pk_sub (by omega)]; first | done | (rw [nI_add]; done) | (rw [pk_sub (by omega)]; done) | (rw [pk_sub (by omega), nI_add]; done)) | (simp only [nI_add, pk_mul]; first | exact pk_sub (by omega) | (congr 1; omega)) | (congr 1; omega)) (by omega) (by omega) ?_
    refine pw_goto (pc := 14) 19 dX3_nameAt_14 (by decide) ?_
    refine pw_iret dX3_nameAt_19 rfl ⟨?_, rfl⟩
    rw [nmA_in hj (by omega)]
/-- the place of x among f k, .., f (k + m - 1) -/
def plcF (f : Nat → Int32) (x : Int32) : Nat → Nat → Int32
  | _, 0 => -9
  | k, m + 1 => if f k = x then nI k else plcF f x (k + 1) m
def plc (f : Nat → Int32) (sz : Nat) (x : Int32) : Int32 := plcF f x 0 sz
theorem c_Row_placeOf {E : EV} {h : HP} {a b cap sz n : Nat} {f : Nat → Int32} (hr : rowAt h a b cap f sz) (x : Int32) : PM E mX3_placeOf [.ref a, .int x] h n n 0 (QE (some (.int (plc f sz x))) h) := by
  obtain ⟨h1, h2, h3, h4⟩ := id hr
  have loop : ∀ m k, k + m = sz → plcF f x k m = plc f sz x → PW (KX E mX3_placeOf n (QE (some (.int (plc f sz x))) h)) 2 [.ref a, .int x, .int (nI k)] [] h n 0 := by
    intro m
    induction m with
    | zero =>
      intro k hk e
      refine pw_iload_n (pc := 2) dX3_placeOf_2 rfl ?_
      refine pw_aload_n (pc := 3) dX3_placeOf_3 rfl ?_
      refine pw_get (pc := 4) fg_X3_9 dX3_placeOf_4 (by first | assumption | exact va_up_self _ _ _ | exact lk1 (by first | assumption | (apply Ne.symm; assumption) | omega) (by assumption) | exact lk1 (by first | assumption | (apply Ne.symm; assumption) | omega) (va_up_self _ _ _) | exact lk1 (by first | assumption | (apply Ne.symm; assumption) | omega) (lk1 (by first | assumption | (apply Ne.symm; assumption) | omega) (by assumption)) | exact lk1 (by first | assumption | (apply Ne.symm; assumption) | omega) (lk1 (by first | assumption | (apply Ne.symm; assumption) | omega) (va_up_self _ _ _)) | exact lk1 (by first | assumption | (apply Ne.symm; assumption) | omega) (lk1 (by first | assumption | (apply Ne.symm; assumption) | omega) (lk1 (by first | assumption | (apply Ne.symm; assumption) | omega) (by assumption))) | exact lk1 (by first | assumption | (apply Ne.symm; assumption) | omega) (lk1 (by first | assumption | (apply Ne.symm; assumption) | omega) (lk1 (by first | assumption | (apply Ne.symm; assumption) | omega) (va_up_self _ _ _))) | exact lk1 (by first | assumption | (apply Ne.symm; assumption) | omega) (lk1 (by first | assumption | (apply Ne.symm; assumption) | omega) (lk1 (by first | assumption | (apply Ne.symm; assumption) | omega) (lk1 (by first | assumption | (apply Ne.symm; assumption) | omega) (by assumption)))) | exact lk1 (by first | assumption | (apply Ne.symm; assumption) | omega) (lk1 (by first | assumption | (apply Ne.symm; assumption) | omega) (lk1 (by first | assumption | (apply Ne.symm; assumption) | omega) (lk1 (by first | assumption | (apply Ne.symm; assumption) | omega) (va_up_self _ _ _))))) (by rfl) ?_
      refine pw_icmp_ge_n (pc := 7) 28 dX3_placeOf_7 (by decide) (by omega) (by omega) (fun c => ?_) (fun c => ?_)
      · refine pw_bipush (pc := 28) (-9) dX3_placeOf_28 (by decide) ?_
        refine pw_iret dX3_placeOf_30 rfl ⟨?_, rfl⟩
        rw [← e]; rfl
      · omega
    | succ m ih =>
      intro k hk e
      refine pw_iload_n (pc := 2) dX3_placeOf_2 rfl ?_
      refine pw_aload_n (pc := 3) dX3_placeOf_3 rfl ?_
      refine pw_get (pc := 4) fg_X3_9 dX3_placeOf_4 (by first | assumption | exact va_up_self _ _ _ | exact lk1 (by first | assumption | (apply Ne.symm; assumption) | omega) (by assumption) | exact lk1 (by first | assumption | (apply Ne.symm; assumption) | omega) (va_up_self _ _ _) | exact lk1 (by first | assumption | (apply Ne.symm; assumption) | omega) (lk1 (by first | assumption | (apply Ne.symm; assumption) | omega) (by assumption)) | exact lk1 (by first | assumption | (apply Ne.symm; assumption) | omega) (lk1 (by first | assumption | (apply Ne.symm; assumption) | omega) (va_up_self _ _ _)) | exact lk1 (by first | assumption | (apply Ne.symm; assumption) | omega) (lk1 (by first | assumption | (apply Ne.symm; assumption) | omega) (lk1 (by first | assumption | (apply Ne.symm; assumption) | omega) (by assumption))) | exact lk1 (by first | assumption | (apply Ne.symm; assumption) | omega) (lk1 (by first | assumption | (apply Ne.symm; assumption) | omega) (lk1 (by first | assumption | (apply Ne.symm; assumption) | omega) (va_up_self _ _ _))) | exact lk1 (by first | assumption | (apply Ne.symm; assumption) | omega) (lk1 (by first | assumption | (apply Ne.symm; assumption) | omega) (lk1 (by first | assumption | (apply Ne.symm; assumption) | omega) (lk1 (by first | assumption | (apply Ne.symm; assumption) | omega) (by assumption)))) | exact lk1 (by first | assumption | (apply Ne.symm; assumption) | omega) (lk1 (by first | assumption | (apply Ne.symm; assumption) | omega) (lk1 (by first | assumption | (apply Ne.symm; assumption) | omega) (lk1 (by first | assumption | (apply Ne.symm; assumption) | omega) (va_up_self _ _ _))))) (by rfl) ?_
      refine pw_icmp_ge_n (pc := 7) 28 dX3_placeOf_7 (by decide) (by omega) (by omega) (fun c => ?_) (fun c => ?_)
      · omega
      · refine pw_aload_n (pc := 10) dX3_placeOf_10 rfl ?_
        refine pw_get (pc := 11) fg_X3_21 dX3_placeOf_11 (by first | assumption | exact va_up_self _ _ _ | exact lk1 (by first | assumption | (apply Ne.symm; assumption) | omega) (by assumption) | exact lk1 (by first | assumption | (apply Ne.symm; assumption) | omega) (va_up_self _ _ _) | exact lk1 (by first | assumption | (apply Ne.symm; assumption) | omega) (lk1 (by first | assumption | (apply Ne.symm; assumption) | omega) (by assumption)) | exact lk1 (by first | assumption | (apply Ne.symm; assumption) | omega) (lk1 (by first | assumption | (apply Ne.symm; assumption) | omega) (va_up_self _ _ _)) | exact lk1 (by first | assumption | (apply Ne.symm; assumption) | omega) (lk1 (by first | assumption | (apply Ne.symm; assumption) | omega) (lk1 (by first | assumption | (apply Ne.symm; assumption) | omega) (by assumption))) | exact lk1 (by first | assumption | (apply Ne.symm; assumption) | omega) (lk1 (by first | assumption | (apply Ne.symm; assumption) | omega) (lk1 (by first | assumption | (apply Ne.symm; assumption) | omega) (va_up_self _ _ _))) | exact lk1 (by first | assumption | (apply Ne.symm; assumption) | omega) (lk1 (by first | assumption | (apply Ne.symm; assumption) | omega) (lk1 (by first | assumption | (apply Ne.symm; assumption) | omega) (lk1 (by first | assumption | (apply Ne.symm; assumption) | omega) (by assumption)))) | exact lk1 (by first | assumption | (apply Ne.symm; assumption) | omega) (lk1 (by first | assumption | (apply Ne.symm; assumption) | omega) (lk1 (by first | assumption | (apply Ne.symm; assumption) | omega) (lk1 (by first | assumption | (apply Ne.symm; assumption) | omega) (va_up_self _ _ _))))) (by rfl) ?_
        refine pw_iload_n (pc := 14) dX3_placeOf_14 rfl ?_
        refine pw_iald (pc := 15) (k) dX3_placeOf_15 (by first | assumption | exact va_up_self _ _ _ | exact lk1 (by first | assumption | (apply Ne.symm; assumption) | omega) (by assumption) | exact lk1 (by first | assumption | (apply Ne.symm; assumption) | omega) (va_up_self _ _ _) | exact lk1 (by first | assumption | (apply Ne.symm; assumption) | omega) (lk1 (by first | assumption | (apply Ne.symm; assumption) | omega) (by assumption)) | exact lk1 (by first | assumption | (apply Ne.symm; assumption) | omega) (lk1 (by first | assumption | (apply Ne.symm; assumption) | omega) (va_up_self _ _ _)) | exact lk1 (by first | assumption | (apply Ne.symm; assumption) | omega) (lk1 (by first | assumption | (apply Ne.symm; assumption) | omega) (lk1 (by first | assumption | (apply Ne.symm; assumption) | omega) (by assumption))) | exact lk1 (by first | assumption | (apply Ne.symm; assumption) | omega) (lk1 (by first | assumption | (apply Ne.symm; assumption) | omega) (lk1 (by first | assumption | (apply Ne.symm; assumption) | omega) (va_up_self _ _ _))) | exact lk1 (by first | assumption | (apply Ne.symm; assumption) | omega) (lk1 (by first | assumption | (apply Ne.symm; assumption) | omega) (lk1 (by first | assumption | (apply Ne.symm; assumption) | omega) (lk1 (by first | assumption | (apply Ne.symm; assumption) | omega) (by assumption)))) | exact lk1 (by first | assumption | (apply Ne.symm; assumption) | omega) (lk1 (by first | assumption | (apply Ne.symm; assumption) | omega) (lk1 (by first | assumption | (apply Ne.symm; assumption) | omega) (lk1 (by first | assumption | (apply Ne.symm; assumption) | omega) (va_up_self _ _ _))))) (by first | rfl | (simp only [nI_add, pk_mul, Nat.one_mul, Nat.mul_one, Nat.zero_add, Nat.add_zero, Nat.mul_zero]; done) | exact pk_sub (by omega) | (rw [pk_sub (by omega)]; first | done | (rw [nI_add]; done) | (rw [pk_sub (by omega)]; done) | (rw [pk_sub (by omega), nI_add]; done)) | (simp only [nI_add, pk_mul]; first | exact pk_sub (by omega) | (congr 1; omega)) | (congr 1; omega)) (by omega) (by omega) ?_
        refine pw_iload_n (pc := 16) dX3_placeOf_16 rfl ?_
        refine pw_icmp_ne (pc := 17) 22 dX3_placeOf_17 (by decide) (fun c => ?_) (fun c => ?_)
        · refine pw_iinc2 (pc := 22) (nI (k + 1)) dX3_placeOf_22 (Nat.le_of_ble_eq_true rfl) rfl (ni_inc _) ?_
          refine pw_goto (pc := 25) 2 dX3_placeOf_25 (by decide) ?_
          refine ih (k + 1) (by omega) ?_
          rw [← e, plcF, if_neg c]
        · refine pw_iload_n (pc := 20) dX3_placeOf_20 rfl ?_
          refine pw_iret dX3_placeOf_21 rfl ⟨?_, rfl⟩
          rw [← e, plcF, if_pos c]
  refine PM.of [.ref a, .int x, .null] rfl (Nat.le_of_ble_eq_true rfl) rfl ?_
  refine pw_iconst (pc := 0) (nI 0) dX3_placeOf_0 (by decide) ?_
  refine pw_ist2 (pc := 1) dX3_placeOf_1 (Nat.le_of_ble_eq_true rfl) rfl ?_
  exact loop sz 0 (by omega) rfl
theorem c_Row_placeOrEnd {E : EV} {h : HP} {a b cap sz n : Nat} {f : Nat → Int32} (hr : rowAt h a b cap f sz) (x : Int32) : PM E mX3_placeOrEnd [.ref a, .int x] h n n 0 (QE (some (.int (if plc f sz x = -9 then nI sz else plc f sz x))) h) := by
  obtain ⟨h1, h2, h3, h4⟩ := id hr
  refine PM.of [.ref a, .int x, .null] rfl (Nat.le_of_ble_eq_true rfl) rfl ?_
  refine pw_aload_n (pc := 0) dX3_placeOrEnd_0 rfl ?_
  refine pw_iload_n (pc := 1) dX3_placeOrEnd_1 rfl ?_
  refine pw_callV_i (pc := 2) cv_X3_29 dX3_placeOrEnd_2 (by first | assumption | exact va_up_self _ _ _ | exact lk1 (by first | assumption | (apply Ne.symm; assumption) | omega) (by assumption) | exact lk1 (by first | assumption | (apply Ne.symm; assumption) | omega) (va_up_self _ _ _) | exact lk1 (by first | assumption | (apply Ne.symm; assumption) | omega) (lk1 (by first | assumption | (apply Ne.symm; assumption) | omega) (by assumption)) | exact lk1 (by first | assumption | (apply Ne.symm; assumption) | omega) (lk1 (by first | assumption | (apply Ne.symm; assumption) | omega) (va_up_self _ _ _)) | exact lk1 (by first | assumption | (apply Ne.symm; assumption) | omega) (lk1 (by first | assumption | (apply Ne.symm; assumption) | omega) (lk1 (by first | assumption | (apply Ne.symm; assumption) | omega) (by assumption))) | exact lk1 (by first | assumption | (apply Ne.symm; assumption) | omega) (lk1 (by first | assumption | (apply Ne.symm; assumption) | omega) (lk1 (by first | assumption | (apply Ne.symm; assumption) | omega) (va_up_self _ _ _))) | exact lk1 (by first | assumption | (apply Ne.symm; assumption) | omega) (lk1 (by first | assumption | (apply Ne.symm; assumption) | omega) (lk1 (by first | assumption | (apply Ne.symm; assumption) | omega) (lk1 (by first | assumption | (apply Ne.symm; assumption) | omega) (by assumption)))) | exact lk1 (by first | assumption | (apply Ne.symm; assumption) | omega) (lk1 (by first | assumption | (apply Ne.symm; assumption) | omega) (lk1 (by first | assumption | (apply Ne.symm; assumption) | omega) (lk1 (by first | assumption | (apply Ne.symm; assumption) | omega) (va_up_self _ _ _))))) rfl (c_Row_placeOf hr x) rfl rfl (Nat.le_of_ble_eq_true rfl) ⟨(Nat.le_of_ble_eq_true rfl), (Nat.le_of_ble_eq_true rfl)⟩ ?_
  refine pw_ist2 (pc := 5) dX3_placeOrEnd_5 (Nat.le_of_ble_eq_true rfl) rfl ?_
  refine pw_iload_n (pc := 6) dX3_placeOrEnd_6 rfl ?_
  refine pw_bipush (pc := 7) (-9) dX3_placeOrEnd_7 (by decide) ?_
  refine pw_icmp_ne (pc := 9) 19 dX3_placeOrEnd_9 (by decide) (fun c => ?_) (fun c => ?_)
  · refine pw_iload_n (pc := 19) dX3_placeOrEnd_19 rfl ?_
    refine pw_iret dX3_placeOrEnd_20 rfl ⟨?_, rfl⟩
    rw [if_neg c]
  · refine pw_aload_n (pc := 12) dX3_placeOrEnd_12 rfl ?_
    refine pw_get (pc := 13) fg_X3_9 dX3_placeOrEnd_13 (by first | assumption | exact va_up_self _ _ _ | exact lk1 (by first | assumption | (apply Ne.symm; assumption) | omega) (by assumption) | exact lk1 (by first | assumption | (apply Ne.symm; assumption) | omega) (va_up_self _ _ _) | exact lk1 (by first | assumption | (apply Ne.symm; assumption) | omega) (lk1 (by first | assumption | (apply Ne.symm; assumption) | omega) (by assumption)) | exact lk1 (by first | assumption | (apply Ne.symm; assumption) | omega) (lk1 (by first | assumption | (apply Ne.symm; assumption) | omega) (va_up_self _ _ _)) | exact lk1 (by first | assumption | (apply Ne.symm; assumption) | omega) (lk1 (by first | assumption | (apply Ne.symm; assumption) | omega) (lk1 (by first | assumption | (apply Ne.symm; assumption) | omega) (by assumption))) | exact lk1 (by first | assumption | (apply Ne.symm; assumption) | omega) (lk1 (by first | assumption | (apply Ne.symm; assumption) | omega) (lk1 (by first | assumption | (apply Ne.symm; assumption) | omega) (va_up_self _ _ _))) | exact lk1 (by first | assumption | (apply Ne.symm; assumption) | omega) (lk1 (by first | assumption | (apply Ne.symm; assumption) | omega) (lk1 (by first | assumption | (apply Ne.symm; assumption) | omega) (lk1 (by first | assumption | (apply Ne.symm; assumption) | omega) (by assumption)))) | exact lk1 (by first | assumption | (apply Ne.symm; assumption) | omega) (lk1 (by first | assumption | (apply Ne.symm; assumption) | omega) (lk1 (by first | assumption | (apply Ne.symm; assumption) | omega) (lk1 (by first | assumption | (apply Ne.symm; assumption) | omega) (va_up_self _ _ _))))) (by rfl) ?_
    refine pw_goto (pc := 16) 20 dX3_placeOrEnd_16 (by decide) ?_
    refine pw_iret dX3_placeOrEnd_20 rfl ⟨?_, rfl⟩
    rw [if_pos c]
/-- the bits of the first k names -/
def bitsF (f : Nat → Int32) : Nat → Int32
  | 0 => 0
  | k + 1 => bitsF f k ||| ((1 : Int32) <<< (f k &&& 31))
theorem c_Row_bits {E : EV} {h : HP} {a b cap sz n : Nat} {f : Nat → Int32} (hr : rowAt h a b cap f sz) : PM E mX3_bits [.ref a] h n n 0 (QE (some (.int (bitsF f sz))) h) := by
  obtain ⟨h1, h2, h3, h4⟩ := id hr
  have loop : ∀ m k, k + m = sz → PW (KX E mX3_bits n (QE (some (.int (bitsF f sz))) h)) 4 [.ref a, .int (bitsF f k), .int (nI k)] [] h n 0 := by
    intro m
    induction m with
    | zero =>
      intro k hk
      refine pw_iload_n (pc := 4) dX3_bits_4 rfl ?_
      refine pw_aload_n (pc := 5) dX3_bits_5 rfl ?_
      refine pw_get (pc := 6) fg_X3_9 dX3_bits_6 (by first | assumption | exact va_up_self _ _ _ | exact lk1 (by first | assumption | (apply Ne.symm; assumption) | omega) (by assumption) | exact lk1 (by first | assumption | (apply Ne.symm; assumption) | omega) (va_up_self _ _ _) | exact lk1 (by first | assumption | (apply Ne.symm; assumption) | omega) (lk1 (by first | assumption | (apply Ne.symm; assumption) | omega) (by assumption)) | exact lk1 (by first | assumption | (apply Ne.symm; assumption) | omega) (lk1 (by first | assumption | (apply Ne.symm; assumption) | omega) (va_up_self _ _ _)) | exact lk1 (by first | assumption | (apply Ne.symm; assumption) | omega) (lk1 (by first | assumption | (apply Ne.symm; assumption) | omega) (lk1 (by first | assumption | (apply Ne.symm; assumption) | omega) (by assumption))) | exact lk1 (by first | assumption | (apply Ne.symm; assumption) | omega) (lk1 (by first | assumption | (apply Ne.symm; assumption) | omega) (lk1 (by first | assumption | (apply Ne.symm; assumption) | omega) (va_up_self _ _ _))) | exact lk1 (by first | assumption | (apply Ne.symm; assumption) | omega) (lk1 (by first | assumption | (apply Ne.symm; assumption) | omega) (lk1 (by first | assumption | (apply Ne.symm; assumption) | omega) (lk1 (by first | assumption | (apply Ne.symm; assumption) | omega) (by assumption)))) | exact lk1 (by first | assumption | (apply Ne.symm; assumption) | omega) (lk1 (by first | assumption | (apply Ne.symm; assumption) | omega) (lk1 (by first | assumption | (apply Ne.symm; assumption) | omega) (lk1 (by first | assumption | (apply Ne.symm; assumption) | omega) (va_up_self _ _ _))))) (by rfl) ?_
      refine pw_icmp_ge_n (pc := 9) 29 dX3_bits_9 (by decide) (by omega) (by omega) (fun c => ?_) (fun c => ?_)
      · refine pw_iload_n (pc := 29) dX3_bits_29 rfl ?_
        obtain rfl : k = sz := by omega
        exact pw_iret dX3_bits_30 rfl ⟨rfl, rfl⟩
      · omega
    | succ m ih =>
      intro k hk
      refine pw_iload_n (pc := 4) dX3_bits_4 rfl ?_
      refine pw_aload_n (pc := 5) dX3_bits_5 rfl ?_
      refine pw_get (pc := 6) fg_X3_9 dX3_bits_6 (by first | assumption | exact va_up_self _ _ _ | exact lk1 (by first | assumption | (apply Ne.symm; assumption) | omega) (by assumption) | exact lk1 (by first | assumption | (apply Ne.symm; assumption) | omega) (va_up_self _ _ _) | exact lk1 (by first | assumption | (apply Ne.symm; assumption) | omega) (lk1 (by first | assumption | (apply Ne.symm; assumption) | omega) (by assumption)) | exact lk1 (by first | assumption | (apply Ne.symm; assumption) | omega) (lk1 (by first | assumption | (apply Ne.symm; assumption) | omega) (va_up_self _ _ _)) | exact lk1 (by first | assumption | (apply Ne.symm; assumption) | omega) (lk1 (by first | assumption | (apply Ne.symm; assumption) | omega) (lk1 (by first | assumption | (apply Ne.symm; assumption) | omega) (by assumption))) | exact lk1 (by first | assumption | (apply Ne.symm; assumption) | omega) (lk1 (by first | assumption | (apply Ne.symm; assumption) | omega) (lk1 (by first | assumption | (apply Ne.symm; assumption) | omega) (va_up_self _ _ _))) | exact lk1 (by first | assumption | (apply Ne.symm; assumption) | omega) (lk1 (by first | assumption | (apply Ne.symm; assumption) | omega) (lk1 (by first | assumption | (apply Ne.symm; assumption) | omega) (lk1 (by first | assumption | (apply Ne.symm; assumption) | omega) (by assumption)))) | exact lk1 (by first | assumption | (apply Ne.symm; assumption) | omega) (lk1 (by first | assumption | (apply Ne.symm; assumption) | omega) (lk1 (by first | assumption | (apply Ne.symm; assumption) | omega) (lk1 (by first | assumption | (apply Ne.symm; assumption) | omega) (va_up_self _ _ _))))) (by rfl) ?_
      refine pw_icmp_ge_n (pc := 9) 29 dX3_bits_9 (by decide) (by omega) (by omega) (fun c => ?_) (fun c => ?_)
      · omega
      · refine pw_iload_n (pc := 12) dX3_bits_12 rfl ?_
        refine pw_iconst (pc := 13) (nI 1) dX3_bits_13 (by decide) ?_
        refine pw_aload_n (pc := 14) dX3_bits_14 rfl ?_
        refine pw_get (pc := 15) fg_X3_21 dX3_bits_15 (by first | assumption | exact va_up_self _ _ _ | exact lk1 (by first | assumption | (apply Ne.symm; assumption) | omega) (by assumption) | exact lk1 (by first | assumption | (apply Ne.symm; assumption) | omega) (va_up_self _ _ _) | exact lk1 (by first | assumption | (apply Ne.symm; assumption) | omega) (lk1 (by first | assumption | (apply Ne.symm; assumption) | omega) (by assumption)) | exact lk1 (by first | assumption | (apply Ne.symm; assumption) | omega) (lk1 (by first | assumption | (apply Ne.symm; assumption) | omega) (va_up_self _ _ _)) | exact lk1 (by first | assumption | (apply Ne.symm; assumption) | omega) (lk1 (by first | assumption | (apply Ne.symm; assumption) | omega) (lk1 (by first | assumption | (apply Ne.symm; assumption) | omega) (by assumption))) | exact lk1 (by first | assumption | (apply Ne.symm; assumption) | omega) (lk1 (by first | assumption | (apply Ne.symm; assumption) | omega) (lk1 (by first | assumption | (apply Ne.symm; assumption) | omega) (va_up_self _ _ _))) | exact lk1 (by first | assumption | (apply Ne.symm; assumption) | omega) (lk1 (by first | assumption | (apply Ne.symm; assumption) | omega) (lk1 (by first | assumption | (apply Ne.symm; assumption) | omega) (lk1 (by first | assumption | (apply Ne.symm; assumption) | omega) (by assumption)))) | exact lk1 (by first | assumption | (apply Ne.symm; assumption) | omega) (lk1 (by first | assumption | (apply Ne.symm; assumption) | omega) (lk1 (by first | assumption | (apply Ne.symm; assumption) | omega) (lk1 (by first | assumption | (apply Ne.symm; assumption) | omega) (va_up_self _ _ _))))) (by rfl) ?_
        refine pw_iload_n (pc := 18) dX3_bits_18 rfl ?_
        refine pw_iald (pc := 19) (k) dX3_bits_19 (by first | assumption | exact va_up_self _ _ _ | exact lk1 (by first | assumption | (apply Ne.symm; assumption) | omega) (by assumption) | exact lk1 (by first | assumption | (apply Ne.symm; assumption) | omega) (va_up_self _ _ _) | exact lk1 (by first | assumption | (apply Ne.symm; assumption) | omega) (lk1 (by first | assumption | (apply Ne.symm; assumption) | omega) (by assumption)) | exact lk1 (by first | assumption | (apply Ne.symm; assumption) | omega) (lk1 (by first | assumption | (apply Ne.symm; assumption) | omega) (va_up_self _ _ _)) | exact lk1 (by first | assumption | (apply Ne.symm; assumption) | omega) (lk1 (by first | assumption | (apply Ne.symm; assumption) | omega) (lk1 (by first | assumption | (apply Ne.symm; assumption) | omega) (by assumption))) | exact lk1 (by first | assumption | (apply Ne.symm; assumption) | omega) (lk1 (by first | assumption | (apply Ne.symm; assumption) | omega) (lk1 (by first | assumption | (apply Ne.symm; assumption) | omega) (va_up_self _ _ _))) | exact lk1 (by first | assumption | (apply Ne.symm; assumption) | omega) (lk1 (by first | assumption | (apply Ne.symm; assumption) | omega) (lk1 (by first | assumption | (apply Ne.symm; assumption) | omega) (lk1 (by first | assumption | (apply Ne.symm; assumption) | omega) (by assumption)))) | exact lk1 (by first | assumption | (apply Ne.symm; assumption) | omega) (lk1 (by first | assumption | (apply Ne.symm; assumption) | omega) (lk1 (by first | assumption | (apply Ne.symm; assumption) | omega) (lk1 (by first | assumption | (apply Ne.symm; assumption) | omega) (va_up_self _ _ _))))) (by first | rfl | (simp only [nI_add, pk_mul, Nat.one_mul, Nat.mul_one, Nat.zero_add, Nat.add_zero, Nat.mul_zero]; done) | exact pk_sub (by omega) | (rw [pk_sub (by omega)]; first | done | (rw [nI_add]; done) | (rw [pk_sub (by omega)]; done) | (rw [pk_sub (by omega), nI_add]; done)) | (simp only [nI_add, pk_mul]; first | exact pk_sub (by omega) | (congr 1; omega)) | (congr 1; omega)) (by omega) (by omega) ?_
        refine pw_ishl (pc := 20) dX3_bits_20 ?_
        refine pw_ior (pc := 21) dX3_bits_21 ?_
        refine pw_ist1 (pc := 22) dX3_bits_22 (Nat.le_of_ble_eq_true rfl) rfl ?_
        refine pw_iinc2 (pc := 23) (nI (k + 1)) dX3_bits_23 (Nat.le_of_ble_eq_true rfl) rfl (ni_inc _) ?_
        refine pw_goto (pc := 26) 4 dX3_bits_26 (by decide) ?_
        exact ih (k + 1) (by omega)
  refine PM.of [.ref a, .null, .null] rfl (Nat.le_of_ble_eq_true rfl) rfl ?_
  refine pw_iconst (pc := 0) (nI 0) dX3_bits_0 (by decide) ?_
  refine pw_ist1 (pc := 1) dX3_bits_1 (Nat.le_of_ble_eq_true rfl) rfl ?_
  refine pw_iconst (pc := 2) (nI 0) dX3_bits_2 (by decide) ?_
  refine pw_ist2 (pc := 3) dX3_bits_3 (Nat.le_of_ble_eq_true rfl) rfl ?_
  exact loop sz 0 (by omega)
end
section
/-- outside S nothing has changed -/
def frm (h h' : HP) (S : List Nat) : Prop := ∀ q, q ∉ S → h' q = h q
theorem rowAt.ne {h : HP} {a b cap sz : Nat} {f : Nat → Int32} (hr : rowAt h a b cap f sz) : a ≠ b := by
  obtain ⟨h1, h2, -⟩ := hr
  intro e
  rw [e, h2] at h1
  cases h1
theorem frm_2 {h : HP} {a b : Nat} {e1 e2 : PE} : frm h (va_up (va_up h b (some e2)) a (some e1)) [a, b] := by
  intro q hq
  simp at hq
  simp [va_up, hq]
def insF (f : Nat → Int32) (p : Nat) (x : Int32) : Nat → Int32 := fun k => if k < p then f k else if k = p then x else f (k - 1)
def remF (f : Nat → Int32) (p : Nat) : Nat → Int32 := fun k => if k < p then f k else f (k + 1)
def swpF (f : Nat → Int32) (p : Nat) : Nat → Int32 := fun k => if k = p then f (p - 1) else if k = p - 1 then f p else f k
theorem c_Row_become {E : EV} {h : HP} {a b cap sz a2 b2 cap2 sz2 n : Nat} {f f2 : Nat → Int32} (hr : rowAt h a b cap f sz) (hr2 : rowAt h a2 b2 cap2 f2 sz2) (hab : b ≠ b2) (haa : a ≠ a2) : PM E mX3_become [.ref a, .ref a2] h n n 0 (fun v h' => v = none ∧ (∃ g', rowAt h' a b cap g' (min sz2 cap) ∧ ∀ k, k < min sz2 cap → g' k = f2 k) ∧ frm h h' [a, b]) := by
  have hne := hr.ne
  have hne2 := hr2.ne
  obtain ⟨h1, h2, h3, h4⟩ := id hr
  obtain ⟨k1, k2, k3, k4⟩ := id hr2
  have n1 : a ≠ b2 := by intro e; rw [e, k2] at h1; cases h1
  have n2 : a2 ≠ b := by intro e; rw [e, h2] at k1; cases k1
  refine PM.of [.ref a, .ref a2] rfl (Nat.le_of_ble_eq_true rfl) rfl ?_
  refine pw_aload_n (pc := 0) dX3_become_0 rfl ?_
  refine pw_aload_n (pc := 1) dX3_become_1 rfl ?_
  refine pw_get (pc := 2) fg_X3_9 dX3_become_2 (by first | assumption | exact va_up_self _ _ _ | exact lk1 (by first | assumption | (apply Ne.symm; assumption) | omega) (by assumption) | exact lk1 (by first | assumption | (apply Ne.symm; assumption) | omega) (va_up_self _ _ _) | exact lk1 (by first | assumption | (apply Ne.symm; assumption) | omega) (lk1 (by first | assumption | (apply Ne.symm; assumption) | omega) (by assumption)) | exact lk1 (by first | assumption | (apply Ne.symm; assumption) | omega) (lk1 (by first | assumption | (apply Ne.symm; assumption) | omega) (va_up_self _ _ _)) | exact lk1 (by first | assumption | (apply Ne.symm; assumption) | omega) (lk1 (by first | assumption | (apply Ne.symm; assumption) | omega) (lk1 (by first | assumption | (apply Ne.symm; assumption) | omega) (by assumption))) | exact lk1 (by first | assumption | (apply Ne.symm; assumption) | omega) (lk1 (by first | assumption | (apply Ne.symm; assumption) | omega) (lk1 (by first | assumption | (apply Ne.symm; assumption) | omega) (va_up_self _ _ _))) | exact lk1 (by first | assumption | (apply Ne.symm; assumption) | omega) (lk1 (by first | assumption | (apply Ne.symm; assumption) | omega) (lk1 (by first | assumption | (apply Ne.symm; assumption) | omega) (lk1 (by first | assumption | (apply Ne.symm; assumption) | omega) (by assumption)))) | exact lk1 (by first | assumption | (apply Ne.symm; assumption) | omega) (lk1 (by first | assumption | (apply Ne.symm; assumption) | omega) (lk1 (by first | assumption | (apply Ne.symm; assumption) | omega) (lk1 (by first | assumption | (apply Ne.symm; assumption) | omega) (va_up_self _ _ _))))) (by rfl) ?_
  refine pw_aload_n (pc := 5) dX3_become_5 rfl ?_
  refine pw_get (pc := 6) fg_X3_21 dX3_become_6 (by first | assumption | exact va_up_self _ _ _ | exact lk1 (by first | assumption | (apply Ne.symm; assumption) | omega) (by assumption) | exact lk1 (by first | assumption | (apply Ne.symm; assumption) | omega) (va_up_self _ _ _) | exact lk1 (by first | assumption | (apply Ne.symm; assumption) | omega) (lk1 (by first | assumption | (apply Ne.symm; assumption) | omega) (by assumption)) | exact lk1 (by first | assumption | (apply Ne.symm; assumption) | omega) (lk1 (by first | assumption | (apply Ne.symm; assumption) | omega) (va_up_self _ _ _)) | exact lk1 (by first | assumption | (apply Ne.symm; assumption) | omega) (lk1 (by first | assumption | (apply Ne.symm; assumption) | omega) (lk1 (by first | assumption | (apply Ne.symm; assumption) | omega) (by assumption))) | exact lk1 (by first | assumption | (apply Ne.symm; assumption) | omega) (lk1 (by first | assumption | (apply Ne.symm; assumption) | omega) (lk1 (by first | assumption | (apply Ne.symm; assumption) | omega) (va_up_self _ _ _))) | exact lk1 (by first | assumption | (apply Ne.symm; assumption) | omega) (lk1 (by first | assumption | (apply Ne.symm; assumption) | omega) (lk1 (by first | assumption | (apply Ne.symm; assumption) | omega) (lk1 (by first | assumption | (apply Ne.symm; assumption) | omega) (by assumption)))) | exact lk1 (by first | assumption | (apply Ne.symm; assumption) | omega) (lk1 (by first | assumption | (apply Ne.symm; assumption) | omega) (lk1 (by first | assumption | (apply Ne.symm; assumption) | omega) (lk1 (by first | assumption | (apply Ne.symm; assumption) | omega) (va_up_self _ _ _))))) (by rfl) ?_
  refine pw_alen (pc := 9) _ dX3_become_9 (by first | assumption | exact va_up_self _ _ _ | exact lk1 (by first | assumption | (apply Ne.symm; assumption) | omega) (by assumption) | exact lk1 (by first | assumption | (apply Ne.symm; assumption) | omega) (va_up_self _ _ _) | exact lk1 (by first | assumption | (apply Ne.symm; assumption) | omega) (lk1 (by first | assumption | (apply Ne.symm; assumption) | omega) (by assumption)) | exact lk1 (by first | assumption | (apply Ne.symm; assumption) | omega) (lk1 (by first | assumption | (apply Ne.symm; assumption) | omega) (va_up_self _ _ _)) | exact lk1 (by first | assumption | (apply Ne.symm; assumption) | omega) (lk1 (by first | assumption | (apply Ne.symm; assumption) | omega) (lk1 (by first | assumption | (apply Ne.symm; assumption) | omega) (by assumption))) | exact lk1 (by first | assumption | (apply Ne.symm; assumption) | omega) (lk1 (by first | assumption | (apply Ne.symm; assumption) | omega) (lk1 (by first | assumption | (apply Ne.symm; assumption) | omega) (va_up_self _ _ _))) | exact lk1 (by first | assumption | (apply Ne.symm; assumption) | omega) (lk1 (by first | assumption | (apply Ne.symm; assumption) | omega) (lk1 (by first | assumption | (apply Ne.symm; assumption) | omega) (lk1 (by first | assumption | (apply Ne.symm; assumption) | omega) (by assumption)))) | exact lk1 (by first | assumption | (apply Ne.symm; assumption) | omega) (lk1 (by first | assumption | (apply Ne.symm; assumption) | omega) (lk1 (by first | assumption | (apply Ne.symm; assumption) | omega) (lk1 (by first | assumption | (apply Ne.symm; assumption) | omega) (va_up_self _ _ _))))) (by decide) rfl ?_
  refine pw_mmin (pc := 10) lk_X3_43 dX3_become_10 (Nat.le_of_ble_eq_true rfl) (Nat.le_of_ble_eq_true rfl) ?_
  have e1 : (if Int32.ofNat cap < nI sz2 then Int32.ofNat cap else nI sz2) = nI (min sz2 cap) := by
    have e0 : Int32.ofNat cap = nI cap := rfl
    rw [e0]
    by_cases hc : cap < sz2
    · rw [if_pos ((nI_ltI (by omega) (by omega)).mpr hc), Nat.min_eq_right (by omega)]
    · rw [if_neg (fun z => hc ((nI_ltI (by omega) (by omega)).mp z)), Nat.min_eq_left (by omega)]
  refine pw_topi _ e1 ?_
  refine pw_put1 (pc := 13) fp_X3_9 dX3_become_13 (by first | assumption | exact va_up_self _ _ _ | exact lk1 (by first | assumption | (apply Ne.symm; assumption) | omega) (by assumption) | exact lk1 (by first | assumption | (apply Ne.symm; assumption) | omega) (va_up_self _ _ _) | exact lk1 (by first | assumption | (apply Ne.symm; assumption) | omega) (lk1 (by first | assumption | (apply Ne.symm; assumption) | omega) (by assumption)) | exact lk1 (by first | assumption | (apply Ne.symm; assumption) | omega) (lk1 (by first | assumption | (apply Ne.symm; assumption) | omega) (va_up_self _ _ _)) | exact lk1 (by first | assumption | (apply Ne.symm; assumption) | omega) (lk1 (by first | assumption | (apply Ne.symm; assumption) | omega) (lk1 (by first | assumption | (apply Ne.symm; assumption) | omega) (by assumption))) | exact lk1 (by first | assumption | (apply Ne.symm; assumption) | omega) (lk1 (by first | assumption | (apply Ne.symm; assumption) | omega) (lk1 (by first | assumption | (apply Ne.symm; assumption) | omega) (va_up_self _ _ _))) | exact lk1 (by first | assumption | (apply Ne.symm; assumption) | omega) (lk1 (by first | assumption | (apply Ne.symm; assumption) | omega) (lk1 (by first | assumption | (apply Ne.symm; assumption) | omega) (lk1 (by first | assumption | (apply Ne.symm; assumption) | omega) (by assumption)))) | exact lk1 (by first | assumption | (apply Ne.symm; assumption) | omega) (lk1 (by first | assumption | (apply Ne.symm; assumption) | omega) (lk1 (by first | assumption | (apply Ne.symm; assumption) | omega) (lk1 (by first | assumption | (apply Ne.symm; assumption) | omega) (va_up_self _ _ _))))) rfl rfl ?_
  refine pw_aload_n (pc := 16) dX3_become_16 rfl ?_
  refine pw_get (pc := 17) fg_X3_21 dX3_become_17 (by first | assumption | exact va_up_self _ _ _ | exact lk1 (by first | assumption | (apply Ne.symm; assumption) | omega) (by assumption) | exact lk1 (by first | assumption | (apply Ne.symm; assumption) | omega) (va_up_self _ _ _) | exact lk1 (by first | assumption | (apply Ne.symm; assumption) | omega) (lk1 (by first | assumption | (apply Ne.symm; assumption) | omega) (by assumption)) | exact lk1 (by first | assumption | (apply Ne.symm; assumption) | omega) (lk1 (by first | assumption | (apply Ne.symm; assumption) | omega) (va_up_self _ _ _)) | exact lk1 (by first | assumption | (apply Ne.symm; assumption) | omega) (lk1 (by first | assumption | (apply Ne.symm; assumption) | omega) (lk1 (by first | assumption | (apply Ne.symm; assumption) | omega) (by assumption))) | exact lk1 (by first | assumption | (apply Ne.symm; assumption) | omega) (lk1 (by first | assumption | (apply Ne.symm; assumption) | omega) (lk1 (by first | assumption | (apply Ne.symm; assumption) | omega) (va_up_self _ _ _))) | exact lk1 (by first | assumption | (apply Ne.symm; assumption) | omega) (lk1 (by first | assumption | (apply Ne.symm; assumption) | omega) (lk1 (by first | assumption | (apply Ne.symm; assumption) | omega) (lk1 (by first | assumption | (apply Ne.symm; assumption) | omega) (by assumption)))) | exact lk1 (by first | assumption | (apply Ne.symm; assumption) | omega) (lk1 (by first | assumption | (apply Ne.symm; assumption) | omega) (lk1 (by first | assumption | (apply Ne.symm; assumption) | omega) (lk1 (by first | assumption | (apply Ne.symm; assumption) | omega) (va_up_self _ _ _))))) (by rfl) ?_
  refine pw_iconst (pc := 20) (nI 0) dX3_become_20 (by decide) ?_
  refine pw_aload_n (pc := 21) dX3_become_21 rfl ?_
  refine pw_get (pc := 22) fg_X3_21 dX3_become_22 (by first | assumption | exact va_up_self _ _ _ | exact lk1 (by first | assumption | (apply Ne.symm; assumption) | omega) (by assumption) | exact lk1 (by first | assumption | (apply Ne.symm; assumption) | omega) (va_up_self _ _ _) | exact lk1 (by first | assumption | (apply Ne.symm; assumption) | omega) (lk1 (by first | assumption | (apply Ne.symm; assumption) | omega) (by assumption)) | exact lk1 (by first | assumption | (apply Ne.symm; assumption) | omega) (lk1 (by first | assumption | (apply Ne.symm; assumption) | omega) (va_up_self _ _ _)) | exact lk1 (by first | assumption | (apply Ne.symm; assumption) | omega) (lk1 (by first | assumption | (apply Ne.symm; assumption) | omega) (lk1 (by first | assumption | (apply Ne.symm; assumption) | omega) (by assumption))) | exact lk1 (by first | assumption | (apply Ne.symm; assumption) | omega) (lk1 (by first | assumption | (apply Ne.symm; assumption) | omega) (lk1 (by first | assumption | (apply Ne.symm; assumption) | omega) (va_up_self _ _ _))) | exact lk1 (by first | assumption | (apply Ne.symm; assumption) | omega) (lk1 (by first | assumption | (apply Ne.symm; assumption) | omega) (lk1 (by first | assumption | (apply Ne.symm; assumption) | omega) (lk1 (by first | assumption | (apply Ne.symm; assumption) | omega) (by assumption)))) | exact lk1 (by first | assumption | (apply Ne.symm; assumption) | omega) (lk1 (by first | assumption | (apply Ne.symm; assumption) | omega) (lk1 (by first | assumption | (apply Ne.symm; assumption) | omega) (lk1 (by first | assumption | (apply Ne.symm; assumption) | omega) (va_up_self _ _ _))))) (by rfl) ?_
  refine pw_iconst (pc := 25) (nI 0) dX3_become_25 (by decide) ?_
  refine pw_aload_n (pc := 26) dX3_become_26 rfl ?_
  refine pw_get (pc := 27) fg_X3_9 dX3_become_27 (by first | assumption | exact va_up_self _ _ _ | exact lk1 (by first | assumption | (apply Ne.symm; assumption) | omega) (by assumption) | exact lk1 (by first | assumption | (apply Ne.symm; assumption) | omega) (va_up_self _ _ _) | exact lk1 (by first | assumption | (apply Ne.symm; assumption) | omega) (lk1 (by first | assumption | (apply Ne.symm; assumption) | omega) (by assumption)) | exact lk1 (by first | assumption | (apply Ne.symm; assumption) | omega) (lk1 (by first | assumption | (apply Ne.symm; assumption) | omega) (va_up_self _ _ _)) | exact lk1 (by first | assumption | (apply Ne.symm; assumption) | omega) (lk1 (by first | assumption | (apply Ne.symm; assumption) | omega) (lk1 (by first | assumption | (apply Ne.symm; assumption) | omega) (by assumption))) | exact lk1 (by first | assumption | (apply Ne.symm; assumption) | omega) (lk1 (by first | assumption | (apply Ne.symm; assumption) | omega) (lk1 (by first | assumption | (apply Ne.symm; assumption) | omega) (va_up_self _ _ _))) | exact lk1 (by first | assumption | (apply Ne.symm; assumption) | omega) (lk1 (by first | assumption | (apply Ne.symm; assumption) | omega) (lk1 (by first | assumption | (apply Ne.symm; assumption) | omega) (lk1 (by first | assumption | (apply Ne.symm; assumption) | omega) (by assumption)))) | exact lk1 (by first | assumption | (apply Ne.symm; assumption) | omega) (lk1 (by first | assumption | (apply Ne.symm; assumption) | omega) (lk1 (by first | assumption | (apply Ne.symm; assumption) | omega) (lk1 (by first | assumption | (apply Ne.symm; assumption) | omega) (va_up_self _ _ _))))) (by rfl) ?_
  refine pw_copy (pc := 30) (0) (0) (min sz2 cap) lk_X3_46 dX3_become_30 (by first | assumption | exact va_up_self _ _ _ | exact lk1 (by first | assumption | (apply Ne.symm; assumption) | omega) (by assumption) | exact lk1 (by first | assumption | (apply Ne.symm; assumption) | omega) (va_up_self _ _ _) | exact lk1 (by first | assumption | (apply Ne.symm; assumption) | omega) (lk1 (by first | assumption | (apply Ne.symm; assumption) | omega) (by assumption)) | exact lk1 (by first | assumption | (apply Ne.symm; assumption) | omega) (lk1 (by first | assumption | (apply Ne.symm; assumption) | omega) (va_up_self _ _ _)) | exact lk1 (by first | assumption | (apply Ne.symm; assumption) | omega) (lk1 (by first | assumption | (apply Ne.symm; assumption) | omega) (lk1 (by first | assumption | (apply Ne.symm; assumption) | omega) (by assumption))) | exact lk1 (by first | assumption | (apply Ne.symm; assumption) | omega) (lk1 (by first | assumption | (apply Ne.symm; assumption) | omega) (lk1 (by first | assumption | (apply Ne.symm; assumption) | omega) (va_up_self _ _ _))) | exact lk1 (by first | assumption | (apply Ne.symm; assumption) | omega) (lk1 (by first | assumption | (apply Ne.symm; assumption) | omega) (lk1 (by first | assumption | (apply Ne.symm; assumption) | omega) (lk1 (by first | assumption | (apply Ne.symm; assumption) | omega) (by assumption)))) | exact lk1 (by first | assumption | (apply Ne.symm; assumption) | omega) (lk1 (by first | assumption | (apply Ne.symm; assumption) | omega) (lk1 (by first | assumption | (apply Ne.symm; assumption) | omega) (lk1 (by first | assumption | (apply Ne.symm; assumption) | omega) (va_up_self _ _ _))))) (by first | assumption | exact va_up_self _ _ _ | exact lk1 (by first | assumption | (apply Ne.symm; assumption) | omega) (by assumption) | exact lk1 (by first | assumption | (apply Ne.symm; assumption) | omega) (va_up_self _ _ _) | exact lk1 (by first | assumption | (apply Ne.symm; assumption) | omega) (lk1 (by first | assumption | (apply Ne.symm; assumption) | omega) (by assumption)) | exact lk1 (by first | assumption | (apply Ne.symm; assumption) | omega) (lk1 (by first | assumption | (apply Ne.symm; assumption) | omega) (va_up_self _ _ _)) | exact lk1 (by first | assumption | (apply Ne.symm; assumption) | omega) (lk1 (by first | assumption | (apply Ne.symm; assumption) | omega) (lk1 (by first | assumption | (apply Ne.symm; assumption) | omega) (by assumption))) | exact lk1 (by first | assumption | (apply Ne.symm; assumption) | omega) (lk1 (by first | assumption | (apply Ne.symm; assumption) | omega) (lk1 (by first | assumption | (apply Ne.symm; assumption) | omega) (va_up_self _ _ _))) | exact lk1 (by first | assumption | (apply Ne.symm; assumption) | omega) (lk1 (by first | assumption | (apply Ne.symm; assumption) | omega) (lk1 (by first | assumption | (apply Ne.symm; assumption) | omega) (lk1 (by first | assumption | (apply Ne.symm; assumption) | omega) (by assumption)))) | exact lk1 (by first | assumption | (apply Ne.symm; assumption) | omega) (lk1 (by first | assumption | (apply Ne.symm; assumption) | omega) (lk1 (by first | assumption | (apply Ne.symm; assumption) | omega) (lk1 (by first | assumption | (apply Ne.symm; assumption) | omega) (va_up_self _ _ _))))) (by first | rfl | (simp only [nI_add, pk_mul, Nat.one_mul, Nat.mul_one, Nat.zero_add, Nat.add_zero, Nat.mul_zero]; done) | exact pk_sub (by omega) | (rw [pk_sub (by omega)]; first | done | (rw [nI_add]; done) | (rw [pk_sub (by omega)]; done) | (rw [pk_sub (by omega), nI_add]; done)) | (simp only [nI_add, pk_mul]; first | exact pk_sub (by omega) | (congr 1; omega)) | (congr 1; omega)) (by first | rfl | (simp only [nI_add, pk_mul, Nat.one_mul, Nat.mul_one, Nat.zero_add, Nat.add_zero, Nat.mul_zero]; done) | exact pk_sub (by omega) | (rw [pk_sub (by omega)]; first | done | (rw [nI_add]; done) | (rw [pk_sub (by omega)]; done) | (rw [pk_sub (by omega), nI_add]; done)) | (simp only [nI_add, pk_mul]; first | exact pk_sub (by omega) | (congr 1; omega)) | (congr 1; omega)) (by first | rfl | (simp only [nI_add, pk_mul, Nat.one_mul, Nat.mul_one, Nat.zero_add, Nat.add_zero, Nat.mul_zero]; done) | exact pk_sub (by omega) | (rw [pk_sub (by omega)]; first | done | (rw [nI_add]; done) | (rw [pk_sub (by omega)]; done) | (rw [pk_sub (by omega), nI_add]; done)) | (simp only [nI_add, pk_mul]; first | exact pk_sub (by omega) | (congr 1; omega)) | (congr 1; omega)) (by omega) (by omega) (by omega) (by omega) (Nat.le_of_ble_eq_true rfl) (Nat.le_of_ble_eq_true rfl) ?_
  refine pw_vret dX3_become_33 rfl ⟨rfl, ⟨va_cpy f2 f 0 0 (min sz2 cap), ⟨by simp [va_up, hne], by simp [va_up], by omega, h4⟩, fun k hk => ?_⟩, ?_⟩
  · rw [pk_cpy_in (by omega) (by omega)]; congr 1; omega
  · intro q hq
    simp at hq
    simp [va_up, hq]
theorem c_Row_insert {E : EV} {h : HP} {a b cap sz n : Nat} {f : Nat → Int32} (hr : rowAt h a b cap f sz) (p : Nat) (hp : p ≤ sz) (hc : sz < cap) (x : Int32) : PM E mX3_insert [.ref a, .int (nI p), .int x] h n n 0 (fun v h' => v = none ∧ (∃ g', rowAt h' a b cap g' (sz + 1) ∧ ∀ k, k < sz + 1 → g' k = insF f p x k) ∧ frm h h' [a, b]) := by
  have hne := hr.ne
  obtain ⟨h1, h2, h3, h4⟩ := id hr
  refine PM.of [.ref a, .int (nI p), .int x] rfl (Nat.le_of_ble_eq_true rfl) rfl ?_
  refine pw_iload_n (pc := 0) dX3_insert_0 rfl ?_
  refine pw_if_lt_n (pc := 1) 24 dX3_insert_1 (by decide) (by omega) ?_
  refine pw_iload_n (pc := 4) dX3_insert_4 rfl ?_
  refine pw_aload_n (pc := 5) dX3_insert_5 rfl ?_
  refine pw_get (pc := 6) fg_X3_9 dX3_insert_6 (by first | assumption | exact va_up_self _ _ _ | exact lk1 (by first | assumption | (apply Ne.symm; assumption) | omega) (by assumption) | exact lk1 (by first | assumption | (apply Ne.symm; assumption) | omega) (va_up_self _ _ _) | exact lk1 (by first | assumption | (apply Ne.symm; assumption) | omega) (lk1 (by first | assumption | (apply Ne.symm; assumption) | omega) (by assumption)) | exact lk1 (by first | assumption | (apply Ne.symm; assumption) | omega) (lk1 (by first | assumption | (apply Ne.symm; assumption) | omega) (va_up_self _ _ _)) | exact lk1 (by first | assumption | (apply Ne.symm; assumption) | omega) (lk1 (by first | assumption | (apply Ne.symm; assumption) | omega) (lk1 (by first | assumption | (apply Ne.symm; assumption) | omega) (by assumption))) | exact lk1 (by first | assumption | (apply Ne.symm; assumption) | omega) (lk1 (by first | assumption | (apply Ne.symm; assumption) | omega) (lk1 (by first | assumption | (apply Ne.symm; assumption) | omega) (va_up_self _ _ _))) | exact lk1 (by first | assumption | (apply Ne.symm; assumption) | omega) (lk1 (by first | assumption | (apply Ne.symm; assumption) | omega) (lk1 (by first | assumption | (apply Ne.symm; assumption) | omega) (lk1 (by first | assumption | (apply Ne.symm; assumption) | omega) (by assumption)))) | exact lk1 (by first | assumption | (apply Ne.symm; assumption) | omega) (lk1 (by first | assumption | (apply Ne.symm; assumption) | omega) (lk1 (by first | assumption | (apply Ne.symm; assumption) | omega) (lk1 (by first | assumption | (apply Ne.symm; assumption) | omega) (va_up_self _ _ _))))) (by rfl) ?_
  refine pw_icmp_gt_n (pc := 9) 24 dX3_insert_9 (by decide) (by omega) (by omega) (fun c => ?_) (fun c => ?_)
  · omega
  refine pw_aload_n (pc := 12) dX3_insert_12 rfl ?_
  refine pw_get (pc := 13) fg_X3_9 dX3_insert_13 (by first | assumption | exact va_up_self _ _ _ | exact lk1 (by first | assumption | (apply Ne.symm; assumption) | omega) (by assumption) | exact lk1 (by first | assumption | (apply Ne.symm; assumption) | omega) (va_up_self _ _ _) | exact lk1 (by first | assumption | (apply Ne.symm; assumption) | omega) (lk1 (by first | assumption | (apply Ne.symm; assumption) | omega) (by assumption)) | exact lk1 (by first | assumption | (apply Ne.symm; assumption) | omega) (lk1 (by first | assumption | (apply Ne.symm; assumption) | omega) (va_up_self _ _ _)) | exact lk1 (by first | assumption | (apply Ne.symm; assumption) | omega) (lk1 (by first | assumption | (apply Ne.symm; assumption) | omega) (lk1 (by first | assumption | (apply Ne.symm; assumption) | omega) (by assumption))) | exact lk1 (by first | assumption | (apply Ne.symm; assumption) | omega) (lk1 (by first | assumption | (apply Ne.symm; assumption) | omega) (lk1 (by first | assumption | (apply Ne.symm; assumption) | omega) (va_up_self _ _ _))) | exact lk1 (by first | assumption | (apply Ne.symm; assumption) | omega) (lk1 (by first | assumption | (apply Ne.symm; assumption) | omega) (lk1 (by first | assumption | (apply Ne.symm; assumption) | omega) (lk1 (by first | assumption | (apply Ne.symm; assumption) | omega) (by assumption)))) | exact lk1 (by first | assumption | (apply Ne.symm; assumption) | omega) (lk1 (by first | assumption | (apply Ne.symm; assumption) | omega) (lk1 (by first | assumption | (apply Ne.symm; assumption) | omega) (lk1 (by first | assumption | (apply Ne.symm; assumption) | omega) (va_up_self _ _ _))))) (by rfl) ?_
  refine pw_aload_n (pc := 16) dX3_insert_16 rfl ?_
  refine pw_get (pc := 17) fg_X3_21 dX3_insert_17 (by first | assumption | exact va_up_self _ _ _ | exact lk1 (by first | assumption | (apply Ne.symm; assumption) | omega) (by assumption) | exact lk1 (by first | assumption | (apply Ne.symm; assumption) | omega) (va_up_self _ _ _) | exact lk1 (by first | assumption | (apply Ne.symm; assumption) | omega) (lk1 (by first | assumption | (apply Ne.symm; assumption) | omega) (by assumption)) | exact lk1 (by first | assumption | (apply Ne.symm; assumption) | omega) (lk1 (by first | assumption | (apply Ne.symm; assumption) | omega) (va_up_self _ _ _)) | exact lk1 (by first | assumption | (apply Ne.symm; assumption) | omega) (lk1 (by first | assumption | (apply Ne.symm; assumption) | omega) (lk1 (by first | assumption | (apply Ne.symm; assumption) | omega) (by assumption))) | exact lk1 (by first | assumption | (apply Ne.symm; assumption) | omega) (lk1 (by first | assumption | (apply Ne.symm; assumption) | omega) (lk1 (by first | assumption | (apply Ne.symm; assumption) | omega) (va_up_self _ _ _))) | exact lk1 (by first | assumption | (apply Ne.symm; assumption) | omega) (lk1 (by first | assumption | (apply Ne.symm; assumption) | omega) (lk1 (by first | assumption | (apply Ne.symm; assumption) | omega) (lk1 (by first | assumption | (apply Ne.symm; assumption) | omega) (by assumption)))) | exact lk1 (by first | assumption | (apply Ne.symm; assumption) | omega) (lk1 (by first | assumption | (apply Ne.symm; assumption) | omega) (lk1 (by first | assumption | (apply Ne.symm; assumption) | omega) (lk1 (by first | assumption | (apply Ne.symm; assumption) | omega) (va_up_self _ _ _))))) (by rfl) ?_
  refine pw_alen (pc := 20) _ dX3_insert_20 (by first | assumption | exact va_up_self _ _ _ | exact lk1 (by first | assumption | (apply Ne.symm; assumption) | omega) (by assumption) | exact lk1 (by first | assumption | (apply Ne.symm; assumption) | omega) (va_up_self _ _ _) | exact lk1 (by first | assumption | (apply Ne.symm; assumption) | omega) (lk1 (by first | assumption | (apply Ne.symm; assumption) | omega) (by assumption)) | exact lk1 (by first | assumption | (apply Ne.symm; assumption) | omega) (lk1 (by first | assumption | (apply Ne.symm; assumption) | omega) (va_up_self _ _ _)) | exact lk1 (by first | assumption | (apply Ne.symm; assumption) | omega) (lk1 (by first | assumption | (apply Ne.symm; assumption) | omega) (lk1 (by first | assumption | (apply Ne.symm; assumption) | omega) (by assumption))) | exact lk1 (by first | assumption | (apply Ne.symm; assumption) | omega) (lk1 (by first | assumption | (apply Ne.symm; assumption) | omega) (lk1 (by first | assumption | (apply Ne.symm; assumption) | omega) (va_up_self _ _ _))) | exact lk1 (by first | assumption | (apply Ne.symm; assumption) | omega) (lk1 (by first | assumption | (apply Ne.symm; assumption) | omega) (lk1 (by first | assumption | (apply Ne.symm; assumption) | omega) (lk1 (by first | assumption | (apply Ne.symm; assumption) | omega) (by assumption)))) | exact lk1 (by first | assumption | (apply Ne.symm; assumption) | omega) (lk1 (by first | assumption | (apply Ne.symm; assumption) | omega) (lk1 (by first | assumption | (apply Ne.symm; assumption) | omega) (lk1 (by first | assumption | (apply Ne.symm; assumption) | omega) (va_up_self _ _ _))))) (by decide) rfl ?_
  refine pw_icmp_lt_n (pc := 21) (a := sz) (b := cap) 25 dX3_insert_21 (by decide) (by omega) (by omega) (fun c2 => ?_) (fun c2 => ?_)
  · refine pw_aload_n (pc := 25) dX3_insert_25 rfl ?_
    refine pw_get (pc := 26) fg_X3_21 dX3_insert_26 (by first | assumption | exact va_up_self _ _ _ | exact lk1 (by first | assumption | (apply Ne.symm; assumption) | omega) (by assumption) | exact lk1 (by first | assumption | (apply Ne.symm; assumption) | omega) (va_up_self _ _ _) | exact lk1 (by first | assumption | (apply Ne.symm; assumption) | omega) (lk1 (by first | assumption | (apply Ne.symm; assumption) | omega) (by assumption)) | exact lk1 (by first | assumption | (apply Ne.symm; assumption) | omega) (lk1 (by first | assumption | (apply Ne.symm; assumption) | omega) (va_up_self _ _ _)) | exact lk1 (by first | assumption | (apply Ne.symm; assumption) | omega) (lk1 (by first | assumption | (apply Ne.symm; assumption) | omega) (lk1 (by first | assumption | (apply Ne.symm; assumption) | omega) (by assumption))) | exact lk1 (by first | assumption | (apply Ne.symm; assumption) | omega) (lk1 (by first | assumption | (apply Ne.symm; assumption) | omega) (lk1 (by first | assumption | (apply Ne.symm; assumption) | omega) (va_up_self _ _ _))) | exact lk1 (by first | assumption | (apply Ne.symm; assumption) | omega) (lk1 (by first | assumption | (apply Ne.symm; assumption) | omega) (lk1 (by first | assumption | (apply Ne.symm; assumption) | omega) (lk1 (by first | assumption | (apply Ne.symm; assumption) | omega) (by assumption)))) | exact lk1 (by first | assumption | (apply Ne.symm; assumption) | omega) (lk1 (by first | assumption | (apply Ne.symm; assumption) | omega) (lk1 (by first | assumption | (apply Ne.symm; assumption) | omega) (lk1 (by first | assumption | (apply Ne.symm; assumption) | omega) (va_up_self _ _ _))))) (by rfl) ?_
    refine pw_iload_n (pc := 29) dX3_insert_29 rfl ?_
    refine pw_aload_n (pc := 30) dX3_insert_30 rfl ?_
    refine pw_get (pc := 31) fg_X3_21 dX3_insert_31 (by first | assumption | exact va_up_self _ _ _ | exact lk1 (by first | assumption | (apply Ne.symm; assumption) | omega) (by assumption) | exact lk1 (by first | assumption | (apply Ne.symm; assumption) | omega) (va_up_self _ _ _) | exact lk1 (by first | assumption | (apply Ne.symm; assumption) | omega) (lk1 (by first | assumption | (apply Ne.symm; assumption) | omega) (by assumption)) | exact lk1 (by first | assumption | (apply Ne.symm; assumption) | omega) (lk1 (by first | assumption | (apply Ne.symm; assumption) | omega) (va_up_self _ _ _)) | exact lk1 (by first | assumption | (apply Ne.symm; assumption) | omega) (lk1 (by first | assumption | (apply Ne.symm; assumption) | omega) (lk1 (by first | assumption | (apply Ne.symm; assumption) | omega) (by assumption))) | exact lk1 (by first | assumption | (apply Ne.symm; assumption) | omega) (lk1 (by first | assumption | (apply Ne.symm; assumption) | omega) (lk1 (by first | assumption | (apply Ne.symm; assumption) | omega) (va_up_self _ _ _))) | exact lk1 (by first | assumption | (apply Ne.symm; assumption) | omega) (lk1 (by first | assumption | (apply Ne.symm; assumption) | omega) (lk1 (by first | assumption | (apply Ne.symm; assumption) | omega) (lk1 (by first | assumption | (apply Ne.symm; assumption) | omega) (by assumption)))) | exact lk1 (by first | assumption | (apply Ne.symm; assumption) | omega) (lk1 (by first | assumption | (apply Ne.symm; assumption) | omega) (lk1 (by first | assumption | (apply Ne.symm; assumption) | omega) (lk1 (by first | assumption | (apply Ne.symm; assumption) | omega) (va_up_self _ _ _))))) (by rfl) ?_
    refine pw_iload_n (pc := 34) dX3_insert_34 rfl ?_
    refine pw_iconst (pc := 35) (nI 1) dX3_insert_35 (by decide) ?_
    refine pw_iadd (pc := 36) dX3_insert_36 ?_
    refine pw_aload_n (pc := 37) dX3_insert_37 rfl ?_
    refine pw_get (pc := 38) fg_X3_9 dX3_insert_38 (by first | assumption | exact va_up_self _ _ _ | exact lk1 (by first | assumption | (apply Ne.symm; assumption) | omega) (by assumption) | exact lk1 (by first | assumption | (apply Ne.symm; assumption) | omega) (va_up_self _ _ _) | exact lk1 (by first | assumption | (apply Ne.symm; assumption) | omega) (lk1 (by first | assumption | (apply Ne.symm; assumption) | omega) (by assumption)) | exact lk1 (by first | assumption | (apply Ne.symm; assumption) | omega) (lk1 (by first | assumption | (apply Ne.symm; assumption) | omega) (va_up_self _ _ _)) | exact lk1 (by first | assumption | (apply Ne.symm; assumption) | omega) (lk1 (by first | assumption | (apply Ne.symm; assumption) | omega) (lk1 (by first | assumption | (apply Ne.symm; assumption) | omega) (by assumption))) | exact lk1 (by first | assumption | (apply Ne.symm; assumption) | omega) (lk1 (by first | assumption | (apply Ne.symm; assumption) | omega) (lk1 (by first | assumption | (apply Ne.symm; assumption) | omega) (va_up_self _ _ _))) | exact lk1 (by first | assumption | (apply Ne.symm; assumption) | omega) (lk1 (by first | assumption | (apply Ne.symm; assumption) | omega) (lk1 (by first | assumption | (apply Ne.symm; assumption) | omega) (lk1 (by first | assumption | (apply Ne.symm; assumption) | omega) (by assumption)))) | exact lk1 (by first | assumption | (apply Ne.symm; assumption) | omega) (lk1 (by first | assumption | (apply Ne.symm; assumption) | omega) (lk1 (by first | assumption | (apply Ne.symm; assumption) | omega) (lk1 (by first | assumption | (apply Ne.symm; assumption) | omega) (va_up_self _ _ _))))) (by rfl) ?_
    refine pw_iload_n (pc := 41) dX3_insert_41 rfl ?_
    refine pw_isub (pc := 42) dX3_insert_42 ?_
    refine pw_copy (pc := 43) (p) (p + 1) (sz - p) lk_X3_46 dX3_insert_43 (by first | assumption | exact va_up_self _ _ _ | exact lk1 (by first | assumption | (apply Ne.symm; assumption) | omega) (by assumption) | exact lk1 (by first | assumption | (apply Ne.symm; assumption) | omega) (va_up_self _ _ _) | exact lk1 (by first | assumption | (apply Ne.symm; assumption) | omega) (lk1 (by first | assumption | (apply Ne.symm; assumption) | omega) (by assumption)) | exact lk1 (by first | assumption | (apply Ne.symm; assumption) | omega) (lk1 (by first | assumption | (apply Ne.symm; assumption) | omega) (va_up_self _ _ _)) | exact lk1 (by first | assumption | (apply Ne.symm; assumption) | omega) (lk1 (by first | assumption | (apply Ne.symm; assumption) | omega) (lk1 (by first | assumption | (apply Ne.symm; assumption) | omega) (by assumption))) | exact lk1 (by first | assumption | (apply Ne.symm; assumption) | omega) (lk1 (by first | assumption | (apply Ne.symm; assumption) | omega) (lk1 (by first | assumption | (apply Ne.symm; assumption) | omega) (va_up_self _ _ _))) | exact lk1 (by first | assumption | (apply Ne.symm; assumption) | omega) (lk1 (by first | assumption | (apply Ne.symm; assumption) | omega) (lk1 (by first | assumption | (apply Ne.symm; assumption) | omega) (lk1 (by first | assumption | (apply Ne.symm; assumption) | omega) (by assumption)))) | exact lk1 (by first | assumption | (apply Ne.symm; assumption) | omega) (lk1 (by first | assumption | (apply Ne.symm; assumption) | omega) (lk1 (by first | assumption | (apply Ne.symm; assumption) | omega) (lk1 (by first | assumption | (apply Ne.symm; assumption) | omega) (va_up_self _ _ _))))) (by first | assumption | exact va_up_self _ _ _ | exact lk1 (by first | assumption | (apply Ne.symm; assumption) | omega) (by assumption) | exact lk1 (by first | assumption | (apply Ne.symm; assumption) | omega) (va_up_self _ _ _) | exact lk1 (by first | assumption | (apply Ne.symm; assumption) | omega) (lk1 (by first | assumption | (apply Ne.symm; assumption) | omega) (by assumption)) | exact lk1 (by first | assumption | (apply Ne.symm; assumption) | omega) (lk1 (by first | assumption | (apply Ne.symm; assumption) | omega) (va_up_self _ _ _)) | exact lk1 (by first | assumption | (apply Ne.symm; assumption) | omega) (lk1 (by first | assumption | (apply Ne.symm; assumption) | omega) (lk1 (by first | assumption | (apply Ne.symm; assumption) | omega) (by assumption))) | exact lk1 (by first | assumption | (apply Ne.symm; assumption) | omega) (lk1 (by first | assumption | (apply Ne.symm; assumption) | omega) (lk1 (by first | assumption | (apply Ne.symm; assumption) | omega) (va_up_self _ _ _))) | exact lk1 (by first | assumption | (apply Ne.symm; assumption) | omega) (lk1 (by first | assumption | (apply Ne.symm; assumption) | omega) (lk1 (by first | assumption | (apply Ne.symm; assumption) | omega) (lk1 (by first | assumption | (apply Ne.symm; assumption) | omega) (by assumption)))) | exact lk1 (by first | assumption | (apply Ne.symm; assumption) | omega) (lk1 (by first | assumption | (apply Ne.symm; assumption) | omega) (lk1 (by first | assumption | (apply Ne.symm; assumption) | omega) (lk1 (by first | assumption | (apply Ne.symm; assumption) | omega) (va_up_self _ _ _))))) (by first | rfl | (simp only [nI_add, pk_mul, Nat.one_mul, Nat.mul_one, Nat.zero_add, Nat.add_zero, Nat.mul_zero]; done) | exact pk_sub (by omega) | (rw [pk_sub (by omega)]; first | done | (rw [nI_add]; done) | (rw [pk_sub (by omega)]; done) | (rw [pk_sub (by omega), nI_add]; done)) | (simp only [nI_add, pk_mul]; first | exact pk_sub (by omega) | (congr 1; omega)) | (congr 1; omega)) (by first | rfl | (simp only [nI_add, pk_mul, Nat.one_mul, Nat.mul_one, Nat.zero_add, Nat.add_zero, Nat.mul_zero]; done) | exact pk_sub (by omega) | (rw [pk_sub (by omega)]; first | done | (rw [nI_add]; done) | (rw [pk_sub (by omega)]; done) | (rw [pk_sub (by omega), nI_add]; done)) | (simp only [nI_add, pk_mul]; first | exact pk_sub (by omega) | (congr 1; omega)) | (congr 1; omega)) (by first | rfl | (simp only [nI_add, pk_mul, Nat.one_mul, Nat.mul_one, Nat.zero_add, Nat.add_zero, Nat.mul_zero]; done) | exact pk_sub (by omega) | (rw [pk_sub (by omega)]; first | done | (rw [nI_add]; done) | (rw [pk_sub (by omega)]; done) | (rw [pk_sub (by omega), nI_add]; done)) | (simp only [nI_add, pk_mul]; first | exact pk_sub (by omega) | (congr 1; omega)) | (congr 1; omega)) (by omega) (by omega) (by omega) (by omega) (Nat.le_of_ble_eq_true rfl) (Nat.le_of_ble_eq_true rfl) ?_
    refine pw_aload_n (pc := 46) dX3_insert_46 rfl ?_
    refine pw_get (pc := 47) fg_X3_21 dX3_insert_47 (by first | assumption | exact va_up_self _ _ _ | exact lk1 (by first | assumption | (apply Ne.symm; assumption) | omega) (by assumption) | exact lk1 (by first | assumption | (apply Ne.symm; assumption) | omega) (va_up_self _ _ _) | exact lk1 (by first | assumption | (apply Ne.symm; assumption) | omega) (lk1 (by first | assumption | (apply Ne.symm; assumption) | omega) (by assumption)) | exact lk1 (by first | assumption | (apply Ne.symm; assumption) | omega) (lk1 (by first | assumption | (apply Ne.symm; assumption) | omega) (va_up_self _ _ _)) | exact lk1 (by first | assumption | (apply Ne.symm; assumption) | omega) (lk1 (by first | assumption | (apply Ne.symm; assumption) | omega) (lk1 (by first | assumption | (apply Ne.symm; assumption) | omega) (by assumption))) | exact lk1 (by first | assumption | (apply Ne.symm; assumption) | omega) (lk1 (by first | assumption | (apply Ne.symm; assumption) | omega) (lk1 (by first | assumption | (apply Ne.symm; assumption) | omega) (va_up_self _ _ _))) | exact lk1 (by first | assumption | (apply Ne.symm; assumption) | omega) (lk1 (by first | assumption | (apply Ne.symm; assumption) | omega) (lk1 (by first | assumption | (apply Ne.symm; assumption) | omega) (lk1 (by first | assumption | (apply Ne.symm; assumption) | omega) (by assumption)))) | exact lk1 (by first | assumption | (apply Ne.symm; assumption) | omega) (lk1 (by first | assumption | (apply Ne.symm; assumption) | omega) (lk1 (by first | assumption | (apply Ne.symm; assumption) | omega) (lk1 (by first | assumption | (apply Ne.symm; assumption) | omega) (va_up_self _ _ _))))) (by rfl) ?_
    refine pw_iload_n (pc := 50) dX3_insert_50 rfl ?_
    refine pw_iload_n (pc := 51) dX3_insert_51 rfl ?_
    refine pw_iast (pc := 52) (p) dX3_insert_52 (by first | assumption | exact va_up_self _ _ _ | exact lk1 (by first | assumption | (apply Ne.symm; assumption) | omega) (by assumption) | exact lk1 (by first | assumption | (apply Ne.symm; assumption) | omega) (va_up_self _ _ _) | exact lk1 (by first | assumption | (apply Ne.symm; assumption) | omega) (lk1 (by first | assumption | (apply Ne.symm; assumption) | omega) (by assumption)) | exact lk1 (by first | assumption | (apply Ne.symm; assumption) | omega) (lk1 (by first | assumption | (apply Ne.symm; assumption) | omega) (va_up_self _ _ _)) | exact lk1 (by first | assumption | (apply Ne.symm; assumption) | omega) (lk1 (by first | assumption | (apply Ne.symm; assumption) | omega) (lk1 (by first | assumption | (apply Ne.symm; assumption) | omega) (by assumption))) | exact lk1 (by first | assumption | (apply Ne.symm; assumption) | omega) (lk1 (by first | assumption | (apply Ne.symm; assumption) | omega) (lk1 (by first | assumption | (apply Ne.symm; assumption) | omega) (va_up_self _ _ _))) | exact lk1 (by first | assumption | (apply Ne.symm; assumption) | omega) (lk1 (by first | assumption | (apply Ne.symm; assumption) | omega) (lk1 (by first | assumption | (apply Ne.symm; assumption) | omega) (lk1 (by first | assumption | (apply Ne.symm; assumption) | omega) (by assumption)))) | exact lk1 (by first | assumption | (apply Ne.symm; assumption) | omega) (lk1 (by first | assumption | (apply Ne.symm; assumption) | omega) (lk1 (by first | assumption | (apply Ne.symm; assumption) | omega) (lk1 (by first | assumption | (apply Ne.symm; assumption) | omega) (va_up_self _ _ _))))) (by first | rfl | (simp only [nI_add, pk_mul, Nat.one_mul, Nat.mul_one, Nat.zero_add, Nat.add_zero, Nat.mul_zero]; done) | exact pk_sub (by omega) | (rw [pk_sub (by omega)]; first | done | (rw [nI_add]; done) | (rw [pk_sub (by omega)]; done) | (rw [pk_sub (by omega), nI_add]; done)) | (simp only [nI_add, pk_mul]; first | exact pk_sub (by omega) | (congr 1; omega)) | (congr 1; omega)) (by omega) (by omega) ?_
    refine pw_aload_n (pc := 53) dX3_insert_53 rfl ?_
    refine pw_dup (pc := 54) dX3_insert_54 rfl ?_
    refine pw_get (pc := 55) fg_X3_9 dX3_insert_55 (by first | assumption | exact va_up_self _ _ _ | exact lk1 (by first | assumption | (apply Ne.symm; assumption) | omega) (by assumption) | exact lk1 (by first | assumption | (apply Ne.symm; assumption) | omega) (va_up_self _ _ _) | exact lk1 (by first | assumption | (apply Ne.symm; assumption) | omega) (lk1 (by first | assumption | (apply Ne.symm; assumption) | omega) (by assumption)) | exact lk1 (by first | assumption | (apply Ne.symm; assumption) | omega) (lk1 (by first | assumption | (apply Ne.symm; assumption) | omega) (va_up_self _ _ _)) | exact lk1 (by first | assumption | (apply Ne.symm; assumption) | omega) (lk1 (by first | assumption | (apply Ne.symm; assumption) | omega) (lk1 (by first | assumption | (apply Ne.symm; assumption) | omega) (by assumption))) | exact lk1 (by first | assumption | (apply Ne.symm; assumption) | omega) (lk1 (by first | assumption | (apply Ne.symm; assumption) | omega) (lk1 (by first | assumption | (apply Ne.symm; assumption) | omega) (va_up_self _ _ _))) | exact lk1 (by first | assumption | (apply Ne.symm; assumption) | omega) (lk1 (by first | assumption | (apply Ne.symm; assumption) | omega) (lk1 (by first | assumption | (apply Ne.symm; assumption) | omega) (lk1 (by first | assumption | (apply Ne.symm; assumption) | omega) (by assumption)))) | exact lk1 (by first | assumption | (apply Ne.symm; assumption) | omega) (lk1 (by first | assumption | (apply Ne.symm; assumption) | omega) (lk1 (by first | assumption | (apply Ne.symm; assumption) | omega) (lk1 (by first | assumption | (apply Ne.symm; assumption) | omega) (va_up_self _ _ _))))) (by rfl) ?_
    refine pw_iconst (pc := 58) (nI 1) dX3_insert_58 (by decide) ?_
    refine pw_iadd (pc := 59) dX3_insert_59 ?_
    refine pw_put1 (pc := 60) fp_X3_9 dX3_insert_60 (by first | assumption | exact va_up_self _ _ _ | exact lk1 (by first | assumption | (apply Ne.symm; assumption) | omega) (by assumption) | exact lk1 (by first | assumption | (apply Ne.symm; assumption) | omega) (va_up_self _ _ _) | exact lk1 (by first | assumption | (apply Ne.symm; assumption) | omega) (lk1 (by first | assumption | (apply Ne.symm; assumption) | omega) (by assumption)) | exact lk1 (by first | assumption | (apply Ne.symm; assumption) | omega) (lk1 (by first | assumption | (apply Ne.symm; assumption) | omega) (va_up_self _ _ _)) | exact lk1 (by first | assumption | (apply Ne.symm; assumption) | omega) (lk1 (by first | assumption | (apply Ne.symm; assumption) | omega) (lk1 (by first | assumption | (apply Ne.symm; assumption) | omega) (by assumption))) | exact lk1 (by first | assumption | (apply Ne.symm; assumption) | omega) (lk1 (by first | assumption | (apply Ne.symm; assumption) | omega) (lk1 (by first | assumption | (apply Ne.symm; assumption) | omega) (va_up_self _ _ _))) | exact lk1 (by first | assumption | (apply Ne.symm; assumption) | omega) (lk1 (by first | assumption | (apply Ne.symm; assumption) | omega) (lk1 (by first | assumption | (apply Ne.symm; assumption) | omega) (lk1 (by first | assumption | (apply Ne.symm; assumption) | omega) (by assumption)))) | exact lk1 (by first | assumption | (apply Ne.symm; assumption) | omega) (lk1 (by first | assumption | (apply Ne.symm; assumption) | omega) (lk1 (by first | assumption | (apply Ne.symm; assumption) | omega) (lk1 (by first | assumption | (apply Ne.symm; assumption) | omega) (va_up_self _ _ _))))) rfl rfl ?_
    refine pw_vret dX3_insert_63 rfl ⟨rfl, ⟨upd (va_cpy f f p (p + 1) (sz - p)) p x, ⟨?_, by simp [va_up, hne.symm], by omega, h4⟩, fun k hk => ?_⟩, ?_⟩
    · simp [va_up, nI_add]
    · by_cases hk1 : k < p
      · rw [pk_un (by omega), pk_cpy_out (by omega), insF, if_pos hk1]
      · by_cases hk2 : k = p
        · subst hk2; rw [pk_us, insF, if_neg (by omega), if_pos rfl]
        · rw [pk_un hk2, pk_cpy_in (by omega) (by omega), insF, if_neg hk1, if_neg hk2]; congr 1; omega
    · intro q hq
      simp at hq
      simp [va_up, hq]
  · omega
theorem c_Row_remove {E : EV} {h : HP} {a b cap sz n : Nat} {f : Nat → Int32} (hr : rowAt h a b cap f sz) (p : Nat) (hp : p < sz) : PM E mX3_remove [.ref a, .int (nI p)] h n n 0 (fun v h' => v = none ∧ (∃ g', rowAt h' a b cap g' (sz - 1) ∧ ∀ k, k < sz - 1 → g' k = remF f p k) ∧ frm h h' [a, b]) := by
  have hne := hr.ne
  obtain ⟨h1, h2, h3, h4⟩ := id hr
  refine PM.of [.ref a, .int (nI p)] rfl (Nat.le_of_ble_eq_true rfl) rfl ?_
  refine pw_aload_n (pc := 0) dX3_remove_0 rfl ?_
  refine pw_iload_n (pc := 1) dX3_remove_1 rfl ?_
  refine pw_callV_i (pc := 2) cv_X3_25 dX3_remove_2 (by first | assumption | exact va_up_self _ _ _ | exact lk1 (by first | assumption | (apply Ne.symm; assumption) | omega) (by assumption) | exact lk1 (by first | assumption | (apply Ne.symm; assumption) | omega) (va_up_self _ _ _) | exact lk1 (by first | assumption | (apply Ne.symm; assumption) | omega) (lk1 (by first | assumption | (apply Ne.symm; assumption) | omega) (by assumption)) | exact lk1 (by first | assumption | (apply Ne.symm; assumption) | omega) (lk1 (by first | assumption | (apply Ne.symm; assumption) | omega) (va_up_self _ _ _)) | exact lk1 (by first | assumption | (apply Ne.symm; assumption) | omega) (lk1 (by first | assumption | (apply Ne.symm; assumption) | omega) (lk1 (by first | assumption | (apply Ne.symm; assumption) | omega) (by assumption))) | exact lk1 (by first | assumption | (apply Ne.symm; assumption) | omega) (lk1 (by first | assumption | (apply Ne.symm; assumption) | omega) (lk1 (by first | assumption | (apply Ne.symm; assumption) | omega) (va_up_self _ _ _))) | exact lk1 (by first | assumption | (apply Ne.symm; assumption) | omega) (lk1 (by first | assumption | (apply Ne.symm; assumption) | omega) (lk1 (by first | assumption | (apply Ne.symm; assumption) | omega) (lk1 (by first | assumption | (apply Ne.symm; assumption) | omega) (by assumption)))) | exact lk1 (by first | assumption | (apply Ne.symm; assumption) | omega) (lk1 (by first | assumption | (apply Ne.symm; assumption) | omega) (lk1 (by first | assumption | (apply Ne.symm; assumption) | omega) (lk1 (by first | assumption | (apply Ne.symm; assumption) | omega) (va_up_self _ _ _))))) rfl (c_Row_has hr _) rfl rfl (Nat.le_of_ble_eq_true rfl) ⟨(Nat.le_of_ble_eq_true rfl), (Nat.le_of_ble_eq_true rfl)⟩ ?_
  refine pw_if_ne_b (pc := 5) 9 dX3_remove_5 (by decide) (fun c => ?_) (fun c => ?_)
  · refine pw_aload_n (pc := 9) dX3_remove_9 rfl ?_
    refine pw_dup (pc := 10) dX3_remove_10 rfl ?_
    refine pw_get (pc := 11) fg_X3_9 dX3_remove_11 (by first | assumption | exact va_up_self _ _ _ | exact lk1 (by first | assumption | (apply Ne.symm; assumption) | omega) (by assumption) | exact lk1 (by first | assumption | (apply Ne.symm; assumption) | omega) (va_up_self _ _ _) | exact lk1 (by first | assumption | (apply Ne.symm; assumption) | omega) (lk1 (by first | assumption | (apply Ne.symm; assumption) | omega) (by assumption)) | exact lk1 (by first | assumption | (apply Ne.symm; assumption) | omega) (lk1 (by first | assumption | (apply Ne.symm; assumption) | omega) (va_up_self _ _ _)) | exact lk1 (by first | assumption | (apply Ne.symm; assumption) | omega) (lk1 (by first | assumption | (apply Ne.symm; assumption) | omega) (lk1 (by first | assumption | (apply Ne.symm; assumption) | omega) (by assumption))) | exact lk1 (by first | assumption | (apply Ne.symm; assumption) | omega) (lk1 (by first | assumption | (apply Ne.symm; assumption) | omega) (lk1 (by first | assumption | (apply Ne.symm; assumption) | omega) (va_up_self _ _ _))) | exact lk1 (by first | assumption | (apply Ne.symm; assumption) | omega) (lk1 (by first | assumption | (apply Ne.symm; assumption) | omega) (lk1 (by first | assumption | (apply Ne.symm; assumption) | omega) (lk1 (by first | assumption | (apply Ne.symm; assumption) | omega) (by assumption)))) | exact lk1 (by first | assumption | (apply Ne.symm; assumption) | omega) (lk1 (by first | assumption | (apply Ne.symm; assumption) | omega) (lk1 (by first | assumption | (apply Ne.symm; assumption) | omega) (lk1 (by first | assumption | (apply Ne.symm; assumption) | omega) (va_up_self _ _ _))))) (by rfl) ?_
    refine pw_iconst (pc := 14) (nI 1) dX3_remove_14 (by decide) ?_
    refine pw_isub (pc := 15) dX3_remove_15 ?_
    refine pw_put1 (pc := 16) fp_X3_9 dX3_remove_16 (by first | assumption | exact va_up_self _ _ _ | exact lk1 (by first | assumption | (apply Ne.symm; assumption) | omega) (by assumption) | exact lk1 (by first | assumption | (apply Ne.symm; assumption) | omega) (va_up_self _ _ _) | exact lk1 (by first | assumption | (apply Ne.symm; assumption) | omega) (lk1 (by first | assumption | (apply Ne.symm; assumption) | omega) (by assumption)) | exact lk1 (by first | assumption | (apply Ne.symm; assumption) | omega) (lk1 (by first | assumption | (apply Ne.symm; assumption) | omega) (va_up_self _ _ _)) | exact lk1 (by first | assumption | (apply Ne.symm; assumption) | omega) (lk1 (by first | assumption | (apply Ne.symm; assumption) | omega) (lk1 (by first | assumption | (apply Ne.symm; assumption) | omega) (by assumption))) | exact lk1 (by first | assumption | (apply Ne.symm; assumption) | omega) (lk1 (by first | assumption | (apply Ne.symm; assumption) | omega) (lk1 (by first | assumption | (apply Ne.symm; assumption) | omega) (va_up_self _ _ _))) | exact lk1 (by first | assumption | (apply Ne.symm; assumption) | omega) (lk1 (by first | assumption | (apply Ne.symm; assumption) | omega) (lk1 (by first | assumption | (apply Ne.symm; assumption) | omega) (lk1 (by first | assumption | (apply Ne.symm; assumption) | omega) (by assumption)))) | exact lk1 (by first | assumption | (apply Ne.symm; assumption) | omega) (lk1 (by first | assumption | (apply Ne.symm; assumption) | omega) (lk1 (by first | assumption | (apply Ne.symm; assumption) | omega) (lk1 (by first | assumption | (apply Ne.symm; assumption) | omega) (va_up_self _ _ _))))) rfl rfl ?_
    refine pw_aload_n (pc := 19) dX3_remove_19 rfl ?_
    refine pw_get (pc := 20) fg_X3_21 dX3_remove_20 (by first | assumption | exact va_up_self _ _ _ | exact lk1 (by first | assumption | (apply Ne.symm; assumption) | omega) (by assumption) | exact lk1 (by first | assumption | (apply Ne.symm; assumption) | omega) (va_up_self _ _ _) | exact lk1 (by first | assumption | (apply Ne.symm; assumption) | omega) (lk1 (by first | assumption | (apply Ne.symm; assumption) | omega) (by assumption)) | exact lk1 (by first | assumption | (apply Ne.symm; assumption) | omega) (lk1 (by first | assumption | (apply Ne.symm; assumption) | omega) (va_up_self _ _ _)) | exact lk1 (by first | assumption | (apply Ne.symm; assumption) | omega) (lk1 (by first | assumption | (apply Ne.symm; assumption) | omega) (lk1 (by first | assumption | (apply Ne.symm; assumption) | omega) (by assumption))) | exact lk1 (by first | assumption | (apply Ne.symm; assumption) | omega) (lk1 (by first | assumption | (apply Ne.symm; assumption) | omega) (lk1 (by first | assumption | (apply Ne.symm; assumption) | omega) (va_up_self _ _ _))) | exact lk1 (by first | assumption | (apply Ne.symm; assumption) | omega) (lk1 (by first | assumption | (apply Ne.symm; assumption) | omega) (lk1 (by first | assumption | (apply Ne.symm; assumption) | omega) (lk1 (by first | assumption | (apply Ne.symm; assumption) | omega) (by assumption)))) | exact lk1 (by first | assumption | (apply Ne.symm; assumption) | omega) (lk1 (by first | assumption | (apply Ne.symm; assumption) | omega) (lk1 (by first | assumption | (apply Ne.symm; assumption) | omega) (lk1 (by first | assumption | (apply Ne.symm; assumption) | omega) (va_up_self _ _ _))))) (by rfl) ?_
    refine pw_iload_n (pc := 23) dX3_remove_23 rfl ?_
    refine pw_iconst (pc := 24) (nI 1) dX3_remove_24 (by decide) ?_
    refine pw_iadd (pc := 25) dX3_remove_25 ?_
    refine pw_aload_n (pc := 26) dX3_remove_26 rfl ?_
    refine pw_get (pc := 27) fg_X3_21 dX3_remove_27 (by first | assumption | exact va_up_self _ _ _ | exact lk1 (by first | assumption | (apply Ne.symm; assumption) | omega) (by assumption) | exact lk1 (by first | assumption | (apply Ne.symm; assumption) | omega) (va_up_self _ _ _) | exact lk1 (by first | assumption | (apply Ne.symm; assumption) | omega) (lk1 (by first | assumption | (apply Ne.symm; assumption) | omega) (by assumption)) | exact lk1 (by first | assumption | (apply Ne.symm; assumption) | omega) (lk1 (by first | assumption | (apply Ne.symm; assumption) | omega) (va_up_self _ _ _)) | exact lk1 (by first | assumption | (apply Ne.symm; assumption) | omega) (lk1 (by first | assumption | (apply Ne.symm; assumption) | omega) (lk1 (by first | assumption | (apply Ne.symm; assumption) | omega) (by assumption))) | exact lk1 (by first | assumption | (apply Ne.symm; assumption) | omega) (lk1 (by first | assumption | (apply Ne.symm; assumption) | omega) (lk1 (by first | assumption | (apply Ne.symm; assumption) | omega) (va_up_self _ _ _))) | exact lk1 (by first | assumption | (apply Ne.symm; assumption) | omega) (lk1 (by first | assumption | (apply Ne.symm; assumption) | omega) (lk1 (by first | assumption | (apply Ne.symm; assumption) | omega) (lk1 (by first | assumption | (apply Ne.symm; assumption) | omega) (by assumption)))) | exact lk1 (by first | assumption | (apply Ne.symm; assumption) | omega) (lk1 (by first | assumption | (apply Ne.symm; assumption) | omega) (lk1 (by first | assumption | (apply Ne.symm; assumption) | omega) (lk1 (by first | assumption | (apply Ne.symm; assumption) | omega) (va_up_self _ _ _))))) (by rfl) ?_
    refine pw_iload_n (pc := 30) dX3_remove_30 rfl ?_
    refine pw_aload_n (pc := 31) dX3_remove_31 rfl ?_
    refine pw_get (pc := 32) fg_X3_9 dX3_remove_32 (by first | assumption | exact va_up_self _ _ _ | exact lk1 (by first | assumption | (apply Ne.symm; assumption) | omega) (by assumption) | exact lk1 (by first | assumption | (apply Ne.symm; assumption) | omega) (va_up_self _ _ _) | exact lk1 (by first | assumption | (apply Ne.symm; assumption) | omega) (lk1 (by first | assumption | (apply Ne.symm; assumption) | omega) (by assumption)) | exact lk1 (by first | assumption | (apply Ne.symm; assumption) | omega) (lk1 (by first | assumption | (apply Ne.symm; assumption) | omega) (va_up_self _ _ _)) | exact lk1 (by first | assumption | (apply Ne.symm; assumption) | omega) (lk1 (by first | assumption | (apply Ne.symm; assumption) | omega) (lk1 (by first | assumption | (apply Ne.symm; assumption) | omega) (by assumption))) | exact lk1 (by first | assumption | (apply Ne.symm; assumption) | omega) (lk1 (by first | assumption | (apply Ne.symm; assumption) | omega) (lk1 (by first | assumption | (apply Ne.symm; assumption) | omega) (va_up_self _ _ _))) | exact lk1 (by first | assumption | (apply Ne.symm; assumption) | omega) (lk1 (by first | assumption | (apply Ne.symm; assumption) | omega) (lk1 (by first | assumption | (apply Ne.symm; assumption) | omega) (lk1 (by first | assumption | (apply Ne.symm; assumption) | omega) (by assumption)))) | exact lk1 (by first | assumption | (apply Ne.symm; assumption) | omega) (lk1 (by first | assumption | (apply Ne.symm; assumption) | omega) (lk1 (by first | assumption | (apply Ne.symm; assumption) | omega) (lk1 (by first | assumption | (apply Ne.symm; assumption) | omega) (va_up_self _ _ _))))) (by rfl) ?_
    refine pw_iload_n (pc := 35) dX3_remove_35 rfl ?_
    refine pw_isub (pc := 36) dX3_remove_36 ?_
    refine pw_copy (pc := 37) (p + 1) (p) (sz - 1 - p) lk_X3_46 dX3_remove_37 (by first | assumption | exact va_up_self _ _ _ | exact lk1 (by first | assumption | (apply Ne.symm; assumption) | omega) (by assumption) | exact lk1 (by first | assumption | (apply Ne.symm; assumption) | omega) (va_up_self _ _ _) | exact lk1 (by first | assumption | (apply Ne.symm; assumption) | omega) (lk1 (by first | assumption | (apply Ne.symm; assumption) | omega) (by assumption)) | exact lk1 (by first | assumption | (apply Ne.symm; assumption) | omega) (lk1 (by first | assumption | (apply Ne.symm; assumption) | omega) (va_up_self _ _ _)) | exact lk1 (by first | assumption | (apply Ne.symm; assumption) | omega) (lk1 (by first | assumption | (apply Ne.symm; assumption) | omega) (lk1 (by first | assumption | (apply Ne.symm; assumption) | omega) (by assumption))) | exact lk1 (by first | assumption | (apply Ne.symm; assumption) | omega) (lk1 (by first | assumption | (apply Ne.symm; assumption) | omega) (lk1 (by first | assumption | (apply Ne.symm; assumption) | omega) (va_up_self _ _ _))) | exact lk1 (by first | assumption | (apply Ne.symm; assumption) | omega) (lk1 (by first | assumption | (apply Ne.symm; assumption) | omega) (lk1 (by first | assumption | (apply Ne.symm; assumption) | omega) (lk1 (by first | assumption | (apply Ne.symm; assumption) | omega) (by assumption)))) | exact lk1 (by first | assumption | (apply Ne.symm; assumption) | omega) (lk1 (by first | assumption | (apply Ne.symm; assumption) | omega) (lk1 (by first | assumption | (apply Ne.symm; assumption) | omega) (lk1 (by first | assumption | (apply Ne.symm; assumption) | omega) (va_up_self _ _ _))))) (by first | assumption | exact va_up_self _ _ _ | exact lk1 (by first | assumption | (apply Ne.symm; assumption) | omega) (by assumption) | exact lk1 (by first | assumption | (apply Ne.symm; assumption) | omega) (va_up_self _ _ _) | exact lk1 (by first | assumption | (apply Ne.symm; assumption) | omega) (lk1 (by first | assumption | (apply Ne.symm; assumption) | omega) (by assumption)) | exact lk1 (by first | assumption | (apply Ne.symm; assumption) | omega) (lk1 (by first | assumption | (apply Ne.symm; assumption) | omega) (va_up_self _ _ _)) | exact lk1 (by first | assumption | (apply Ne.symm; assumption) | omega) (lk1 (by first | assumption | (apply Ne.symm; assumption) | omega) (lk1 (by first | assumption | (apply Ne.symm; assumption) | omega) (by assumption))) | exact lk1 (by first | assumption | (apply Ne.symm; assumption) | omega) (lk1 (by first | assumption | (apply Ne.symm; assumption) | omega) (lk1 (by first | assumption | (apply Ne.symm; assumption) | omega) (va_up_self _ _ _))) | exact lk1 (by first | assumption | (apply Ne.symm; assumption) | omega) (lk1 (by first | assumption | (apply Ne.symm; assumption) | omega) (lk1 (by first | assumption | (apply Ne.symm; assumption) | omega) (lk1 (by first | assumption | (apply Ne.symm; assumption) | omega) (by assumption)))) | exact lk1 (by first | assumption | (apply Ne.symm; assumption) | omega) (lk1 (by first | assumption | (apply Ne.symm; assumption) | omega) (lk1 (by first | assumption | (apply Ne.symm; assumption) | omega) (lk1 (by first | assumption | (apply Ne.symm; assumption) | omega) (va_up_self _ _ _))))) (by first | rfl | (simp only [nI_add, pk_mul, Nat.one_mul, Nat.mul_one, Nat.zero_add, Nat.add_zero, Nat.mul_zero]; done) | exact pk_sub (by omega) | (rw [pk_sub (by omega)]; first | done | (rw [nI_add]; done) | (rw [pk_sub (by omega)]; done) | (rw [pk_sub (by omega), nI_add]; done)) | (simp only [nI_add, pk_mul]; first | exact pk_sub (by omega) | (congr 1; omega)) | (congr 1; omega)) (by first | rfl | (simp only [nI_add, pk_mul, Nat.one_mul, Nat.mul_one, Nat.zero_add, Nat.add_zero, Nat.mul_zero]; done) | exact pk_sub (by omega) | (rw [pk_sub (by omega)]; first | done | (rw [nI_add]; done) | (rw [pk_sub (by omega)]; done) | (rw [pk_sub (by omega), nI_add]; done)) | (simp only [nI_add, pk_mul]; first | exact pk_sub (by omega) | (congr 1; omega)) | (congr 1; omega)) (by first | rfl | (simp only [nI_add, pk_mul, Nat.one_mul, Nat.mul_one, Nat.zero_add, Nat.add_zero, Nat.mul_zero]; done) | exact pk_sub (by omega) | (rw [pk_sub (by omega)]; first | done | (rw [nI_add]; done) | (rw [pk_sub (by omega)]; done) | (rw [pk_sub (by omega), nI_add]; done)) | (simp only [nI_add, pk_mul]; first | exact pk_sub (by omega) | (congr 1; omega)) | (congr 1; omega)) (by omega) (by omega) (by omega) (by omega) (Nat.le_of_ble_eq_true rfl) (Nat.le_of_ble_eq_true rfl) ?_
    refine pw_vret dX3_remove_40 rfl ⟨rfl, ⟨va_cpy f f (p + 1) p (sz - 1 - p), ⟨?_, by simp [va_up], by omega, h4⟩, fun k hk => ?_⟩, ?_⟩
    · simp [va_up, hne]
      rw [pk_sub (by omega)]
    · by_cases hk1 : k < p
      · rw [pk_cpy_out (by omega), remF, if_pos hk1]
      · rw [pk_cpy_in (by omega) (by omega), remF, if_neg hk1]; congr 1; omega
    · intro q hq
      simp at hq
      simp [va_up, hq]
  · rw [nI_toInt (by omega)] at c
    simp at c
    omega
theorem c_Row_swap {E : EV} {h : HP} {a b cap sz n : Nat} {f : Nat → Int32} (hr : rowAt h a b cap f sz) (p : Nat) (hp : p < sz) (hp1 : 1 ≤ p) : PM E mX3_swapWithAhead [.ref a, .int (nI p)] h n n 0 (fun v h' => v = none ∧ (∃ g', rowAt h' a b cap g' sz ∧ ∀ k, k < sz → g' k = swpF f p k) ∧ frm h h' [a, b]) := by
  have hne := hr.ne
  obtain ⟨h1, h2, h3, h4⟩ := id hr
  refine PM.of [.ref a, .int (nI p), .null] rfl (Nat.le_of_ble_eq_true rfl) rfl ?_
  refine pw_iload_n (pc := 0) dX3_swapWithAhead_0 rfl ?_
  refine pw_iconst (pc := 1) (nI 1) dX3_swapWithAhead_1 (by decide) ?_
  refine pw_icmp_lt_n (pc := 2) 43 dX3_swapWithAhead_2 (by decide) (by omega) (by omega) (fun c => ?_) (fun c => ?_)
  · omega
  refine pw_iload_n (pc := 5) dX3_swapWithAhead_5 rfl ?_
  refine pw_aload_n (pc := 6) dX3_swapWithAhead_6 rfl ?_
  refine pw_get (pc := 7) fg_X3_9 dX3_swapWithAhead_7 (by first | assumption | exact va_up_self _ _ _ | exact lk1 (by first | assumption | (apply Ne.symm; assumption) | omega) (by assumption) | exact lk1 (by first | assumption | (apply Ne.symm; assumption) | omega) (va_up_self _ _ _) | exact lk1 (by first | assumption | (apply Ne.symm; assumption) | omega) (lk1 (by first | assumption | (apply Ne.symm; assumption) | omega) (by assumption)) | exact lk1 (by first | assumption | (apply Ne.symm; assumption) | omega) (lk1 (by first | assumption | (apply Ne.symm; assumption) | omega) (va_up_self _ _ _)) | exact lk1 (by first | assumption | (apply Ne.symm; assumption) | omega) (lk1 (by first | assumption | (apply Ne.symm; assumption) | omega) (lk1 (by first | assumption | (apply Ne.symm; assumption) | omega) (by assumption))) | exact lk1 (by first | assumption | (apply Ne.symm; assumption) | omega) (lk1 (by first | assumption | (apply Ne.symm; assumption) | omega) (lk1 (by first | assumption | (apply Ne.symm; assumption) | omega) (va_up_self _ _ _))) | exact lk1 (by first | assumption | (apply Ne.symm; assumption) | omega) (lk1 (by first | assumption | (apply Ne.symm; assumption) | omega) (lk1 (by first | assumption | (apply Ne.symm; assumption) | omega) (lk1 (by first | assumption | (apply Ne.symm; assumption) | omega) (by assumption)))) | exact lk1 (by first | assumption | (apply Ne.symm; assumption) | omega) (lk1 (by first | assumption | (apply Ne.symm; assumption) | omega) (lk1 (by first | assumption | (apply Ne.symm; assumption) | omega) (lk1 (by first | assumption | (apply Ne.symm; assumption) | omega) (va_up_self _ _ _))))) (by rfl) ?_
  refine pw_icmp_ge_n (pc := 10) 43 dX3_swapWithAhead_10 (by decide) (by omega) (by omega) (fun c => ?_) (fun c => ?_)
  · omega
  refine pw_aload_n (pc := 13) dX3_swapWithAhead_13 rfl ?_
  refine pw_get (pc := 14) fg_X3_21 dX3_swapWithAhead_14 (by first | assumption | exact va_up_self _ _ _ | exact lk1 (by first | assumption | (apply Ne.symm; assumption) | omega) (by assumption) | exact lk1 (by first | assumption | (apply Ne.symm; assumption) | omega) (va_up_self _ _ _) | exact lk1 (by first | assumption | (apply Ne.symm; assumption) | omega) (lk1 (by first | assumption | (apply Ne.symm; assumption) | omega) (by assumption)) | exact lk1 (by first | assumption | (apply Ne.symm; assumption) | omega) (lk1 (by first | assumption | (apply Ne.symm; assumption) | omega) (va_up_self _ _ _)) | exact lk1 (by first | assumption | (apply Ne.symm; assumption) | omega) (lk1 (by first | assumption | (apply Ne.symm; assumption) | omega) (lk1 (by first | assumption | (apply Ne.symm; assumption) | omega) (by assumption))) | exact lk1 (by first | assumption | (apply Ne.symm; assumption) | omega) (lk1 (by first | assumption | (apply Ne.symm; assumption) | omega) (lk1 (by first | assumption | (apply Ne.symm; assumption) | omega) (va_up_self _ _ _))) | exact lk1 (by first | assumption | (apply Ne.symm; assumption) | omega) (lk1 (by first | assumption | (apply Ne.symm; assumption) | omega) (lk1 (by first | assumption | (apply Ne.symm; assumption) | omega) (lk1 (by first | assumption | (apply Ne.symm; assumption) | omega) (by assumption)))) | exact lk1 (by first | assumption | (apply Ne.symm; assumption) | omega) (lk1 (by first | assumption | (apply Ne.symm; assumption) | omega) (lk1 (by first | assumption | (apply Ne.symm; assumption) | omega) (lk1 (by first | assumption | (apply Ne.symm; assumption) | omega) (va_up_self _ _ _))))) (by rfl) ?_
  refine pw_iload_n (pc := 17) dX3_swapWithAhead_17 rfl ?_
  refine pw_iald (pc := 18) (p) dX3_swapWithAhead_18 (by first | assumption | exact va_up_self _ _ _ | exact lk1 (by first | assumption | (apply Ne.symm; assumption) | omega) (by assumption) | exact lk1 (by first | assumption | (apply Ne.symm; assumption) | omega) (va_up_self _ _ _) | exact lk1 (by first | assumption | (apply Ne.symm; assumption) | omega) (lk1 (by first | assumption | (apply Ne.symm; assumption) | omega) (by assumption)) | exact lk1 (by first | assumption | (apply Ne.symm; assumption) | omega) (lk1 (by first | assumption | (apply Ne.symm; assumption) | omega) (va_up_self _ _ _)) | exact lk1 (by first | assumption | (apply Ne.symm; assumption) | omega) (lk1 (by first | assumption | (apply Ne.symm; assumption) | omega) (lk1 (by first | assumption | (apply Ne.symm; assumption) | omega) (by assumption))) | exact lk1 (by first | assumption | (apply Ne.symm; assumption) | omega) (lk1 (by first | assumption | (apply Ne.symm; assumption) | omega) (lk1 (by first | assumption | (apply Ne.symm; assumption) | omega) (va_up_self _ _ _))) | exact lk1 (by first | assumption | (apply Ne.symm; assumption) | omega) (lk1 (by first | assumption | (apply Ne.symm; assumption) | omega) (lk1 (by first | assumption | (apply Ne.symm; assumption) | omega) (lk1 (by first | assumption | (apply Ne.symm; assumption) | omega) (by assumption)))) | exact lk1 (by first | assumption | (apply Ne.symm; assumption) | omega) (lk1 (by first | assumption | (apply Ne.symm; assumption) | omega) (lk1 (by first | assumption | (apply Ne.symm; assumption) | omega) (lk1 (by first | assumption | (apply Ne.symm; assumption) | omega) (va_up_self _ _ _))))) (by first | rfl | (simp only [nI_add, pk_mul, Nat.one_mul, Nat.mul_one, Nat.zero_add, Nat.add_zero, Nat.mul_zero]; done) | exact pk_sub (by omega) | (rw [pk_sub (by omega)]; first | done | (rw [nI_add]; done) | (rw [pk_sub (by omega)]; done) | (rw [pk_sub (by omega), nI_add]; done)) | (simp only [nI_add, pk_mul]; first | exact pk_sub (by omega) | (congr 1; omega)) | (congr 1; omega)) (by omega) (by omega) ?_
  refine pw_ist2 (pc := 19) dX3_swapWithAhead_19 (Nat.le_of_ble_eq_true rfl) rfl ?_
  refine pw_aload_n (pc := 20) dX3_swapWithAhead_20 rfl ?_
  refine pw_get (pc := 21) fg_X3_21 dX3_swapWithAhead_21 (by first | assumption | exact va_up_self _ _ _ | exact lk1 (by first | assumption | (apply Ne.symm; assumption) | omega) (by assumption) | exact lk1 (by first | assumption | (apply Ne.symm; assumption) | omega) (va_up_self _ _ _) | exact lk1 (by first | assumption | (apply Ne.symm; assumption) | omega) (lk1 (by first | assumption | (apply Ne.symm; assumption) | omega) (by assumption)) | exact lk1 (by first | assumption | (apply Ne.symm; assumption) | omega) (lk1 (by first | assumption | (apply Ne.symm; assumption) | omega) (va_up_self _ _ _)) | exact lk1 (by first | assumption | (apply Ne.symm; assumption) | omega) (lk1 (by first | assumption | (apply Ne.symm; assumption) | omega) (lk1 (by first | assumption | (apply Ne.symm; assumption) | omega) (by assumption))) | exact lk1 (by first | assumption | (apply Ne.symm; assumption) | omega) (lk1 (by first | assumption | (apply Ne.symm; assumption) | omega) (lk1 (by first | assumption | (apply Ne.symm; assumption) | omega) (va_up_self _ _ _))) | exact lk1 (by first | assumption | (apply Ne.symm; assumption) | omega) (lk1 (by first | assumption | (apply Ne.symm; assumption) | omega) (lk1 (by first | assumption | (apply Ne.symm; assumption) | omega) (lk1 (by first | assumption | (apply Ne.symm; assumption) | omega) (by assumption)))) | exact lk1 (by first | assumption | (apply Ne.symm; assumption) | omega) (lk1 (by first | assumption | (apply Ne.symm; assumption) | omega) (lk1 (by first | assumption | (apply Ne.symm; assumption) | omega) (lk1 (by first | assumption | (apply Ne.symm; assumption) | omega) (va_up_self _ _ _))))) (by rfl) ?_
  refine pw_iload_n (pc := 24) dX3_swapWithAhead_24 rfl ?_
  refine pw_aload_n (pc := 25) dX3_swapWithAhead_25 rfl ?_
  refine pw_get (pc := 26) fg_X3_21 dX3_swapWithAhead_26 (by first | assumption | exact va_up_self _ _ _ | exact lk1 (by first | assumption | (apply Ne.symm; assumption) | omega) (by assumption) | exact lk1 (by first | assumption | (apply Ne.symm; assumption) | omega) (va_up_self _ _ _) | exact lk1 (by first | assumption | (apply Ne.symm; assumption) | omega) (lk1 (by first | assumption | (apply Ne.symm; assumption) | omega) (by assumption)) | exact lk1 (by first | assumption | (apply Ne.symm; assumption) | omega) (lk1 (by first | assumption | (apply Ne.symm; assumption) | omega) (va_up_self _ _ _)) | exact lk1 (by first | assumption | (apply Ne.symm; assumption) | omega) (lk1 (by first | assumption | (apply Ne.symm; assumption) | omega) (lk1 (by first | assumption | (apply Ne.symm; assumption) | omega) (by assumption))) | exact lk1 (by first | assumption | (apply Ne.symm; assumption) | omega) (lk1 (by first | assumption | (apply Ne.symm; assumption) | omega) (lk1 (by first | assumption | (apply Ne.symm; assumption) | omega) (va_up_self _ _ _))) | exact lk1 (by first | assumption | (apply Ne.symm; assumption) | omega) (lk1 (by first | assumption | (apply Ne.symm; assumption) | omega) (lk1 (by first | assumption | (apply Ne.symm; assumption) | omega) (lk1 (by first | assumption | (apply Ne.symm; assumption) | omega) (by assumption)))) | exact lk1 (by first | assumption | (apply Ne.symm; assumption) | omega) (lk1 (by first | assumption | (apply Ne.symm; assumption) | omega) (lk1 (by first | assumption | (apply Ne.symm; assumption) | omega) (lk1 (by first | assumption | (apply Ne.symm; assumption) | omega) (va_up_self _ _ _))))) (by rfl) ?_
  refine pw_iload_n (pc := 29) dX3_swapWithAhead_29 rfl ?_
  refine pw_iconst (pc := 30) (nI 1) dX3_swapWithAhead_30 (by decide) ?_
  refine pw_isub (pc := 31) dX3_swapWithAhead_31 ?_
  refine pw_iald (pc := 32) (p - 1) dX3_swapWithAhead_32 (by first | assumption | exact va_up_self _ _ _ | exact lk1 (by first | assumption | (apply Ne.symm; assumption) | omega) (by assumption) | exact lk1 (by first | assumption | (apply Ne.symm; assumption) | omega) (va_up_self _ _ _) | exact lk1 (by first | assumption | (apply Ne.symm; assumption) | omega) (lk1 (by first | assumption | (apply Ne.symm; assumption) | omega) (by assumption)) | exact lk1 (by first | assumption | (apply Ne.symm; assumption) | omega) (lk1 (by first | assumption | (apply Ne.symm; assumption) | omega) (va_up_self _ _ _)) | exact lk1 (by first | assumption | (apply Ne.symm; assumption) | omega) (lk1 (by first | assumption | (apply Ne.symm; assumption) | omega) (lk1 (by first | assumption | (apply Ne.symm; assumption) | omega) (by assumption))) | exact lk1 (by first | assumption | (apply Ne.symm; assumption) | omega) (lk1 (by first | assumption | (apply Ne.symm; assumption) | omega) (lk1 (by first | assumption | (apply Ne.symm; assumption) | omega) (va_up_self _ _ _))) | exact lk1 (by first | assumption | (apply Ne.symm; assumption) | omega) (lk1 (by first | assumption | (apply Ne.symm; assumption) | omega) (lk1 (by first | assumption | (apply Ne.symm; assumption) | omega) (lk1 (by first | assumption | (apply Ne.symm; assumption) | omega) (by assumption)))) | exact lk1 (by first | assumption | (apply Ne.symm; assumption) | omega) (lk1 (by first | assumption | (apply Ne.symm; assumption) | omega) (lk1 (by first | assumption | (apply Ne.symm; assumption) | omega) (lk1 (by first | assumption | (apply Ne.symm; assumption) | omega) (va_up_self _ _ _))))) (by first | rfl | (simp only [nI_add, pk_mul, Nat.one_mul, Nat.mul_one, Nat.zero_add, Nat.add_zero, Nat.mul_zero]; done) | exact pk_sub (by omega) | (rw [pk_sub (by omega)]; first | done | (rw [nI_add]; done) | (rw [pk_sub (by omega)]; done) | (rw [pk_sub (by omega), nI_add]; done)) | (simp only [nI_add, pk_mul]; first | exact pk_sub (by omega) | (congr 1; omega)) | (congr 1; omega)) (by omega) (by omega) ?_
  refine pw_iast (pc := 33) (p) dX3_swapWithAhead_33 (by first | assumption | exact va_up_self _ _ _ | exact lk1 (by first | assumption | (apply Ne.symm; assumption) | omega) (by assumption) | exact lk1 (by first | assumption | (apply Ne.symm; assumption) | omega) (va_up_self _ _ _) | exact lk1 (by first | assumption | (apply Ne.symm; assumption) | omega) (lk1 (by first | assumption | (apply Ne.symm; assumption) | omega) (by assumption)) | exact lk1 (by first | assumption | (apply Ne.symm; assumption) | omega) (lk1 (by first | assumption | (apply Ne.symm; assumption) | omega) (va_up_self _ _ _)) | exact lk1 (by first | assumption | (apply Ne.symm; assumption) | omega) (lk1 (by first | assumption | (apply Ne.symm; assumption) | omega) (lk1 (by first | assumption | (apply Ne.symm; assumption) | omega) (by assumption))) | exact lk1 (by first | assumption | (apply Ne.symm; assumption) | omega) (lk1 (by first | assumption | (apply Ne.symm; assumption) | omega) (lk1 (by first | assumption | (apply Ne.symm; assumption) | omega) (va_up_self _ _ _))) | exact lk1 (by first | assumption | (apply Ne.symm; assumption) | omega) (lk1 (by first | assumption | (apply Ne.symm; assumption) | omega) (lk1 (by first | assumption | (apply Ne.symm; assumption) | omega) (lk1 (by first | assumption | (apply Ne.symm; assumption) | omega) (by assumption)))) | exact lk1 (by first | assumption | (apply Ne.symm; assumption) | omega) (lk1 (by first | assumption | (apply Ne.symm; assumption) | omega) (lk1 (by first | assumption | (apply Ne.symm; assumption) | omega) (lk1 (by first | assumption | (apply Ne.symm; assumption) | omega) (va_up_self _ _ _))))) (by first | rfl | (simp only [nI_add, pk_mul, Nat.one_mul, Nat.mul_one, Nat.zero_add, Nat.add_zero, Nat.mul_zero]; done) | exact pk_sub (by omega) | (rw [pk_sub (by omega)]; first | done | (rw [nI_add]; done) | (rw [pk_sub (by omega)]; done) | (rw [pk_sub (by omega), nI_add]; done)) | (simp only [nI_add, pk_mul]; first | exact pk_sub (by omega) | (congr 1; omega)) | (congr 1; omega)) (by omega) (by omega) ?_
  refine pw_aload_n (pc := 34) dX3_swapWithAhead_34 rfl ?_
  refine pw_get (pc := 35) fg_X3_21 dX3_swapWithAhead_35 (by first | assumption | exact va_up_self _ _ _ | exact lk1 (by first | assumption | (apply Ne.symm; assumption) | omega) (by assumption) | exact lk1 (by first | assumption | (apply Ne.symm; assumption) | omega) (va_up_self _ _ _) | exact lk1 (by first | assumption | (apply Ne.symm; assumption) | omega) (lk1 (by first | assumption | (apply Ne.symm; assumption) | omega) (by assumption)) | exact lk1 (by first | assumption | (apply Ne.symm; assumption) | omega) (lk1 (by first | assumption | (apply Ne.symm; assumption) | omega) (va_up_self _ _ _)) | exact lk1 (by first | assumption | (apply Ne.symm; assumption) | omega) (lk1 (by first | assumption | (apply Ne.symm; assumption) | omega) (lk1 (by first | assumption | (apply Ne.symm; assumption) | omega) (by assumption))) | exact lk1 (by first | assumption | (apply Ne.symm; assumption) | omega) (lk1 (by first | assumption | (apply Ne.symm; assumption) | omega) (lk1 (by first | assumption | (apply Ne.symm; assumption) | omega) (va_up_self _ _ _))) | exact lk1 (by first | assumption | (apply Ne.symm; assumption) | omega) (lk1 (by first | assumption | (apply Ne.symm; assumption) | omega) (lk1 (by first | assumption | (apply Ne.symm; assumption) | omega) (lk1 (by first | assumption | (apply Ne.symm; assumption) | omega) (by assumption)))) | exact lk1 (by first | assumption | (apply Ne.symm; assumption) | omega) (lk1 (by first | assumption | (apply Ne.symm; assumption) | omega) (lk1 (by first | assumption | (apply Ne.symm; assumption) | omega) (lk1 (by first | assumption | (apply Ne.symm; assumption) | omega) (va_up_self _ _ _))))) (by rfl) ?_
  refine pw_iload_n (pc := 38) dX3_swapWithAhead_38 rfl ?_
  refine pw_iconst (pc := 39) (nI 1) dX3_swapWithAhead_39 (by decide) ?_
  refine pw_isub (pc := 40) dX3_swapWithAhead_40 ?_
  refine pw_iload_n (pc := 41) dX3_swapWithAhead_41 rfl ?_
  refine pw_iast (pc := 42) (p - 1) dX3_swapWithAhead_42 (by first | assumption | exact va_up_self _ _ _ | exact lk1 (by first | assumption | (apply Ne.symm; assumption) | omega) (by assumption) | exact lk1 (by first | assumption | (apply Ne.symm; assumption) | omega) (va_up_self _ _ _) | exact lk1 (by first | assumption | (apply Ne.symm; assumption) | omega) (lk1 (by first | assumption | (apply Ne.symm; assumption) | omega) (by assumption)) | exact lk1 (by first | assumption | (apply Ne.symm; assumption) | omega) (lk1 (by first | assumption | (apply Ne.symm; assumption) | omega) (va_up_self _ _ _)) | exact lk1 (by first | assumption | (apply Ne.symm; assumption) | omega) (lk1 (by first | assumption | (apply Ne.symm; assumption) | omega) (lk1 (by first | assumption | (apply Ne.symm; assumption) | omega) (by assumption))) | exact lk1 (by first | assumption | (apply Ne.symm; assumption) | omega) (lk1 (by first | assumption | (apply Ne.symm; assumption) | omega) (lk1 (by first | assumption | (apply Ne.symm; assumption) | omega) (va_up_self _ _ _))) | exact lk1 (by first | assumption | (apply Ne.symm; assumption) | omega) (lk1 (by first | assumption | (apply Ne.symm; assumption) | omega) (lk1 (by first | assumption | (apply Ne.symm; assumption) | omega) (lk1 (by first | assumption | (apply Ne.symm; assumption) | omega) (by assumption)))) | exact lk1 (by first | assumption | (apply Ne.symm; assumption) | omega) (lk1 (by first | assumption | (apply Ne.symm; assumption) | omega) (lk1 (by first | assumption | (apply Ne.symm; assumption) | omega) (lk1 (by first | assumption | (apply Ne.symm; assumption) | omega) (va_up_self _ _ _))))) (by first | rfl | (simp only [nI_add, pk_mul, Nat.one_mul, Nat.mul_one, Nat.zero_add, Nat.add_zero, Nat.mul_zero]; done) | exact pk_sub (by omega) | (rw [pk_sub (by omega)]; first | done | (rw [nI_add]; done) | (rw [pk_sub (by omega)]; done) | (rw [pk_sub (by omega), nI_add]; done)) | (simp only [nI_add, pk_mul]; first | exact pk_sub (by omega) | (congr 1; omega)) | (congr 1; omega)) (by omega) (by omega) ?_
  refine pw_vret dX3_swapWithAhead_43 rfl ⟨rfl, ⟨upd (upd f p (f (p - 1))) (p - 1) (f p), ⟨by simp [va_up, hne]; exact h1, by simp [va_up], h3, h4⟩, fun k hk => ?_⟩, ?_⟩
  · by_cases hk1 : k = p
    · subst hk1; rw [pk_un (by omega), pk_us, swpF, if_pos rfl]
    · by_cases hk2 : k = p - 1
      · subst hk2; rw [pk_us, swpF, if_neg hk1, if_pos rfl]
      · rw [pk_un hk2, pk_un hk1, swpF, if_neg hk1, if_neg hk2]
  · intro q hq
    simp at hq
    simp [va_up, hq]
end
