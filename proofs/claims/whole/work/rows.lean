section
-- ===== PART A: goes FIRST, ahead of the names: the tables' words, and 'selects' of the private methods out of them =====
/-- a private method of a class that the tables say can be made, by its rows of tables_1 -/
def lw_okq (q : MethodName × Nat) : Prop := (q.1.cls ≠ "java/lang/invoke/MethodHandle" ∧ q.1.cls ≠ "java/lang/invoke/VarHandle") ∧ Cond.instantiable q.1.cls q.2 ∈ tables_1 ∧ Cond.privateMethod q.1 ∈ tables_1 ∧ Cond.instanceMethod q.1 ∈ tables_1
theorem lw_p0 : lw_okq (⟨"DoorCreaks", "finding", "(I)I"⟩, 9) := ⟨⟨by decide +kernel, by decide +kernel⟩, List.mem_of_getElem? (i := 11) (by decide +kernel), List.mem_of_getElem? (i := 265) (by decide +kernel), List.mem_of_getElem? (i := 266) (by decide +kernel)⟩
theorem lw_p1 : lw_okq (⟨"DoorCreaks$Text", "readAll", "()I"⟩, 11) := ⟨⟨by decide +kernel, by decide +kernel⟩, List.mem_of_getElem? (i := 27) (by decide +kernel), List.mem_of_getElem? (i := 312) (by decide +kernel), List.mem_of_getElem? (i := 313) (by decide +kernel)⟩
theorem lw_p2 : lw_okq (⟨"DoorCreaks$Text", "sum", "(I)I"⟩, 11) := ⟨⟨by decide +kernel, by decide +kernel⟩, List.mem_of_getElem? (i := 27) (by decide +kernel), List.mem_of_getElem? (i := 316) (by decide +kernel), List.mem_of_getElem? (i := 317) (by decide +kernel)⟩
theorem lw_p3 : lw_okq (⟨"DoorCreaks$Text", "product", "(I)I"⟩, 11) := ⟨⟨by decide +kernel, by decide +kernel⟩, List.mem_of_getElem? (i := 27) (by decide +kernel), List.mem_of_getElem? (i := 320) (by decide +kernel), List.mem_of_getElem? (i := 321) (by decide +kernel)⟩
theorem lw_p4 : lw_okq (⟨"DoorCreaks$Text", "factor", "(I)I"⟩, 11) := ⟨⟨by decide +kernel, by decide +kernel⟩, List.mem_of_getElem? (i := 27) (by decide +kernel), List.mem_of_getElem? (i := 324) (by decide +kernel), List.mem_of_getElem? (i := 325) (by decide +kernel)⟩
theorem lw_p5 : lw_okq (⟨"DoorCreaks$Text", "pass", "(I)V"⟩, 11) := ⟨⟨by decide +kernel, by decide +kernel⟩, List.mem_of_getElem? (i := 27) (by decide +kernel), List.mem_of_getElem? (i := 328) (by decide +kernel), List.mem_of_getElem? (i := 329) (by decide +kernel)⟩
theorem lw_p6 : lw_okq (⟨"DoorCreaks$Text", "named", "(I)I"⟩, 11) := ⟨⟨by decide +kernel, by decide +kernel⟩, List.mem_of_getElem? (i := 27) (by decide +kernel), List.mem_of_getElem? (i := 333) (by decide +kernel), List.mem_of_getElem? (i := 334) (by decide +kernel)⟩
theorem lw_p7 : lw_okq (⟨"DoorCreaks$Row", "round", "()Z"⟩, 9) := ⟨⟨by decide +kernel, by decide +kernel⟩, List.mem_of_getElem? (i := 19) (by decide +kernel), List.mem_of_getElem? (i := 398) (by decide +kernel), List.mem_of_getElem? (i := 399) (by decide +kernel)⟩
theorem lw_p8 : lw_okq (⟨"DoorCreaksModel", "no", "(I)I"⟩, 25) := ⟨⟨by decide +kernel, by decide +kernel⟩, List.mem_of_getElem? (i := 594) (by decide +kernel), List.mem_of_getElem? (i := 683) (by decide +kernel), List.mem_of_getElem? (i := 684) (by decide +kernel)⟩
theorem lw_p9 : lw_okq (⟨"DoorCreaksModel", "become", "(III)I"⟩, 25) := ⟨⟨by decide +kernel, by decide +kernel⟩, List.mem_of_getElem? (i := 594) (by decide +kernel), List.mem_of_getElem? (i := 688) (by decide +kernel), List.mem_of_getElem? (i := 689) (by decide +kernel)⟩
theorem lw_p10 : lw_okq (⟨"DoorCreaksModel", "at", "(II)I"⟩, 25) := ⟨⟨by decide +kernel, by decide +kernel⟩, List.mem_of_getElem? (i := 594) (by decide +kernel), List.mem_of_getElem? (i := 692) (by decide +kernel), List.mem_of_getElem? (i := 693) (by decide +kernel)⟩
theorem lw_p11 : lw_okq (⟨"DoorCreaksModel", "isBlock", "(I)Z"⟩, 25) := ⟨⟨by decide +kernel, by decide +kernel⟩, List.mem_of_getElem? (i := 594) (by decide +kernel), List.mem_of_getElem? (i := 700) (by decide +kernel), List.mem_of_getElem? (i := 701) (by decide +kernel)⟩
theorem lw_p12 : lw_okq (⟨"DoorCreaksModel", "pull", "(I)I"⟩, 25) := ⟨⟨by decide +kernel, by decide +kernel⟩, List.mem_of_getElem? (i := 594) (by decide +kernel), List.mem_of_getElem? (i := 704) (by decide +kernel), List.mem_of_getElem? (i := 705) (by decide +kernel)⟩
theorem lw_p13 : lw_okq (⟨"DoorCreaksModel", "placeOf", "(I)I"⟩, 25) := ⟨⟨by decide +kernel, by decide +kernel⟩, List.mem_of_getElem? (i := 594) (by decide +kernel), List.mem_of_getElem? (i := 708) (by decide +kernel), List.mem_of_getElem? (i := 709) (by decide +kernel)⟩
theorem lw_p14 : lw_okq (⟨"DoorCreaksModel", "isLast", "(I)Z"⟩, 25) := ⟨⟨by decide +kernel, by decide +kernel⟩, List.mem_of_getElem? (i := 594) (by decide +kernel), List.mem_of_getElem? (i := 712) (by decide +kernel), List.mem_of_getElem? (i := 713) (by decide +kernel)⟩
theorem lw_p15 : lw_okq (⟨"DoorCreaksModel", "holdsOf", "(II)I"⟩, 25) := ⟨⟨by decide +kernel, by decide +kernel⟩, List.mem_of_getElem? (i := 594) (by decide +kernel), List.mem_of_getElem? (i := 716) (by decide +kernel), List.mem_of_getElem? (i := 717) (by decide +kernel)⟩
def lw_privs_1 : List (MethodName × Nat) := [(⟨"DoorCreaks", "finding", "(I)I"⟩, 9), (⟨"DoorCreaks$Text", "readAll", "()I"⟩, 11), (⟨"DoorCreaks$Text", "sum", "(I)I"⟩, 11), (⟨"DoorCreaks$Text", "product", "(I)I"⟩, 11), (⟨"DoorCreaks$Text", "factor", "(I)I"⟩, 11), (⟨"DoorCreaks$Text", "pass", "(I)V"⟩, 11), (⟨"DoorCreaks$Text", "named", "(I)I"⟩, 11), (⟨"DoorCreaks$Row", "round", "()Z"⟩, 9), (⟨"DoorCreaksModel", "no", "(I)I"⟩, 25), (⟨"DoorCreaksModel", "become", "(III)I"⟩, 25), (⟨"DoorCreaksModel", "at", "(II)I"⟩, 25), (⟨"DoorCreaksModel", "isBlock", "(I)Z"⟩, 25), (⟨"DoorCreaksModel", "pull", "(I)I"⟩, 25), (⟨"DoorCreaksModel", "placeOf", "(I)I"⟩, 25), (⟨"DoorCreaksModel", "isLast", "(I)Z"⟩, 25), (⟨"DoorCreaksModel", "holdsOf", "(II)I"⟩, 25)]
theorem lw_r1 : ∀ q ∈ lw_privs_1, lw_okq q := List.forall_mem_cons.mpr ⟨lw_p0, List.forall_mem_cons.mpr ⟨lw_p1, List.forall_mem_cons.mpr ⟨lw_p2, List.forall_mem_cons.mpr ⟨lw_p3, List.forall_mem_cons.mpr ⟨lw_p4, List.forall_mem_cons.mpr ⟨lw_p5, List.forall_mem_cons.mpr ⟨lw_p6, List.forall_mem_cons.mpr ⟨lw_p7, List.forall_mem_cons.mpr ⟨lw_p8, List.forall_mem_cons.mpr ⟨lw_p9, List.forall_mem_cons.mpr ⟨lw_p10, List.forall_mem_cons.mpr ⟨lw_p11, List.forall_mem_cons.mpr ⟨lw_p12, List.forall_mem_cons.mpr ⟨lw_p13, List.forall_mem_cons.mpr ⟨lw_p14, List.forall_mem_cons.mpr ⟨lw_p15, fun _ h => absurd h List.not_mem_nil⟩⟩⟩⟩⟩⟩⟩⟩⟩⟩⟩⟩⟩⟩⟩⟩
theorem lw_p16 : lw_okq (⟨"DoorCreaksModel", "plainHolds", "(II)I"⟩, 25) := ⟨⟨by decide +kernel, by decide +kernel⟩, List.mem_of_getElem? (i := 594) (by decide +kernel), List.mem_of_getElem? (i := 720) (by decide +kernel), List.mem_of_getElem? (i := 721) (by decide +kernel)⟩
theorem lw_p17 : lw_okq (⟨"DoorCreaksModel", "given", "(II)I"⟩, 25) := ⟨⟨by decide +kernel, by decide +kernel⟩, List.mem_of_getElem? (i := 594) (by decide +kernel), List.mem_of_getElem? (i := 730) (by decide +kernel), List.mem_of_getElem? (i := 731) (by decide +kernel)⟩
theorem lw_p18 : lw_okq (⟨"DoorCreaksModel", "worthOf", "(III)I"⟩, 25) := ⟨⟨by decide +kernel, by decide +kernel⟩, List.mem_of_getElem? (i := 594) (by decide +kernel), List.mem_of_getElem? (i := 734) (by decide +kernel), List.mem_of_getElem? (i := 735) (by decide +kernel)⟩
theorem lw_p19 : lw_okq (⟨"DoorCreaksModel", "rubsOf", "(II)I"⟩, 25) := ⟨⟨by decide +kernel, by decide +kernel⟩, List.mem_of_getElem? (i := 594) (by decide +kernel), List.mem_of_getElem? (i := 760) (by decide +kernel), List.mem_of_getElem? (i := 761) (by decide +kernel)⟩
theorem lw_p20 : lw_okq (⟨"DoorCreaksModel", "tick", "()V"⟩, 25) := ⟨⟨by decide +kernel, by decide +kernel⟩, List.mem_of_getElem? (i := 594) (by decide +kernel), List.mem_of_getElem? (i := 780) (by decide +kernel), List.mem_of_getElem? (i := 781) (by decide +kernel)⟩
theorem lw_p21 : lw_okq (⟨"DoorCreaksModel", "round", "()Z"⟩, 25) := ⟨⟨by decide +kernel, by decide +kernel⟩, List.mem_of_getElem? (i := 594) (by decide +kernel), List.mem_of_getElem? (i := 784) (by decide +kernel), List.mem_of_getElem? (i := 785) (by decide +kernel)⟩
theorem lw_p22 : lw_okq (⟨"DoorCreaksModel", "stepsOf", "(I)I"⟩, 25) := ⟨⟨by decide +kernel, by decide +kernel⟩, List.mem_of_getElem? (i := 594) (by decide +kernel), List.mem_of_getElem? (i := 788) (by decide +kernel), List.mem_of_getElem? (i := 789) (by decide +kernel)⟩
theorem lw_p23 : lw_okq (⟨"DoorCreaksModel", "springs", "(I)I"⟩, 25) := ⟨⟨by decide +kernel, by decide +kernel⟩, List.mem_of_getElem? (i := 594) (by decide +kernel), List.mem_of_getElem? (i := 795) (by decide +kernel), List.mem_of_getElem? (i := 796) (by decide +kernel)⟩
theorem lw_p24 : lw_okq (⟨"DoorCreaksModel", "books", "()V"⟩, 25) := ⟨⟨by decide +kernel, by decide +kernel⟩, List.mem_of_getElem? (i := 594) (by decide +kernel), List.mem_of_getElem? (i := 803) (by decide +kernel), List.mem_of_getElem? (i := 804) (by decide +kernel)⟩
theorem lw_p25 : lw_okq (⟨"DoorCreaksModel", "goes", "(I)V"⟩, 25) := ⟨⟨by decide +kernel, by decide +kernel⟩, List.mem_of_getElem? (i := 594) (by decide +kernel), List.mem_of_getElem? (i := 845) (by decide +kernel), List.mem_of_getElem? (i := 846) (by decide +kernel)⟩
theorem lw_p26 : lw_okq (⟨"DoorCreaksModel", "jumps", "(I)I"⟩, 25) := ⟨⟨by decide +kernel, by decide +kernel⟩, List.mem_of_getElem? (i := 594) (by decide +kernel), List.mem_of_getElem? (i := 849) (by decide +kernel), List.mem_of_getElem? (i := 850) (by decide +kernel)⟩
theorem lw_p27 : lw_okq (⟨"DoorCreaksModel", "greatest", "(I)I"⟩, 25) := ⟨⟨by decide +kernel, by decide +kernel⟩, List.mem_of_getElem? (i := 594) (by decide +kernel), List.mem_of_getElem? (i := 853) (by decide +kernel), List.mem_of_getElem? (i := 854) (by decide +kernel)⟩
theorem lw_p28 : lw_okq (⟨"DoorCreaksModel", "leastSo", "(IIII)I"⟩, 25) := ⟨⟨by decide +kernel, by decide +kernel⟩, List.mem_of_getElem? (i := 594) (by decide +kernel), List.mem_of_getElem? (i := 861) (by decide +kernel), List.mem_of_getElem? (i := 862) (by decide +kernel)⟩
theorem lw_p29 : lw_okq (⟨"DoorCreaksModel", "isSo", "(IIIII)Z"⟩, 25) := ⟨⟨by decide +kernel, by decide +kernel⟩, List.mem_of_getElem? (i := 594) (by decide +kernel), List.mem_of_getElem? (i := 865) (by decide +kernel), List.mem_of_getElem? (i := 866) (by decide +kernel)⟩
theorem lw_p30 : lw_okq (⟨"DoorCreaksModel", "longOf", "(I)I"⟩, 25) := ⟨⟨by decide +kernel, by decide +kernel⟩, List.mem_of_getElem? (i := 594) (by decide +kernel), List.mem_of_getElem? (i := 880) (by decide +kernel), List.mem_of_getElem? (i := 881) (by decide +kernel)⟩
theorem lw_p31 : lw_okq (⟨"DoorCreaksModel", "gives", "(III)Z"⟩, 25) := ⟨⟨by decide +kernel, by decide +kernel⟩, List.mem_of_getElem? (i := 594) (by decide +kernel), List.mem_of_getElem? (i := 884) (by decide +kernel), List.mem_of_getElem? (i := 885) (by decide +kernel)⟩
def lw_privs_2 : List (MethodName × Nat) := [(⟨"DoorCreaksModel", "plainHolds", "(II)I"⟩, 25), (⟨"DoorCreaksModel", "given", "(II)I"⟩, 25), (⟨"DoorCreaksModel", "worthOf", "(III)I"⟩, 25), (⟨"DoorCreaksModel", "rubsOf", "(II)I"⟩, 25), (⟨"DoorCreaksModel", "tick", "()V"⟩, 25), (⟨"DoorCreaksModel", "round", "()Z"⟩, 25), (⟨"DoorCreaksModel", "stepsOf", "(I)I"⟩, 25), (⟨"DoorCreaksModel", "springs", "(I)I"⟩, 25), (⟨"DoorCreaksModel", "books", "()V"⟩, 25), (⟨"DoorCreaksModel", "goes", "(I)V"⟩, 25), (⟨"DoorCreaksModel", "jumps", "(I)I"⟩, 25), (⟨"DoorCreaksModel", "greatest", "(I)I"⟩, 25), (⟨"DoorCreaksModel", "leastSo", "(IIII)I"⟩, 25), (⟨"DoorCreaksModel", "isSo", "(IIIII)Z"⟩, 25), (⟨"DoorCreaksModel", "longOf", "(I)I"⟩, 25), (⟨"DoorCreaksModel", "gives", "(III)Z"⟩, 25)]
theorem lw_r2 : ∀ q ∈ lw_privs_2, lw_okq q := List.forall_mem_cons.mpr ⟨lw_p16, List.forall_mem_cons.mpr ⟨lw_p17, List.forall_mem_cons.mpr ⟨lw_p18, List.forall_mem_cons.mpr ⟨lw_p19, List.forall_mem_cons.mpr ⟨lw_p20, List.forall_mem_cons.mpr ⟨lw_p21, List.forall_mem_cons.mpr ⟨lw_p22, List.forall_mem_cons.mpr ⟨lw_p23, List.forall_mem_cons.mpr ⟨lw_p24, List.forall_mem_cons.mpr ⟨lw_p25, List.forall_mem_cons.mpr ⟨lw_p26, List.forall_mem_cons.mpr ⟨lw_p27, List.forall_mem_cons.mpr ⟨lw_p28, List.forall_mem_cons.mpr ⟨lw_p29, List.forall_mem_cons.mpr ⟨lw_p30, List.forall_mem_cons.mpr ⟨lw_p31, fun _ h => absurd h List.not_mem_nil⟩⟩⟩⟩⟩⟩⟩⟩⟩⟩⟩⟩⟩⟩⟩⟩
theorem lw_p32 : lw_okq (⟨"DoorCreaksModel", "sum", "()V"⟩, 25) := ⟨⟨by decide +kernel, by decide +kernel⟩, List.mem_of_getElem? (i := 594) (by decide +kernel), List.mem_of_getElem? (i := 904) (by decide +kernel), List.mem_of_getElem? (i := 905) (by decide +kernel)⟩
theorem lw_p33 : lw_okq (⟨"DoorCreaksModel", "term", "()V"⟩, 25) := ⟨⟨by decide +kernel, by decide +kernel⟩, List.mem_of_getElem? (i := 594) (by decide +kernel), List.mem_of_getElem? (i := 908) (by decide +kernel), List.mem_of_getElem? (i := 909) (by decide +kernel)⟩
theorem lw_p34 : lw_okq (⟨"DoorCreaksModel", "factor", "()V"⟩, 25) := ⟨⟨by decide +kernel, by decide +kernel⟩, List.mem_of_getElem? (i := 594) (by decide +kernel), List.mem_of_getElem? (i := 912) (by decide +kernel), List.mem_of_getElem? (i := 913) (by decide +kernel)⟩
theorem lw_p35 : lw_okq (⟨"DoorCreaksModel", "byteAt", "()I"⟩, 25) := ⟨⟨by decide +kernel, by decide +kernel⟩, List.mem_of_getElem? (i := 594) (by decide +kernel), List.mem_of_getElem? (i := 916) (by decide +kernel), List.mem_of_getElem? (i := 917) (by decide +kernel)⟩
theorem lw_p36 : lw_okq (⟨"DoorCreaksModel", "number", "()V"⟩, 25) := ⟨⟨by decide +kernel, by decide +kernel⟩, List.mem_of_getElem? (i := 594) (by decide +kernel), List.mem_of_getElem? (i := 923) (by decide +kernel), List.mem_of_getElem? (i := 924) (by decide +kernel)⟩
theorem lw_p37 : lw_okq (⟨"DoorCreaksModel", "emit", "(I)V"⟩, 25) := ⟨⟨by decide +kernel, by decide +kernel⟩, List.mem_of_getElem? (i := 594) (by decide +kernel), List.mem_of_getElem? (i := 927) (by decide +kernel), List.mem_of_getElem? (i := 928) (by decide +kernel)⟩
theorem lw_p38 : lw_okq (⟨"DoorCreaksModel", "opens", "(I)Z"⟩, 25) := ⟨⟨by decide +kernel, by decide +kernel⟩, List.mem_of_getElem? (i := 594) (by decide +kernel), List.mem_of_getElem? (i := 934) (by decide +kernel), List.mem_of_getElem? (i := 935) (by decide +kernel)⟩
theorem lw_p39 : lw_okq (⟨"DoorCreaksModel", "fails", "()V"⟩, 25) := ⟨⟨by decide +kernel, by decide +kernel⟩, List.mem_of_getElem? (i := 594) (by decide +kernel), List.mem_of_getElem? (i := 938) (by decide +kernel), List.mem_of_getElem? (i := 939) (by decide +kernel)⟩
theorem lw_p40 : lw_okq (⟨"DoorCreaksModel", "must", "(I)V"⟩, 25) := ⟨⟨by decide +kernel, by decide +kernel⟩, List.mem_of_getElem? (i := 594) (by decide +kernel), List.mem_of_getElem? (i := 942) (by decide +kernel), List.mem_of_getElem? (i := 943) (by decide +kernel)⟩
theorem lw_p41 : lw_okq (⟨"DoorCreaksModel", "may", "(I)Z"⟩, 25) := ⟨⟨by decide +kernel, by decide +kernel⟩, List.mem_of_getElem? (i := 594) (by decide +kernel), List.mem_of_getElem? (i := 946) (by decide +kernel), List.mem_of_getElem? (i := 947) (by decide +kernel)⟩
def lw_privs_3 : List (MethodName × Nat) := [(⟨"DoorCreaksModel", "sum", "()V"⟩, 25), (⟨"DoorCreaksModel", "term", "()V"⟩, 25), (⟨"DoorCreaksModel", "factor", "()V"⟩, 25), (⟨"DoorCreaksModel", "byteAt", "()I"⟩, 25), (⟨"DoorCreaksModel", "number", "()V"⟩, 25), (⟨"DoorCreaksModel", "emit", "(I)V"⟩, 25), (⟨"DoorCreaksModel", "opens", "(I)Z"⟩, 25), (⟨"DoorCreaksModel", "fails", "()V"⟩, 25), (⟨"DoorCreaksModel", "must", "(I)V"⟩, 25), (⟨"DoorCreaksModel", "may", "(I)Z"⟩, 25)]
theorem lw_r3 : ∀ q ∈ lw_privs_3, lw_okq q := List.forall_mem_cons.mpr ⟨lw_p32, List.forall_mem_cons.mpr ⟨lw_p33, List.forall_mem_cons.mpr ⟨lw_p34, List.forall_mem_cons.mpr ⟨lw_p35, List.forall_mem_cons.mpr ⟨lw_p36, List.forall_mem_cons.mpr ⟨lw_p37, List.forall_mem_cons.mpr ⟨lw_p38, List.forall_mem_cons.mpr ⟨lw_p39, List.forall_mem_cons.mpr ⟨lw_p40, List.forall_mem_cons.mpr ⟨lw_p41, fun _ h => absurd h List.not_mem_nil⟩⟩⟩⟩⟩⟩⟩⟩⟩⟩
def lw_privs : List (MethodName × Nat) := lw_privs_1 ++ (lw_privs_2 ++ (lw_privs_3))
def lw_tbl : List Cond := k2_sels lw_privs ++ tables_1
theorem lw_privs_ok : ∀ q ∈ lw_privs, lw_okq q := by
  show ∀ q ∈ lw_privs_1 ++ (lw_privs_2 ++ (lw_privs_3)), lw_okq q
  exact List.forall_mem_append.mpr ⟨lw_r1, List.forall_mem_append.mpr ⟨lw_r2, lw_r3⟩⟩
end
section
def RX0 : String := "DoorCreaks$Block"
def TX0 : u_T := fun k => match k with
  | 0 => ("DoorCreaks$Block", "kind", "I", false)
  | 1 => ("DoorCreaks$Block", "hold", "I", false)
  | 2 => ("DoorCreaks$Block", "go", "I", false)
  | 3 => ("DoorCreaks$Block", "stiff", "I", false)
  | 4 => ("DoorCreaks$Block", "drops", "I", false)
  | 5 => ("DoorCreaks$Block", "place", "I", false)
  | 6 => ("DoorCreaks$Block", "stood", "I", false)
  | 7 => ("DoorCreaks$Block", "heldBy", "I", false)
  | 8 => ("DoorCreaks$Block", "pull", "I", false)
  | 9 => ("DoorCreaks$Block", "steps", "I", false)
  | _ => ("DoorCreaks$Block", "moved", "Z", false)
def tyX0 : Nat → FieldType := fun k => match k with
  | 0 => .int
  | 1 => .int
  | 2 => .int
  | 3 => .int
  | 4 => .int
  | 5 => .int
  | 6 => .int
  | 7 => .int
  | 8 => .int
  | 9 => .int
  | _ => .boolean
abbrev wsX00 : List Cond := u_ws RX0 TX0 11
theorem nmX0 : ∀ a, a < 11 → ∀ b, b < 11 → a ≠ b → (TX0 a).2.1 ≠ (TX0 b).2.1 := by decide +kernel
theorem tyX0_ok : ∀ k, k < 11 → parseFieldDescriptor (TX0 k).2.2.1 = some (tyX0 k) := by decide +kernel
abbrev cX0_init : ByteArray := prog_2_method_1_code
def yX0_init : MethodName := ⟨RX0, "<init>", "()V"⟩
abbrev cX0_begin : ByteArray := prog_2_method_2_code
def yX0_begin : MethodName := ⟨RX0, "begin", "(IIII)V"⟩
abbrev cX0_copyFrom : ByteArray := prog_2_method_3_code
def yX0_copyFrom : MethodName := ⟨RX0, "copyFrom", "(LDoorCreaks$Block;)V"⟩
abbrev cX0_plainHolds : ByteArray := prog_2_method_4_code
def yX0_plainHolds : MethodName := ⟨RX0, "plainHolds", "(I)I"⟩
abbrev cX0_rustyHolds : ByteArray := prog_2_method_5_code
def yX0_rustyHolds : MethodName := ⟨RX0, "rustyHolds", "(I)I"⟩
abbrev cX0_oiledHolds : ByteArray := prog_2_method_6_code
def yX0_oiledHolds : MethodName := ⟨RX0, "oiledHolds", "(I)I"⟩
abbrev cX0_rubsBy : ByteArray := prog_2_method_7_code
def yX0_rubsBy : MethodName := ⟨RX0, "rubsBy", "(I)I"⟩
abbrev cX0_startTick : ByteArray := prog_2_method_8_code
def yX0_startTick : MethodName := ⟨RX0, "startTick", "(I)V"⟩
abbrev cX0_move : ByteArray := prog_2_method_9_code
def yX0_move : MethodName := ⟨RX0, "move", "(I)V"⟩
abbrev cX0_endTick : ByteArray := prog_2_method_10_code
def yX0_endTick : MethodName := ⟨RX0, "endTick", "()V"⟩
def RX1 : String := "DoorCreaks$Book"
def TX1 : u_T := fun k => match k with
  | 0 => ("DoorCreaks$Book", "sizes", "[I", true)
  | 1 => ("DoorCreaks$Book", "wides", "[I", true)
  | 2 => ("DoorCreaks$Book", "noises", "[I", true)
  | 3 => ("DoorCreaks$Book", "classes", "[I", true)
  | 4 => ("DoorCreaks$Book", "length", "I", false)
  | 5 => ("DoorCreaks$Book", "next", "I", false)
  | 6 => ("DoorCreaks$Book", "ticks", "I", false)
  | _ => ("DoorCreaks$Book", "chattered", "I", false)
def tyX1 : Nat → FieldType := fun k => match k with
  | 0 => .array .int
  | 1 => .array .int
  | 2 => .array .int
  | 3 => .array .int
  | 4 => .int
  | 5 => .int
  | 6 => .int
  | _ => .int
abbrev wsX10 : List Cond := u_ws RX1 TX1 8
theorem nmX1 : ∀ a, a < 8 → ∀ b, b < 8 → a ≠ b → (TX1 a).2.1 ≠ (TX1 b).2.1 := by decide +kernel
theorem tyX1_ok : ∀ k, k < 8 → parseFieldDescriptor (TX1 k).2.2.1 = some (tyX1 k) := by decide +kernel
abbrev cX1_init : ByteArray := prog_3_method_1_code
def yX1_init : MethodName := ⟨RX1, "<init>", "()V"⟩
abbrev cX1_copyFrom : ByteArray := prog_3_method_2_code
def yX1_copyFrom : MethodName := ⟨RX1, "copyFrom", "(LDoorCreaks$Book;)V"⟩
abbrev cX1_slot : ByteArray := prog_3_method_3_code
def yX1_slot : MethodName := ⟨RX1, "slot", "(I)I"⟩
abbrev cX1_enter : ByteArray := prog_3_method_4_code
def yX1_enter : MethodName := ⟨RX1, "enter", "(LDoorCreaks$Row;)V"⟩
abbrev cX1_classOf : ByteArray := prog_3_method_5_code
def yX1_classOf : MethodName := ⟨RX1, "classOf", "(I)I"⟩
def RX2 : String := "DoorCreaks$Row"
def TX2 : u_T := fun k => match k with
  | 0 => ("DoorCreaks$Row", "blocks", "[LDoorCreaks$Block;", true)
  | 1 => ("DoorCreaks$Row", "length", "I", false)
  | 2 => ("DoorCreaks$Row", "hand", "I", false)
  | 3 => ("DoorCreaks$Row", "pace", "I", false)
  | 4 => ("DoorCreaks$Row", "law", "LDoorCreaks$Text;", true)
  | 5 => ("DoorCreaks$Row", "size", "I", false)
  | 6 => ("DoorCreaks$Row", "wide", "I", false)
  | 7 => ("DoorCreaks$Row", "noise", "I", false)
  | _ => ("DoorCreaks$Row", "chatters", "Z", false)
def tyX2 : Nat → FieldType := fun k => match k with
  | 0 => .array (.object "DoorCreaks$Block")
  | 1 => .int
  | 2 => .int
  | 3 => .int
  | 4 => .object "DoorCreaks$Text"
  | 5 => .int
  | 6 => .int
  | 7 => .int
  | _ => .boolean
abbrev wsX20 : List Cond := u_ws RX2 TX2 9
theorem nmX2 : ∀ a, a < 9 → ∀ b, b < 9 → a ≠ b → (TX2 a).2.1 ≠ (TX2 b).2.1 := by decide +kernel
theorem tyX2_ok : ∀ k, k < 9 → parseFieldDescriptor (TX2 k).2.2.1 = some (tyX2 k) := by decide +kernel
abbrev cX2_init : ByteArray := prog_4_method_1_code
def yX2_init : MethodName := ⟨RX2, "<init>", "()V"⟩
abbrev cX2_copyFrom : ByteArray := prog_4_method_2_code
def yX2_copyFrom : MethodName := ⟨RX2, "copyFrom", "(LDoorCreaks$Row;)V"⟩
abbrev cX2_has : ByteArray := prog_4_method_3_code
def yX2_has : MethodName := ⟨RX2, "has", "(I)Z"⟩
abbrev cX2_pullOf : ByteArray := prog_4_method_4_code
def yX2_pullOf : MethodName := ⟨RX2, "pullOf", "(I)I"⟩
abbrev cX2_holdsOf : ByteArray := prog_4_method_5_code
def yX2_holdsOf : MethodName := ⟨RX2, "holdsOf", "(II)I"⟩
abbrev cX2_tick : ByteArray := prog_4_method_6_code
def yX2_tick : MethodName := ⟨RX2, "tick", "()V"⟩
abbrev cX2_round : ByteArray := prog_4_method_7_code
def yX2_round : MethodName := ⟨RX2, "round", "()Z"⟩
def RX3 : String := "DoorCreaks$Sheet"
def TX3 : u_T := fun k => match k with
  | 0 => ("DoorCreaks$Sheet", "numbers", "[J", true)
  | 1 => ("DoorCreaks$Sheet", "bits", "I", false)
  | _ => ("DoorCreaks$Sheet", "length", "I", false)
def tyX3 : Nat → FieldType := fun k => match k with
  | 0 => .array .long
  | 1 => .int
  | _ => .int
abbrev wsX30 : List Cond := u_ws RX3 TX3 3
theorem nmX3 : ∀ a, a < 3 → ∀ b, b < 3 → a ≠ b → (TX3 a).2.1 ≠ (TX3 b).2.1 := by decide +kernel
theorem tyX3_ok : ∀ k, k < 3 → parseFieldDescriptor (TX3 k).2.2.1 = some (tyX3 k) := by decide +kernel
abbrev cX3_init : ByteArray := prog_5_method_1_code
def yX3_init : MethodName := ⟨RX3, "<init>", "()V"⟩
abbrev cX3_isMissing : ByteArray := prog_5_method_2_code
def yX3_isMissing : MethodName := ⟨RX3, "isMissing", "()Z"⟩
abbrev cX3_begin : ByteArray := prog_5_method_3_code
def yX3_begin : MethodName := ⟨RX3, "begin", "(II)V"⟩
abbrev cX3_lowestBits : ByteArray := prog_5_method_4_code
def yX3_lowestBits : MethodName := ⟨RX3, "lowestBits", "(J)J"⟩
abbrev cX3_hasPart : ByteArray := prog_5_method_5_code
def yX3_hasPart : MethodName := ⟨RX3, "hasPart", "(II)Z"⟩
def RX4 : String := "DoorCreaks$Text"
def TX4 : u_T := fun k => match k with
  | 0 => ("DoorCreaks$Text", "bytes", "[I", true)
  | 1 => ("DoorCreaks$Text", "length", "I", false)
  | 2 => ("DoorCreaks$Text", "at", "I", false)
  | 3 => ("DoorCreaks$Text", "sign", "I", false)
  | 4 => ("DoorCreaks$Text", "fault", "I", false)
  | 5 => ("DoorCreaks$Text", "stood", "I", false)
  | 6 => ("DoorCreaks$Text", "hold", "I", false)
  | 7 => ("DoorCreaks$Text", "go", "I", false)
  | 8 => ("DoorCreaks$Text", "block", "I", false)
  | 9 => ("DoorCreaks$Text", "drops", "I", false)
  | _ => ("DoorCreaks$Text", "pace", "I", false)
def tyX4 : Nat → FieldType := fun k => match k with
  | 0 => .array .int
  | 1 => .int
  | 2 => .int
  | 3 => .int
  | 4 => .int
  | 5 => .int
  | 6 => .int
  | 7 => .int
  | 8 => .int
  | 9 => .int
  | _ => .int
abbrev wsX40 : List Cond := u_ws RX4 TX4 11
theorem nmX4 : ∀ a, a < 11 → ∀ b, b < 11 → a ≠ b → (TX4 a).2.1 ≠ (TX4 b).2.1 := by decide +kernel
theorem tyX4_ok : ∀ k, k < 11 → parseFieldDescriptor (TX4 k).2.2.1 = some (tyX4 k) := by decide +kernel
abbrev cX4_init : ByteArray := prog_6_method_1_code
def yX4_init : MethodName := ⟨RX4, "<init>", "()V"⟩
abbrev cX4_copyFrom : ByteArray := prog_6_method_2_code
def yX4_copyFrom : MethodName := ⟨RX4, "copyFrom", "(LDoorCreaks$Text;)V"⟩
abbrev cX4_findFault : ByteArray := prog_6_method_3_code
def yX4_findFault : MethodName := ⟨RX4, "findFault", "()I"⟩
abbrev cX4_valueFor : ByteArray := prog_6_method_4_code
def yX4_valueFor : MethodName := ⟨RX4, "valueFor", "(LDoorCreaks$Block;III)I"⟩
abbrev cX4_readAll : ByteArray := prog_6_method_5_code
def yX4_readAll : MethodName := ⟨RX4, "readAll", "()I"⟩
abbrev cX4_pass : ByteArray := prog_6_method_6_code
def yX4_pass : MethodName := ⟨RX4, "pass", "(I)V"⟩
abbrev cX4_sum : ByteArray := prog_6_method_7_code
def yX4_sum : MethodName := ⟨RX4, "sum", "(I)I"⟩
abbrev cX4_product : ByteArray := prog_6_method_8_code
def yX4_product : MethodName := ⟨RX4, "product", "(I)I"⟩
abbrev cX4_factor : ByteArray := prog_6_method_9_code
def yX4_factor : MethodName := ⟨RX4, "factor", "(I)I"⟩
abbrev cX4_isName : ByteArray := prog_6_method_10_code
def yX4_isName : MethodName := ⟨RX4, "isName", "(I)Z"⟩
abbrev cX4_named : ByteArray := prog_6_method_11_code
def yX4_named : MethodName := ⟨RX4, "named", "(I)I"⟩
def RX5 : String := "DoorCreaks"
def TX5 : u_T := fun k => match k with
  | 0 => ("DoorCreaks", "live", "LDoorCreaks$Row;", true)
  | 1 => ("DoorCreaks", "kept", "LDoorCreaks$Row;", true)
  | 2 => ("DoorCreaks", "trial", "LDoorCreaks$Row;", true)
  | 3 => ("DoorCreaks", "book", "LDoorCreaks$Book;", true)
  | 4 => ("DoorCreaks", "keptBook", "LDoorCreaks$Book;", true)
  | 5 => ("DoorCreaks", "isKept", "Z", false)
  | 6 => ("DoorCreaks", "tape", "LDoorCreaks$Text;", true)
  | 7 => ("DoorCreaks", "sheets", "[LDoorCreaks$Sheet;", true)
  | _ => ("DoorCreaks", "found", "[I", true)
def tyX5 : Nat → FieldType := fun k => match k with
  | 0 => .object "DoorCreaks$Row"
  | 1 => .object "DoorCreaks$Row"
  | 2 => .object "DoorCreaks$Row"
  | 3 => .object "DoorCreaks$Book"
  | 4 => .object "DoorCreaks$Book"
  | 5 => .boolean
  | 6 => .object "DoorCreaks$Text"
  | 7 => .array (.object "DoorCreaks$Sheet")
  | _ => .array .int
abbrev wsX50 : List Cond := u_ws RX5 TX5 9
theorem nmX5 : ∀ a, a < 9 → ∀ b, b < 9 → a ≠ b → (TX5 a).2.1 ≠ (TX5 b).2.1 := by decide +kernel
theorem tyX5_ok : ∀ k, k < 9 → parseFieldDescriptor (TX5 k).2.2.1 = some (tyX5 k) := by decide +kernel
abbrev cX5_init : ByteArray := prog_1_method_1_code
def yX5_init : MethodName := ⟨RX5, "<init>", "()V"⟩
abbrev cX5_block : ByteArray := prog_1_method_2_code
def yX5_block : MethodName := ⟨RX5, "block", "(IIII)I"⟩
abbrev cX5_of : ByteArray := prog_1_method_3_code
def yX5_of : MethodName := ⟨RX5, "of", "(II)I"⟩
abbrev cX5_set : ByteArray := prog_1_method_4_code
def yX5_set : MethodName := ⟨RX5, "set", "(III)I"⟩
abbrev cX5_as : ByteArray := prog_1_method_5_code
def yX5_as : MethodName := ⟨RX5, "as", "(II)I"⟩
abbrev cX5_holds : ByteArray := prog_1_method_6_code
def yX5_holds : MethodName := ⟨RX5, "holds", "(II)I"⟩
abbrev cX5_rubs : ByteArray := prog_1_method_7_code
def yX5_rubs : MethodName := ⟨RX5, "rubs", "(II)I"⟩
abbrev cX5_push : ByteArray := prog_1_method_8_code
def yX5_push : MethodName := ⟨RX5, "push", "(II)I"⟩
abbrev cX5_oil : ByteArray := prog_1_method_9_code
def yX5_oil : MethodName := ⟨RX5, "oil", "(II)I"⟩
abbrev cX5_pace : ByteArray := prog_1_method_10_code
def yX5_pace : MethodName := ⟨RX5, "pace", "(I)I"⟩
abbrev cX5_ticks : ByteArray := prog_1_method_11_code
def yX5_ticks : MethodName := ⟨RX5, "ticks", "(I)I"⟩
abbrev cX5_until : ByteArray := prog_1_method_12_code
def yX5_until : MethodName := ⟨RX5, "until", "(II)I"⟩
abbrev cX5_book : ByteArray := prog_1_method_13_code
def yX5_book : MethodName := ⟨RX5, "book", "(II)I"⟩
abbrev cX5_counts : ByteArray := prog_1_method_14_code
def yX5_counts : MethodName := ⟨RX5, "counts", "(I)I"⟩
abbrev cX5_power : ByteArray := prog_1_method_15_code
def yX5_power : MethodName := ⟨RX5, "power", "()I"⟩
abbrev cX5_tone : ByteArray := prog_1_method_16_code
def yX5_tone : MethodName := ⟨RX5, "tone", "()I"⟩
abbrev cX5_great : ByteArray := prog_1_method_17_code
def yX5_great : MethodName := ⟨RX5, "great", "(II)I"⟩
abbrev cX5_noise : ByteArray := prog_1_method_18_code
def yX5_noise : MethodName := ⟨RX5, "noise", "(I)J"⟩
abbrev cX5_ahead : ByteArray := prog_1_method_19_code
def yX5_ahead : MethodName := ⟨RX5, "ahead", "(II)I"⟩
abbrev cX5_from : ByteArray := prog_1_method_20_code
def yX5_from : MethodName := ⟨RX5, "from", "(I)I"⟩
abbrev cX5_still : ByteArray := prog_1_method_21_code
def yX5_still : MethodName := ⟨RX5, "still", "(III)I"⟩
abbrev cX5_which : ByteArray := prog_1_method_22_code
def yX5_which : MethodName := ⟨RX5, "which", "(II)I"⟩
abbrev cX5_together : ByteArray := prog_1_method_23_code
def yX5_together : MethodName := ⟨RX5, "together", "(III)I"⟩
abbrev cX5_feed : ByteArray := prog_1_method_24_code
def yX5_feed : MethodName := ⟨RX5, "feed", "(II)I"⟩
abbrev cX5_wipe : ByteArray := prog_1_method_25_code
def yX5_wipe : MethodName := ⟨RX5, "wipe", "()I"⟩
abbrev cX5_law : ByteArray := prog_1_method_26_code
def yX5_law : MethodName := ⟨RX5, "law", "()I"⟩
abbrev cX5_plain : ByteArray := prog_1_method_27_code
def yX5_plain : MethodName := ⟨RX5, "plain", "()I"⟩
abbrev cX5_says : ByteArray := prog_1_method_28_code
def yX5_says : MethodName := ⟨RX5, "says", "(I)I"⟩
abbrev cX5_sheet : ByteArray := prog_1_method_29_code
def yX5_sheet : MethodName := ⟨RX5, "sheet", "(III)I"⟩
abbrev cX5_write : ByteArray := prog_1_method_30_code
def yX5_write : MethodName := ⟨RX5, "write", "(IIJ)J"⟩
abbrev cX5_copy : ByteArray := prog_1_method_31_code
def yX5_copy : MethodName := ⟨RX5, "copy", "(IIIII)I"⟩
abbrev cX5_draws : ByteArray := prog_1_method_32_code
def yX5_draws : MethodName := ⟨RX5, "draws", "(I)I"⟩
abbrev cX5_read : ByteArray := prog_1_method_33_code
def yX5_read : MethodName := ⟨RX5, "read", "(I)I"⟩
abbrev cX5_image : ByteArray := prog_1_method_34_code
def yX5_image : MethodName := ⟨RX5, "image", "()I"⟩
abbrev cX5_undo : ByteArray := prog_1_method_35_code
def yX5_undo : MethodName := ⟨RX5, "undo", "()I"⟩
abbrev cX5_tear : ByteArray := prog_1_method_36_code
def yX5_tear : MethodName := ⟨RX5, "tear", "()I"⟩
abbrev cX5_count : ByteArray := prog_1_method_37_code
def yX5_count : MethodName := ⟨RX5, "count", "(I)I"⟩
abbrev cX5_status : ByteArray := prog_1_method_38_code
def yX5_status : MethodName := ⟨RX5, "status", "(I)I"⟩
abbrev cX5_finding : ByteArray := prog_1_method_39_code
def yX5_finding : MethodName := ⟨RX5, "finding", "(I)I"⟩
abbrev cX5_within : ByteArray := prog_1_method_40_code
def yX5_within : MethodName := ⟨RX5, "within", "(III)Z"⟩
abbrev cX5_canBecome : ByteArray := prog_1_method_41_code
def yX5_canBecome : MethodName := ⟨RX5, "canBecome", "(II)Z"⟩
abbrev cX5_isOf : ByteArray := prog_1_method_42_code
def yX5_isOf : MethodName := ⟨RX5, "isOf", "(II)Z"⟩
def RX6 : String := "DoorCreaksModel"
def TX6 : u_T := fun k => match k with
  | 0 => ("DoorCreaksModel", "s", "[I", true)
  | 1 => ("DoorCreaksModel", "kept", "[I", true)
  | 2 => ("DoorCreaksModel", "aside", "[I", true)
  | 3 => ("DoorCreaksModel", "isKept", "Z", false)
  | 4 => ("DoorCreaksModel", "tape", "[I", true)
  | 5 => ("DoorCreaksModel", "taped", "I", false)
  | 6 => ("DoorCreaksModel", "findings", "[I", true)
  | 7 => ("DoorCreaksModel", "steps", "[I", true)
  | 8 => ("DoorCreaksModel", "then", "[I", true)
  | 9 => ("DoorCreaksModel", "moved", "I", false)
  | 10 => ("DoorCreaksModel", "size", "I", false)
  | 11 => ("DoorCreaksModel", "noise", "I", false)
  | 12 => ("DoorCreaksModel", "sizes", "[I", true)
  | 13 => ("DoorCreaksModel", "wides", "[I", true)
  | 14 => ("DoorCreaksModel", "noises", "I", false)
  | 15 => ("DoorCreaksModel", "code", "[I", true)
  | 16 => ("DoorCreaksModel", "coded", "I", false)
  | 17 => ("DoorCreaksModel", "here", "I", false)
  | 18 => ("DoorCreaksModel", "fault", "I", false)
  | 19 => ("DoorCreaksModel", "open", "I", false)
  | 20 => ("DoorCreaksModel", "pile", "[I", true)
  | 21 => ("DoorCreaksModel", "bits", "[I", true)
  | 22 => ("DoorCreaksModel", "longs", "[I", true)
  | 23 => ("DoorCreaksModel", "cells", "[J", true)
  | _ => ("DoorCreaksModel", "between", "[J", true)
def tyX6 : Nat → FieldType := fun k => match k with
  | 0 => .array .int
  | 1 => .array .int
  | 2 => .array .int
  | 3 => .boolean
  | 4 => .array .int
  | 5 => .int
  | 6 => .array .int
  | 7 => .array .int
  | 8 => .array .int
  | 9 => .int
  | 10 => .int
  | 11 => .int
  | 12 => .array .int
  | 13 => .array .int
  | 14 => .int
  | 15 => .array .int
  | 16 => .int
  | 17 => .int
  | 18 => .int
  | 19 => .int
  | 20 => .array .int
  | 21 => .array .int
  | 22 => .array .int
  | 23 => .array .long
  | _ => .array .long
abbrev wsX60 : List Cond := u_ws RX6 TX6 25
theorem nmX6 : ∀ a, a < 25 → ∀ b, b < 25 → a ≠ b → (TX6 a).2.1 ≠ (TX6 b).2.1 := by decide +kernel
theorem tyX6_ok : ∀ k, k < 25 → parseFieldDescriptor (TX6 k).2.2.1 = some (tyX6 k) := by decide +kernel
abbrev cX6_init : ByteArray := prog_8_method_1_code
def yX6_init : MethodName := ⟨RX6, "<init>", "()V"⟩
abbrev cX6_in : ByteArray := prog_8_method_2_code
def yX6_in : MethodName := ⟨RX6, "in", "(III)Z"⟩
abbrev cX6_lesser : ByteArray := prog_8_method_3_code
def yX6_lesser : MethodName := ⟨RX6, "lesser", "(II)I"⟩
abbrev cX6_greater : ByteArray := prog_8_method_4_code
def yX6_greater : MethodName := ⟨RX6, "greater", "(II)I"⟩
abbrev cX6_without : ByteArray := prog_8_method_5_code
def yX6_without : MethodName := ⟨RX6, "without", "(I)J"⟩
abbrev cX6_no : ByteArray := prog_8_method_6_code
def yX6_no : MethodName := ⟨RX6, "no", "(I)I"⟩
abbrev cX6_isBlock : ByteArray := prog_8_method_7_code
def yX6_isBlock : MethodName := ⟨RX6, "isBlock", "(I)Z"⟩
abbrev cX6_at : ByteArray := prog_8_method_8_code
def yX6_at : MethodName := ⟨RX6, "at", "(II)I"⟩
abbrev cX6_become : ByteArray := prog_8_method_9_code
def yX6_become : MethodName := ⟨RX6, "become", "(III)I"⟩
abbrev cX6_plainHolds : ByteArray := prog_8_method_10_code
def yX6_plainHolds : MethodName := ⟨RX6, "plainHolds", "(II)I"⟩
abbrev cX6_holdsOf : ByteArray := prog_8_method_11_code
def yX6_holdsOf : MethodName := ⟨RX6, "holdsOf", "(II)I"⟩
abbrev cX6_rubsOf : ByteArray := prog_8_method_12_code
def yX6_rubsOf : MethodName := ⟨RX6, "rubsOf", "(II)I"⟩
abbrev cX6_placeOf : ByteArray := prog_8_method_13_code
def yX6_placeOf : MethodName := ⟨RX6, "placeOf", "(I)I"⟩
abbrev cX6_isLast : ByteArray := prog_8_method_14_code
def yX6_isLast : MethodName := ⟨RX6, "isLast", "(I)Z"⟩
abbrev cX6_pull : ByteArray := prog_8_method_15_code
def yX6_pull : MethodName := ⟨RX6, "pull", "(I)I"⟩
abbrev cX6_springs : ByteArray := prog_8_method_16_code
def yX6_springs : MethodName := ⟨RX6, "springs", "(I)I"⟩
abbrev cX6_block : ByteArray := prog_8_method_17_code
def yX6_block : MethodName := ⟨RX6, "block", "(IIII)I"⟩
abbrev cX6_of : ByteArray := prog_8_method_18_code
def yX6_of : MethodName := ⟨RX6, "of", "(II)I"⟩
abbrev cX6_set : ByteArray := prog_8_method_19_code
def yX6_set : MethodName := ⟨RX6, "set", "(III)I"⟩
abbrev cX6_isUnder : ByteArray := prog_8_method_20_code
def yX6_isUnder : MethodName := ⟨RX6, "isUnder", "(II)Z"⟩
abbrev cX6_as : ByteArray := prog_8_method_21_code
def yX6_as : MethodName := ⟨RX6, "as", "(II)I"⟩
abbrev cX6_holds : ByteArray := prog_8_method_22_code
def yX6_holds : MethodName := ⟨RX6, "holds", "(II)I"⟩
abbrev cX6_rubs : ByteArray := prog_8_method_23_code
def yX6_rubs : MethodName := ⟨RX6, "rubs", "(II)I"⟩
abbrev cX6_push : ByteArray := prog_8_method_24_code
def yX6_push : MethodName := ⟨RX6, "push", "(II)I"⟩
abbrev cX6_oil : ByteArray := prog_8_method_25_code
def yX6_oil : MethodName := ⟨RX6, "oil", "(II)I"⟩
abbrev cX6_pace : ByteArray := prog_8_method_26_code
def yX6_pace : MethodName := ⟨RX6, "pace", "(I)I"⟩
abbrev cX6_stepsOf : ByteArray := prog_8_method_27_code
def yX6_stepsOf : MethodName := ⟨RX6, "stepsOf", "(I)I"⟩
abbrev cX6_round : ByteArray := prog_8_method_28_code
def yX6_round : MethodName := ⟨RX6, "round", "()Z"⟩
abbrev cX6_classOf : ByteArray := prog_8_method_29_code
def yX6_classOf : MethodName := ⟨RX6, "classOf", "(I)I"⟩
abbrev cX6_tick : ByteArray := prog_8_method_30_code
def yX6_tick : MethodName := ⟨RX6, "tick", "()V"⟩
abbrev cX6_books : ByteArray := prog_8_method_31_code
def yX6_books : MethodName := ⟨RX6, "books", "()V"⟩
abbrev cX6_ticks : ByteArray := prog_8_method_32_code
def yX6_ticks : MethodName := ⟨RX6, "ticks", "(I)I"⟩
abbrev cX6_until : ByteArray := prog_8_method_33_code
def yX6_until : MethodName := ⟨RX6, "until", "(II)I"⟩
abbrev cX6_book : ByteArray := prog_8_method_34_code
def yX6_book : MethodName := ⟨RX6, "book", "(II)I"⟩
abbrev cX6_counts : ByteArray := prog_8_method_35_code
def yX6_counts : MethodName := ⟨RX6, "counts", "(I)I"⟩
abbrev cX6_power : ByteArray := prog_8_method_36_code
def yX6_power : MethodName := ⟨RX6, "power", "()I"⟩
abbrev cX6_tone : ByteArray := prog_8_method_37_code
def yX6_tone : MethodName := ⟨RX6, "tone", "()I"⟩
abbrev cX6_great : ByteArray := prog_8_method_38_code
def yX6_great : MethodName := ⟨RX6, "great", "(II)I"⟩
abbrev cX6_noise : ByteArray := prog_8_method_39_code
def yX6_noise : MethodName := ⟨RX6, "noise", "(I)J"⟩
abbrev cX6_lay : ByteArray := prog_8_method_40_code
def yX6_lay : MethodName := ⟨RX6, "lay", "([I[I)V"⟩
abbrev cX6_goes : ByteArray := prog_8_method_41_code
def yX6_goes : MethodName := ⟨RX6, "goes", "(I)V"⟩
abbrev cX6_isAhead : ByteArray := prog_8_method_42_code
def yX6_isAhead : MethodName := ⟨RX6, "isAhead", "(I)Z"⟩
abbrev cX6_jumps : ByteArray := prog_8_method_43_code
def yX6_jumps : MethodName := ⟨RX6, "jumps", "(I)I"⟩
abbrev cX6_greatest : ByteArray := prog_8_method_44_code
def yX6_greatest : MethodName := ⟨RX6, "greatest", "(I)I"⟩
abbrev cX6_ahead : ByteArray := prog_8_method_45_code
def yX6_ahead : MethodName := ⟨RX6, "ahead", "(II)I"⟩
abbrev cX6_isSo : ByteArray := prog_8_method_46_code
def yX6_isSo : MethodName := ⟨RX6, "isSo", "(IIIII)Z"⟩
abbrev cX6_leastSo : ByteArray := prog_8_method_47_code
def yX6_leastSo : MethodName := ⟨RX6, "leastSo", "(IIII)I"⟩
abbrev cX6_from : ByteArray := prog_8_method_48_code
def yX6_from : MethodName := ⟨RX6, "from", "(I)I"⟩
abbrev cX6_still : ByteArray := prog_8_method_49_code
def yX6_still : MethodName := ⟨RX6, "still", "(III)I"⟩
abbrev cX6_gives : ByteArray := prog_8_method_50_code
def yX6_gives : MethodName := ⟨RX6, "gives", "(III)Z"⟩
abbrev cX6_which : ByteArray := prog_8_method_51_code
def yX6_which : MethodName := ⟨RX6, "which", "(II)I"⟩
abbrev cX6_together : ByteArray := prog_8_method_52_code
def yX6_together : MethodName := ⟨RX6, "together", "(III)I"⟩
abbrev cX6_byteAt : ByteArray := prog_8_method_53_code
def yX6_byteAt : MethodName := ⟨RX6, "byteAt", "()I"⟩
abbrev cX6_fails : ByteArray := prog_8_method_54_code
def yX6_fails : MethodName := ⟨RX6, "fails", "()V"⟩
abbrev cX6_may : ByteArray := prog_8_method_55_code
def yX6_may : MethodName := ⟨RX6, "may", "(I)Z"⟩
abbrev cX6_must : ByteArray := prog_8_method_56_code
def yX6_must : MethodName := ⟨RX6, "must", "(I)V"⟩
abbrev cX6_emit : ByteArray := prog_8_method_57_code
def yX6_emit : MethodName := ⟨RX6, "emit", "(I)V"⟩
abbrev cX6_isDigit : ByteArray := prog_8_method_58_code
def yX6_isDigit : MethodName := ⟨RX6, "isDigit", "(I)Z"⟩
abbrev cX6_nameOf : ByteArray := prog_8_method_59_code
def yX6_nameOf : MethodName := ⟨RX6, "nameOf", "(I)I"⟩
abbrev cX6_number : ByteArray := prog_8_method_60_code
def yX6_number : MethodName := ⟨RX6, "number", "()V"⟩
abbrev cX6_opens : ByteArray := prog_8_method_61_code
def yX6_opens : MethodName := ⟨RX6, "opens", "(I)Z"⟩
abbrev cX6_factor : ByteArray := prog_8_method_62_code
def yX6_factor : MethodName := ⟨RX6, "factor", "()V"⟩
abbrev cX6_term : ByteArray := prog_8_method_63_code
def yX6_term : MethodName := ⟨RX6, "term", "()V"⟩
abbrev cX6_sum : ByteArray := prog_8_method_64_code
def yX6_sum : MethodName := ⟨RX6, "sum", "()V"⟩
abbrev cX6_feed : ByteArray := prog_8_method_65_code
def yX6_feed : MethodName := ⟨RX6, "feed", "(II)I"⟩
abbrev cX6_wipe : ByteArray := prog_8_method_66_code
def yX6_wipe : MethodName := ⟨RX6, "wipe", "()I"⟩
abbrev cX6_law : ByteArray := prog_8_method_67_code
def yX6_law : MethodName := ⟨RX6, "law", "()I"⟩
abbrev cX6_plain : ByteArray := prog_8_method_68_code
def yX6_plain : MethodName := ⟨RX6, "plain", "()I"⟩
abbrev cX6_worthOf : ByteArray := prog_8_method_69_code
def yX6_worthOf : MethodName := ⟨RX6, "worthOf", "(III)I"⟩
abbrev cX6_done : ByteArray := prog_8_method_70_code
def yX6_done : MethodName := ⟨RX6, "done", "(III)I"⟩
abbrev cX6_given : ByteArray := prog_8_method_71_code
def yX6_given : MethodName := ⟨RX6, "given", "(II)I"⟩
abbrev cX6_says : ByteArray := prog_8_method_72_code
def yX6_says : MethodName := ⟨RX6, "says", "(I)I"⟩
abbrev cX6_isSheet : ByteArray := prog_8_method_73_code
def yX6_isSheet : MethodName := ⟨RX6, "isSheet", "(I)Z"⟩
abbrev cX6_longOf : ByteArray := prog_8_method_74_code
def yX6_longOf : MethodName := ⟨RX6, "longOf", "(I)I"⟩
abbrev cX6_sheet : ByteArray := prog_8_method_75_code
def yX6_sheet : MethodName := ⟨RX6, "sheet", "(III)I"⟩
abbrev cX6_write : ByteArray := prog_8_method_76_code
def yX6_write : MethodName := ⟨RX6, "write", "(IIJ)J"⟩
abbrev cX6_copy : ByteArray := prog_8_method_77_code
def yX6_copy : MethodName := ⟨RX6, "copy", "(IIIII)I"⟩
abbrev cX6_draws : ByteArray := prog_8_method_78_code
def yX6_draws : MethodName := ⟨RX6, "draws", "(I)I"⟩
abbrev cX6_read : ByteArray := prog_8_method_79_code
def yX6_read : MethodName := ⟨RX6, "read", "(I)I"⟩
abbrev cX6_image : ByteArray := prog_8_method_80_code
def yX6_image : MethodName := ⟨RX6, "image", "()I"⟩
abbrev cX6_undo : ByteArray := prog_8_method_81_code
def yX6_undo : MethodName := ⟨RX6, "undo", "()I"⟩
abbrev cX6_tear : ByteArray := prog_8_method_82_code
def yX6_tear : MethodName := ⟨RX6, "tear", "()I"⟩
abbrev cX6_count : ByteArray := prog_8_method_83_code
def yX6_count : MethodName := ⟨RX6, "count", "(I)I"⟩
abbrev cX6_status : ByteArray := prog_8_method_84_code
def yX6_status : MethodName := ⟨RX6, "status", "(I)I"⟩
def RL : String := "DoorCreaksLaw"
abbrev cL_law : ByteArray := code
def yL_law : MethodName := ⟨RL, "law", "([I)Z"⟩
abbrev vwCl : List vw_C := [(RX0, TX0, 11), (RX1, TX1, 8), (RX2, TX2, 9), (RX3, TX3, 3), (RX4, TX4, 11), (RX5, TX5, 9), (RX6, TX6, 25)]
def RJ9 : String := "java/lang/Math"
abbrev cJ9_floorMod_7cf53 : ByteArray := prog_9_method_50_code
def yJ9_floorMod_7cf53 : MethodName := ⟨RJ9, "floorMod", "(II)I"⟩
end
section
theorem dX0_init_0 : decode cX0_init 0 = .ok (.aload_n 0, 1) := by decide +kernel
theorem dX0_init_1 : decode cX0_init 1 = .ok (.invokespecial 3, 3) := by decide +kernel
theorem dX0_init_4 : decode cX0_init 4 = .ok (.return_, 1) := by decide +kernel
theorem dX0_begin_0 : decode cX0_begin 0 = .ok (.aload_n 0, 1) := by decide +kernel
theorem dX0_begin_1 : decode cX0_begin 1 = .ok (.iload_n 1, 1) := by decide +kernel
theorem dX0_begin_2 : decode cX0_begin 2 = .ok (.putfield 9, 3) := by decide +kernel
theorem dX0_begin_5 : decode cX0_begin 5 = .ok (.aload_n 0, 1) := by decide +kernel
theorem dX0_begin_6 : decode cX0_begin 6 = .ok (.iload_n 2, 1) := by decide +kernel
theorem dX0_begin_7 : decode cX0_begin 7 = .ok (.putfield 15, 3) := by decide +kernel
theorem dX0_begin_10 : decode cX0_begin 10 = .ok (.aload_n 0, 1) := by decide +kernel
theorem dX0_begin_11 : decode cX0_begin 11 = .ok (.iload_n 3, 1) := by decide +kernel
theorem dX0_begin_12 : decode cX0_begin 12 = .ok (.putfield 18, 3) := by decide +kernel
theorem dX0_begin_15 : decode cX0_begin 15 = .ok (.aload_n 0, 1) := by decide +kernel
theorem dX0_begin_16 : decode cX0_begin 16 = .ok (.iload 4, 2) := by decide +kernel
theorem dX0_begin_18 : decode cX0_begin 18 = .ok (.putfield 21, 3) := by decide +kernel
theorem dX0_begin_21 : decode cX0_begin 21 = .ok (.aload_n 0, 1) := by decide +kernel
theorem dX0_begin_22 : decode cX0_begin 22 = .ok (.iconst 0, 1) := by decide +kernel
theorem dX0_begin_23 : decode cX0_begin 23 = .ok (.putfield 24, 3) := by decide +kernel
theorem dX0_begin_26 : decode cX0_begin 26 = .ok (.aload_n 0, 1) := by decide +kernel
theorem dX0_begin_27 : decode cX0_begin 27 = .ok (.iconst 0, 1) := by decide +kernel
theorem dX0_begin_28 : decode cX0_begin 28 = .ok (.putfield 27, 3) := by decide +kernel
theorem dX0_begin_31 : decode cX0_begin 31 = .ok (.aload_n 0, 1) := by decide +kernel
theorem dX0_begin_32 : decode cX0_begin 32 = .ok (.iconst 0, 1) := by decide +kernel
theorem dX0_begin_33 : decode cX0_begin 33 = .ok (.putfield 30, 3) := by decide +kernel
theorem dX0_begin_36 : decode cX0_begin 36 = .ok (.return_, 1) := by decide +kernel
theorem dX0_copyFrom_0 : decode cX0_copyFrom 0 = .ok (.aload_n 0, 1) := by decide +kernel
theorem dX0_copyFrom_1 : decode cX0_copyFrom 1 = .ok (.aload_n 1, 1) := by decide +kernel
theorem dX0_copyFrom_2 : decode cX0_copyFrom 2 = .ok (.getfield 9, 3) := by decide +kernel
theorem dX0_copyFrom_5 : decode cX0_copyFrom 5 = .ok (.putfield 9, 3) := by decide +kernel
theorem dX0_copyFrom_8 : decode cX0_copyFrom 8 = .ok (.aload_n 0, 1) := by decide +kernel
theorem dX0_copyFrom_9 : decode cX0_copyFrom 9 = .ok (.aload_n 1, 1) := by decide +kernel
theorem dX0_copyFrom_10 : decode cX0_copyFrom 10 = .ok (.getfield 15, 3) := by decide +kernel
theorem dX0_copyFrom_13 : decode cX0_copyFrom 13 = .ok (.putfield 15, 3) := by decide +kernel
theorem dX0_copyFrom_16 : decode cX0_copyFrom 16 = .ok (.aload_n 0, 1) := by decide +kernel
theorem dX0_copyFrom_17 : decode cX0_copyFrom 17 = .ok (.aload_n 1, 1) := by decide +kernel
theorem dX0_copyFrom_18 : decode cX0_copyFrom 18 = .ok (.getfield 18, 3) := by decide +kernel
theorem dX0_copyFrom_21 : decode cX0_copyFrom 21 = .ok (.putfield 18, 3) := by decide +kernel
theorem dX0_copyFrom_24 : decode cX0_copyFrom 24 = .ok (.aload_n 0, 1) := by decide +kernel
theorem dX0_copyFrom_25 : decode cX0_copyFrom 25 = .ok (.aload_n 1, 1) := by decide +kernel
theorem dX0_copyFrom_26 : decode cX0_copyFrom 26 = .ok (.getfield 21, 3) := by decide +kernel
theorem dX0_copyFrom_29 : decode cX0_copyFrom 29 = .ok (.putfield 21, 3) := by decide +kernel
theorem dX0_copyFrom_32 : decode cX0_copyFrom 32 = .ok (.aload_n 0, 1) := by decide +kernel
theorem dX0_copyFrom_33 : decode cX0_copyFrom 33 = .ok (.aload_n 1, 1) := by decide +kernel
theorem dX0_copyFrom_34 : decode cX0_copyFrom 34 = .ok (.getfield 24, 3) := by decide +kernel
theorem dX0_copyFrom_37 : decode cX0_copyFrom 37 = .ok (.putfield 24, 3) := by decide +kernel
theorem dX0_copyFrom_40 : decode cX0_copyFrom 40 = .ok (.aload_n 0, 1) := by decide +kernel
theorem dX0_copyFrom_41 : decode cX0_copyFrom 41 = .ok (.aload_n 1, 1) := by decide +kernel
theorem dX0_copyFrom_42 : decode cX0_copyFrom 42 = .ok (.getfield 27, 3) := by decide +kernel
theorem dX0_copyFrom_45 : decode cX0_copyFrom 45 = .ok (.putfield 27, 3) := by decide +kernel
theorem dX0_copyFrom_48 : decode cX0_copyFrom 48 = .ok (.aload_n 0, 1) := by decide +kernel
theorem dX0_copyFrom_49 : decode cX0_copyFrom 49 = .ok (.aload_n 1, 1) := by decide +kernel
theorem dX0_copyFrom_50 : decode cX0_copyFrom 50 = .ok (.getfield 30, 3) := by decide +kernel
theorem dX0_copyFrom_53 : decode cX0_copyFrom 53 = .ok (.putfield 30, 3) := by decide +kernel
theorem dX0_copyFrom_56 : decode cX0_copyFrom 56 = .ok (.return_, 1) := by decide +kernel
theorem dX0_plainHolds_0 : decode cX0_plainHolds 0 = .ok (.aload_n 0, 1) := by decide +kernel
theorem dX0_plainHolds_1 : decode cX0_plainHolds 1 = .ok (.getfield 15, 3) := by decide +kernel
theorem dX0_plainHolds_4 : decode cX0_plainHolds 4 = .ok (.bipush 50, 2) := by decide +kernel
theorem dX0_plainHolds_6 : decode cX0_plainHolds 6 = .ok (.iload_n 1, 1) := by decide +kernel
theorem dX0_plainHolds_7 : decode cX0_plainHolds 7 = .ok (.iconst 4, 1) := by decide +kernel
theorem dX0_plainHolds_8 : decode cX0_plainHolds 8 = .ok (.idiv, 1) := by decide +kernel
theorem dX0_plainHolds_9 : decode cX0_plainHolds 9 = .ok (.invokestatic 33, 3) := by decide +kernel
theorem dX0_plainHolds_12 : decode cX0_plainHolds 12 = .ok (.iadd, 1) := by decide +kernel
theorem dX0_plainHolds_13 : decode cX0_plainHolds 13 = .ok (.ireturn, 1) := by decide +kernel
theorem dX0_rustyHolds_0 : decode cX0_rustyHolds 0 = .ok (.aload_n 0, 1) := by decide +kernel
theorem dX0_rustyHolds_1 : decode cX0_rustyHolds 1 = .ok (.iload_n 1, 1) := by decide +kernel
theorem dX0_rustyHolds_2 : decode cX0_rustyHolds 2 = .ok (.invokevirtual 39, 3) := by decide +kernel
theorem dX0_rustyHolds_5 : decode cX0_rustyHolds 5 = .ok (.iload_n 1, 1) := by decide +kernel
theorem dX0_rustyHolds_6 : decode cX0_rustyHolds 6 = .ok (.iadd, 1) := by decide +kernel
theorem dX0_rustyHolds_7 : decode cX0_rustyHolds 7 = .ok (.ireturn, 1) := by decide +kernel
theorem dX0_oiledHolds_0 : decode cX0_oiledHolds 0 = .ok (.iconst 0, 1) := by decide +kernel
theorem dX0_oiledHolds_1 : decode cX0_oiledHolds 1 = .ok (.aload_n 0, 1) := by decide +kernel
theorem dX0_oiledHolds_2 : decode cX0_oiledHolds 2 = .ok (.iload_n 1, 1) := by decide +kernel
theorem dX0_oiledHolds_3 : decode cX0_oiledHolds 3 = .ok (.invokevirtual 39, 3) := by decide +kernel
theorem dX0_oiledHolds_6 : decode cX0_oiledHolds 6 = .ok (.iconst 2, 1) := by decide +kernel
theorem dX0_oiledHolds_7 : decode cX0_oiledHolds 7 = .ok (.idiv, 1) := by decide +kernel
theorem dX0_oiledHolds_8 : decode cX0_oiledHolds 8 = .ok (.aload_n 0, 1) := by decide +kernel
theorem dX0_oiledHolds_9 : decode cX0_oiledHolds 9 = .ok (.getfield 24, 3) := by decide +kernel
theorem dX0_oiledHolds_12 : decode cX0_oiledHolds 12 = .ok (.isub, 1) := by decide +kernel
theorem dX0_oiledHolds_13 : decode cX0_oiledHolds 13 = .ok (.invokestatic 43, 3) := by decide +kernel
theorem dX0_oiledHolds_16 : decode cX0_oiledHolds 16 = .ok (.ireturn, 1) := by decide +kernel
theorem dX0_rubsBy_0 : decode cX0_rubsBy 0 = .ok (.aload_n 0, 1) := by decide +kernel
theorem dX0_rubsBy_1 : decode cX0_rubsBy 1 = .ok (.getfield 9, 3) := by decide +kernel
theorem dX0_rubsBy_4 : decode cX0_rubsBy 4 = .ok (.tableswitch 56 1 5 #[36, 41, 56, 36, 41], 36) := by decide +kernel
theorem dX0_rubsBy_40 : decode cX0_rubsBy 40 = .ok (.aload_n 0, 1) := by decide +kernel
theorem dX0_rubsBy_41 : decode cX0_rubsBy 41 = .ok (.getfield 18, 3) := by decide +kernel
theorem dX0_rubsBy_44 : decode cX0_rubsBy 44 = .ok (.ireturn, 1) := by decide +kernel
theorem dX0_rubsBy_45 : decode cX0_rubsBy 45 = .ok (.sipush 999, 3) := by decide +kernel
theorem dX0_rubsBy_48 : decode cX0_rubsBy 48 = .ok (.aload_n 0, 1) := by decide +kernel
theorem dX0_rubsBy_49 : decode cX0_rubsBy 49 = .ok (.getfield 18, 3) := by decide +kernel
theorem dX0_rubsBy_52 : decode cX0_rubsBy 52 = .ok (.iconst 2, 1) := by decide +kernel
theorem dX0_rubsBy_53 : decode cX0_rubsBy 53 = .ok (.idiv, 1) := by decide +kernel
theorem dX0_rubsBy_54 : decode cX0_rubsBy 54 = .ok (.iload_n 1, 1) := by decide +kernel
theorem dX0_rubsBy_55 : decode cX0_rubsBy 55 = .ok (.iadd, 1) := by decide +kernel
theorem dX0_rubsBy_56 : decode cX0_rubsBy 56 = .ok (.invokestatic 33, 3) := by decide +kernel
theorem dX0_rubsBy_59 : decode cX0_rubsBy 59 = .ok (.ireturn, 1) := by decide +kernel
theorem dX0_rubsBy_60 : decode cX0_rubsBy 60 = .ok (.iconst 0, 1) := by decide +kernel
theorem dX0_rubsBy_61 : decode cX0_rubsBy 61 = .ok (.aload_n 0, 1) := by decide +kernel
theorem dX0_rubsBy_62 : decode cX0_rubsBy 62 = .ok (.getfield 18, 3) := by decide +kernel
theorem dX0_rubsBy_65 : decode cX0_rubsBy 65 = .ok (.iload_n 1, 1) := by decide +kernel
theorem dX0_rubsBy_66 : decode cX0_rubsBy 66 = .ok (.isub, 1) := by decide +kernel
theorem dX0_rubsBy_67 : decode cX0_rubsBy 67 = .ok (.invokestatic 43, 3) := by decide +kernel
theorem dX0_rubsBy_70 : decode cX0_rubsBy 70 = .ok (.ireturn, 1) := by decide +kernel
theorem dX0_startTick_0 : decode cX0_startTick 0 = .ok (.aload_n 0, 1) := by decide +kernel
theorem dX0_startTick_1 : decode cX0_startTick 1 = .ok (.iload_n 1, 1) := by decide +kernel
theorem dX0_startTick_2 : decode cX0_startTick 2 = .ok (.putfield 46, 3) := by decide +kernel
theorem dX0_startTick_5 : decode cX0_startTick 5 = .ok (.aload_n 0, 1) := by decide +kernel
theorem dX0_startTick_6 : decode cX0_startTick 6 = .ok (.iconst 0, 1) := by decide +kernel
theorem dX0_startTick_7 : decode cX0_startTick 7 = .ok (.putfield 49, 3) := by decide +kernel
theorem dX0_startTick_10 : decode cX0_startTick 10 = .ok (.aload_n 0, 1) := by decide +kernel
theorem dX0_startTick_11 : decode cX0_startTick 11 = .ok (.iconst 0, 1) := by decide +kernel
theorem dX0_startTick_12 : decode cX0_startTick 12 = .ok (.putfield 52, 3) := by decide +kernel
theorem dX0_startTick_15 : decode cX0_startTick 15 = .ok (.return_, 1) := by decide +kernel
theorem dX0_move_0 : decode cX0_move 0 = .ok (.aload_n 0, 1) := by decide +kernel
theorem dX0_move_1 : decode cX0_move 1 = .ok (.getfield 56, 3) := by decide +kernel
theorem dX0_move_4 : decode cX0_move 4 = .ok (.i2l, 1) := by decide +kernel
theorem dX0_move_5 : decode cX0_move 5 = .ok (.invokestatic 59, 3) := by decide +kernel
theorem dX0_move_8 : decode cX0_move 8 = .ok (.lstore_n 2, 1) := by decide +kernel
theorem dX0_move_9 : decode cX0_move 9 = .ok (.aload_n 0, 1) := by decide +kernel
theorem dX0_move_10 : decode cX0_move 10 = .ok (.aload_n 0, 1) := by decide +kernel
theorem dX0_move_11 : decode cX0_move 11 = .ok (.getfield 49, 3) := by decide +kernel
theorem dX0_move_14 : decode cX0_move 14 = .ok (.invokevirtual 63, 3) := by decide +kernel
theorem dX0_move_17 : decode cX0_move 17 = .ok (.istore 4, 2) := by decide +kernel
theorem dX0_move_19 : decode cX0_move 19 = .ok (.lload_n 2, 1) := by decide +kernel
theorem dX0_move_20 : decode cX0_move 20 = .ok (.aload_n 0, 1) := by decide +kernel
theorem dX0_move_21 : decode cX0_move 21 = .ok (.getfield 52, 3) := by decide +kernel
theorem dX0_move_24 : decode cX0_move 24 = .ok (.ifCond .eq 8, 3) := by decide +kernel
theorem dX0_move_27 : decode cX0_move 27 = .ok (.iload 4, 2) := by decide +kernel
theorem dX0_move_29 : decode cX0_move 29 = .ok (.goto 7, 3) := by decide +kernel
theorem dX0_move_32 : decode cX0_move 32 = .ok (.aload_n 0, 1) := by decide +kernel
theorem dX0_move_33 : decode cX0_move 33 = .ok (.getfield 46, 3) := by decide +kernel
theorem dX0_move_36 : decode cX0_move 36 = .ok (.i2l, 1) := by decide +kernel
theorem dX0_move_37 : decode cX0_move 37 = .ok (.lcmp, 1) := by decide +kernel
theorem dX0_move_38 : decode cX0_move 38 = .ok (.ifCond .gt 9, 3) := by decide +kernel
theorem dX0_move_41 : decode cX0_move 41 = .ok (.aload_n 0, 1) := by decide +kernel
theorem dX0_move_42 : decode cX0_move 42 = .ok (.iconst 0, 1) := by decide +kernel
theorem dX0_move_43 : decode cX0_move 43 = .ok (.putfield 49, 3) := by decide +kernel
theorem dX0_move_46 : decode cX0_move 46 = .ok (.return_, 1) := by decide +kernel
theorem dX0_move_47 : decode cX0_move 47 = .ok (.lload_n 2, 1) := by decide +kernel
theorem dX0_move_48 : decode cX0_move 48 = .ok (.iload 4, 2) := by decide +kernel
theorem dX0_move_50 : decode cX0_move 50 = .ok (.i2l, 1) := by decide +kernel
theorem dX0_move_51 : decode cX0_move 51 = .ok (.lsub, 1) := by decide +kernel
theorem dX0_move_52 : decode cX0_move 52 = .ok (.iconst 1, 1) := by decide +kernel
theorem dX0_move_53 : decode cX0_move 53 = .ok (.iload_n 1, 1) := by decide +kernel
theorem dX0_move_54 : decode cX0_move 54 = .ok (.invokestatic 43, 3) := by decide +kernel
theorem dX0_move_57 : decode cX0_move 57 = .ok (.i2l, 1) := by decide +kernel
theorem dX0_move_58 : decode cX0_move 58 = .ok (.ldiv, 1) := by decide +kernel
theorem dX0_move_59 : decode cX0_move 59 = .ok (.lstore 5, 2) := by decide +kernel
theorem dX0_move_61 : decode cX0_move 61 = .ok (.aload_n 0, 1) := by decide +kernel
theorem dX0_move_62 : decode cX0_move 62 = .ok (.lconst 1, 1) := by decide +kernel
theorem dX0_move_63 : decode cX0_move 63 = .ok (.ldc2_w 66, 3) := by decide +kernel
theorem dX0_move_66 : decode cX0_move 66 = .ok (.lload 5, 2) := by decide +kernel
theorem dX0_move_68 : decode cX0_move 68 = .ok (.invokestatic 68, 3) := by decide +kernel
theorem dX0_move_71 : decode cX0_move 71 = .ok (.invokestatic 71, 3) := by decide +kernel
theorem dX0_move_74 : decode cX0_move 74 = .ok (.l2i, 1) := by decide +kernel
theorem dX0_move_75 : decode cX0_move 75 = .ok (.putfield 49, 3) := by decide +kernel
theorem dX0_move_78 : decode cX0_move 78 = .ok (.aload_n 0, 1) := by decide +kernel
theorem dX0_move_79 : decode cX0_move 79 = .ok (.dup, 1) := by decide +kernel
theorem dX0_move_80 : decode cX0_move 80 = .ok (.getfield 27, 3) := by decide +kernel
theorem dX0_move_83 : decode cX0_move 83 = .ok (.aload_n 0, 1) := by decide +kernel
theorem dX0_move_84 : decode cX0_move 84 = .ok (.getfield 56, 3) := by decide +kernel
theorem dX0_move_87 : decode cX0_move 87 = .ok (.ifCond .le 10, 3) := by decide +kernel
theorem dX0_move_90 : decode cX0_move 90 = .ok (.aload_n 0, 1) := by decide +kernel
theorem dX0_move_91 : decode cX0_move 91 = .ok (.getfield 49, 3) := by decide +kernel
theorem dX0_move_94 : decode cX0_move 94 = .ok (.goto 8, 3) := by decide +kernel
theorem dX0_move_97 : decode cX0_move 97 = .ok (.aload_n 0, 1) := by decide +kernel
theorem dX0_move_98 : decode cX0_move 98 = .ok (.getfield 49, 3) := by decide +kernel
theorem dX0_move_101 : decode cX0_move 101 = .ok (.ineg, 1) := by decide +kernel
theorem dX0_move_102 : decode cX0_move 102 = .ok (.iadd, 1) := by decide +kernel
theorem dX0_move_103 : decode cX0_move 103 = .ok (.putfield 27, 3) := by decide +kernel
theorem dX0_move_106 : decode cX0_move 106 = .ok (.aload_n 0, 1) := by decide +kernel
theorem dX0_move_107 : decode cX0_move 107 = .ok (.iconst 1, 1) := by decide +kernel
theorem dX0_move_108 : decode cX0_move 108 = .ok (.putfield 52, 3) := by decide +kernel
theorem dX0_move_111 : decode cX0_move 111 = .ok (.return_, 1) := by decide +kernel
theorem dX0_endTick_0 : decode cX0_endTick 0 = .ok (.aload_n 0, 1) := by decide +kernel
theorem dX0_endTick_1 : decode cX0_endTick 1 = .ok (.getfield 52, 3) := by decide +kernel
theorem dX0_endTick_4 : decode cX0_endTick 4 = .ok (.ifCond .eq 25, 3) := by decide +kernel
theorem dX0_endTick_7 : decode cX0_endTick 7 = .ok (.aload_n 0, 1) := by decide +kernel
theorem dX0_endTick_8 : decode cX0_endTick 8 = .ok (.iconst 0, 1) := by decide +kernel
theorem dX0_endTick_9 : decode cX0_endTick 9 = .ok (.putfield 30, 3) := by decide +kernel
theorem dX0_endTick_12 : decode cX0_endTick 12 = .ok (.aload_n 0, 1) := by decide +kernel
theorem dX0_endTick_13 : decode cX0_endTick 13 = .ok (.iconst 0, 1) := by decide +kernel
theorem dX0_endTick_14 : decode cX0_endTick 14 = .ok (.aload_n 0, 1) := by decide +kernel
theorem dX0_endTick_15 : decode cX0_endTick 15 = .ok (.getfield 24, 3) := by decide +kernel
theorem dX0_endTick_18 : decode cX0_endTick 18 = .ok (.iconst 1, 1) := by decide +kernel
theorem dX0_endTick_19 : decode cX0_endTick 19 = .ok (.isub, 1) := by decide +kernel
theorem dX0_endTick_20 : decode cX0_endTick 20 = .ok (.invokestatic 43, 3) := by decide +kernel
theorem dX0_endTick_23 : decode cX0_endTick 23 = .ok (.putfield 24, 3) := by decide +kernel
theorem dX0_endTick_26 : decode cX0_endTick 26 = .ok (.goto 19, 3) := by decide +kernel
theorem dX0_endTick_29 : decode cX0_endTick 29 = .ok (.aload_n 0, 1) := by decide +kernel
theorem dX0_endTick_30 : decode cX0_endTick 30 = .ok (.sipush 999, 3) := by decide +kernel
theorem dX0_endTick_33 : decode cX0_endTick 33 = .ok (.aload_n 0, 1) := by decide +kernel
theorem dX0_endTick_34 : decode cX0_endTick 34 = .ok (.getfield 30, 3) := by decide +kernel
theorem dX0_endTick_37 : decode cX0_endTick 37 = .ok (.iconst 1, 1) := by decide +kernel
theorem dX0_endTick_38 : decode cX0_endTick 38 = .ok (.iadd, 1) := by decide +kernel
theorem dX0_endTick_39 : decode cX0_endTick 39 = .ok (.invokestatic 33, 3) := by decide +kernel
theorem dX0_endTick_42 : decode cX0_endTick 42 = .ok (.putfield 30, 3) := by decide +kernel
theorem dX0_endTick_45 : decode cX0_endTick 45 = .ok (.return_, 1) := by decide +kernel
theorem dX1_init_0 : decode cX1_init 0 = .ok (.aload_n 0, 1) := by decide +kernel
theorem dX1_init_1 : decode cX1_init 1 = .ok (.invokespecial 3, 3) := by decide +kernel
theorem dX1_init_4 : decode cX1_init 4 = .ok (.aload_n 0, 1) := by decide +kernel
theorem dX1_init_5 : decode cX1_init 5 = .ok (.bipush 100, 2) := by decide +kernel
theorem dX1_init_7 : decode cX1_init 7 = .ok (.newarray .int, 2) := by decide +kernel
theorem dX1_init_9 : decode cX1_init 9 = .ok (.putfield 9, 3) := by decide +kernel
theorem dX1_init_12 : decode cX1_init 12 = .ok (.aload_n 0, 1) := by decide +kernel
theorem dX1_init_13 : decode cX1_init 13 = .ok (.bipush 100, 2) := by decide +kernel
theorem dX1_init_15 : decode cX1_init 15 = .ok (.newarray .int, 2) := by decide +kernel
theorem dX1_init_17 : decode cX1_init 17 = .ok (.putfield 15, 3) := by decide +kernel
theorem dX1_init_20 : decode cX1_init 20 = .ok (.aload_n 0, 1) := by decide +kernel
theorem dX1_init_21 : decode cX1_init 21 = .ok (.bipush 100, 2) := by decide +kernel
theorem dX1_init_23 : decode cX1_init 23 = .ok (.newarray .int, 2) := by decide +kernel
theorem dX1_init_25 : decode cX1_init 25 = .ok (.putfield 18, 3) := by decide +kernel
theorem dX1_init_28 : decode cX1_init 28 = .ok (.aload_n 0, 1) := by decide +kernel
theorem dX1_init_29 : decode cX1_init 29 = .ok (.bipush 7, 2) := by decide +kernel
theorem dX1_init_31 : decode cX1_init 31 = .ok (.newarray .int, 2) := by decide +kernel
theorem dX1_init_33 : decode cX1_init 33 = .ok (.putfield 21, 3) := by decide +kernel
theorem dX1_init_36 : decode cX1_init 36 = .ok (.aload_n 0, 1) := by decide +kernel
theorem dX1_init_37 : decode cX1_init 37 = .ok (.iconst 0, 1) := by decide +kernel
theorem dX1_init_38 : decode cX1_init 38 = .ok (.putfield 24, 3) := by decide +kernel
theorem dX1_init_41 : decode cX1_init 41 = .ok (.aload_n 0, 1) := by decide +kernel
theorem dX1_init_42 : decode cX1_init 42 = .ok (.iconst 0, 1) := by decide +kernel
theorem dX1_init_43 : decode cX1_init 43 = .ok (.putfield 28, 3) := by decide +kernel
theorem dX1_init_46 : decode cX1_init 46 = .ok (.aload_n 0, 1) := by decide +kernel
theorem dX1_init_47 : decode cX1_init 47 = .ok (.iconst 0, 1) := by decide +kernel
theorem dX1_init_48 : decode cX1_init 48 = .ok (.putfield 31, 3) := by decide +kernel
theorem dX1_init_51 : decode cX1_init 51 = .ok (.aload_n 0, 1) := by decide +kernel
theorem dX1_init_52 : decode cX1_init 52 = .ok (.iconst 0, 1) := by decide +kernel
theorem dX1_init_53 : decode cX1_init 53 = .ok (.putfield 34, 3) := by decide +kernel
theorem dX1_init_56 : decode cX1_init 56 = .ok (.return_, 1) := by decide +kernel
theorem dX1_copyFrom_0 : decode cX1_copyFrom 0 = .ok (.aload_n 1, 1) := by decide +kernel
theorem dX1_copyFrom_1 : decode cX1_copyFrom 1 = .ok (.getfield 9, 3) := by decide +kernel
theorem dX1_copyFrom_4 : decode cX1_copyFrom 4 = .ok (.iconst 0, 1) := by decide +kernel
theorem dX1_copyFrom_5 : decode cX1_copyFrom 5 = .ok (.aload_n 0, 1) := by decide +kernel
theorem dX1_copyFrom_6 : decode cX1_copyFrom 6 = .ok (.getfield 9, 3) := by decide +kernel
theorem dX1_copyFrom_9 : decode cX1_copyFrom 9 = .ok (.iconst 0, 1) := by decide +kernel
theorem dX1_copyFrom_10 : decode cX1_copyFrom 10 = .ok (.bipush 100, 2) := by decide +kernel
theorem dX1_copyFrom_12 : decode cX1_copyFrom 12 = .ok (.invokestatic 37, 3) := by decide +kernel
theorem dX1_copyFrom_15 : decode cX1_copyFrom 15 = .ok (.aload_n 1, 1) := by decide +kernel
theorem dX1_copyFrom_16 : decode cX1_copyFrom 16 = .ok (.getfield 15, 3) := by decide +kernel
theorem dX1_copyFrom_19 : decode cX1_copyFrom 19 = .ok (.iconst 0, 1) := by decide +kernel
theorem dX1_copyFrom_20 : decode cX1_copyFrom 20 = .ok (.aload_n 0, 1) := by decide +kernel
theorem dX1_copyFrom_21 : decode cX1_copyFrom 21 = .ok (.getfield 15, 3) := by decide +kernel
theorem dX1_copyFrom_24 : decode cX1_copyFrom 24 = .ok (.iconst 0, 1) := by decide +kernel
theorem dX1_copyFrom_25 : decode cX1_copyFrom 25 = .ok (.bipush 100, 2) := by decide +kernel
theorem dX1_copyFrom_27 : decode cX1_copyFrom 27 = .ok (.invokestatic 37, 3) := by decide +kernel
theorem dX1_copyFrom_30 : decode cX1_copyFrom 30 = .ok (.aload_n 1, 1) := by decide +kernel
theorem dX1_copyFrom_31 : decode cX1_copyFrom 31 = .ok (.getfield 18, 3) := by decide +kernel
theorem dX1_copyFrom_34 : decode cX1_copyFrom 34 = .ok (.iconst 0, 1) := by decide +kernel
theorem dX1_copyFrom_35 : decode cX1_copyFrom 35 = .ok (.aload_n 0, 1) := by decide +kernel
theorem dX1_copyFrom_36 : decode cX1_copyFrom 36 = .ok (.getfield 18, 3) := by decide +kernel
theorem dX1_copyFrom_39 : decode cX1_copyFrom 39 = .ok (.iconst 0, 1) := by decide +kernel
theorem dX1_copyFrom_40 : decode cX1_copyFrom 40 = .ok (.bipush 100, 2) := by decide +kernel
theorem dX1_copyFrom_42 : decode cX1_copyFrom 42 = .ok (.invokestatic 37, 3) := by decide +kernel
theorem dX1_copyFrom_45 : decode cX1_copyFrom 45 = .ok (.aload_n 1, 1) := by decide +kernel
theorem dX1_copyFrom_46 : decode cX1_copyFrom 46 = .ok (.getfield 21, 3) := by decide +kernel
theorem dX1_copyFrom_49 : decode cX1_copyFrom 49 = .ok (.iconst 0, 1) := by decide +kernel
theorem dX1_copyFrom_50 : decode cX1_copyFrom 50 = .ok (.aload_n 0, 1) := by decide +kernel
theorem dX1_copyFrom_51 : decode cX1_copyFrom 51 = .ok (.getfield 21, 3) := by decide +kernel
theorem dX1_copyFrom_54 : decode cX1_copyFrom 54 = .ok (.iconst 0, 1) := by decide +kernel
theorem dX1_copyFrom_55 : decode cX1_copyFrom 55 = .ok (.bipush 7, 2) := by decide +kernel
theorem dX1_copyFrom_57 : decode cX1_copyFrom 57 = .ok (.invokestatic 37, 3) := by decide +kernel
theorem dX1_copyFrom_60 : decode cX1_copyFrom 60 = .ok (.aload_n 0, 1) := by decide +kernel
theorem dX1_copyFrom_61 : decode cX1_copyFrom 61 = .ok (.aload_n 1, 1) := by decide +kernel
theorem dX1_copyFrom_62 : decode cX1_copyFrom 62 = .ok (.getfield 24, 3) := by decide +kernel
theorem dX1_copyFrom_65 : decode cX1_copyFrom 65 = .ok (.putfield 24, 3) := by decide +kernel
theorem dX1_copyFrom_68 : decode cX1_copyFrom 68 = .ok (.aload_n 0, 1) := by decide +kernel
theorem dX1_copyFrom_69 : decode cX1_copyFrom 69 = .ok (.aload_n 1, 1) := by decide +kernel
theorem dX1_copyFrom_70 : decode cX1_copyFrom 70 = .ok (.getfield 28, 3) := by decide +kernel
theorem dX1_copyFrom_73 : decode cX1_copyFrom 73 = .ok (.putfield 28, 3) := by decide +kernel
theorem dX1_copyFrom_76 : decode cX1_copyFrom 76 = .ok (.aload_n 0, 1) := by decide +kernel
theorem dX1_copyFrom_77 : decode cX1_copyFrom 77 = .ok (.aload_n 1, 1) := by decide +kernel
theorem dX1_copyFrom_78 : decode cX1_copyFrom 78 = .ok (.getfield 31, 3) := by decide +kernel
theorem dX1_copyFrom_81 : decode cX1_copyFrom 81 = .ok (.putfield 31, 3) := by decide +kernel
theorem dX1_copyFrom_84 : decode cX1_copyFrom 84 = .ok (.aload_n 0, 1) := by decide +kernel
theorem dX1_copyFrom_85 : decode cX1_copyFrom 85 = .ok (.aload_n 1, 1) := by decide +kernel
theorem dX1_copyFrom_86 : decode cX1_copyFrom 86 = .ok (.getfield 34, 3) := by decide +kernel
theorem dX1_copyFrom_89 : decode cX1_copyFrom 89 = .ok (.putfield 34, 3) := by decide +kernel
theorem dX1_copyFrom_92 : decode cX1_copyFrom 92 = .ok (.return_, 1) := by decide +kernel
theorem dX1_slot_0 : decode cX1_slot 0 = .ok (.aload_n 0, 1) := by decide +kernel
theorem dX1_slot_1 : decode cX1_slot 1 = .ok (.getfield 28, 3) := by decide +kernel
theorem dX1_slot_4 : decode cX1_slot 4 = .ok (.iconst 1, 1) := by decide +kernel
theorem dX1_slot_5 : decode cX1_slot 5 = .ok (.isub, 1) := by decide +kernel
theorem dX1_slot_6 : decode cX1_slot 6 = .ok (.iload_n 1, 1) := by decide +kernel
theorem dX1_slot_7 : decode cX1_slot 7 = .ok (.isub, 1) := by decide +kernel
theorem dX1_slot_8 : decode cX1_slot 8 = .ok (.bipush 100, 2) := by decide +kernel
theorem dX1_slot_10 : decode cX1_slot 10 = .ok (.invokestatic 43, 3) := by decide +kernel
theorem dX1_slot_13 : decode cX1_slot 13 = .ok (.ireturn, 1) := by decide +kernel
theorem dX1_enter_0 : decode cX1_enter 0 = .ok (.aload_n 0, 1) := by decide +kernel
theorem dX1_enter_1 : decode cX1_enter 1 = .ok (.getfield 9, 3) := by decide +kernel
theorem dX1_enter_4 : decode cX1_enter 4 = .ok (.aload_n 0, 1) := by decide +kernel
theorem dX1_enter_5 : decode cX1_enter 5 = .ok (.getfield 28, 3) := by decide +kernel
theorem dX1_enter_8 : decode cX1_enter 8 = .ok (.aload_n 1, 1) := by decide +kernel
theorem dX1_enter_9 : decode cX1_enter 9 = .ok (.getfield 49, 3) := by decide +kernel
theorem dX1_enter_12 : decode cX1_enter 12 = .ok (.iastore, 1) := by decide +kernel
theorem dX1_enter_13 : decode cX1_enter 13 = .ok (.aload_n 0, 1) := by decide +kernel
theorem dX1_enter_14 : decode cX1_enter 14 = .ok (.getfield 15, 3) := by decide +kernel
theorem dX1_enter_17 : decode cX1_enter 17 = .ok (.aload_n 0, 1) := by decide +kernel
theorem dX1_enter_18 : decode cX1_enter 18 = .ok (.getfield 28, 3) := by decide +kernel
theorem dX1_enter_21 : decode cX1_enter 21 = .ok (.aload_n 1, 1) := by decide +kernel
theorem dX1_enter_22 : decode cX1_enter 22 = .ok (.getfield 54, 3) := by decide +kernel
theorem dX1_enter_25 : decode cX1_enter 25 = .ok (.iastore, 1) := by decide +kernel
theorem dX1_enter_26 : decode cX1_enter 26 = .ok (.aload_n 0, 1) := by decide +kernel
theorem dX1_enter_27 : decode cX1_enter 27 = .ok (.getfield 18, 3) := by decide +kernel
theorem dX1_enter_30 : decode cX1_enter 30 = .ok (.aload_n 0, 1) := by decide +kernel
theorem dX1_enter_31 : decode cX1_enter 31 = .ok (.getfield 28, 3) := by decide +kernel
theorem dX1_enter_34 : decode cX1_enter 34 = .ok (.aload_n 1, 1) := by decide +kernel
theorem dX1_enter_35 : decode cX1_enter 35 = .ok (.getfield 57, 3) := by decide +kernel
theorem dX1_enter_38 : decode cX1_enter 38 = .ok (.iastore, 1) := by decide +kernel
theorem dX1_enter_39 : decode cX1_enter 39 = .ok (.aload_n 0, 1) := by decide +kernel
theorem dX1_enter_40 : decode cX1_enter 40 = .ok (.aload_n 0, 1) := by decide +kernel
theorem dX1_enter_41 : decode cX1_enter 41 = .ok (.getfield 28, 3) := by decide +kernel
theorem dX1_enter_44 : decode cX1_enter 44 = .ok (.iconst 1, 1) := by decide +kernel
theorem dX1_enter_45 : decode cX1_enter 45 = .ok (.iadd, 1) := by decide +kernel
theorem dX1_enter_46 : decode cX1_enter 46 = .ok (.bipush 100, 2) := by decide +kernel
theorem dX1_enter_48 : decode cX1_enter 48 = .ok (.irem, 1) := by decide +kernel
theorem dX1_enter_49 : decode cX1_enter 49 = .ok (.putfield 28, 3) := by decide +kernel
theorem dX1_enter_52 : decode cX1_enter 52 = .ok (.aload_n 0, 1) := by decide +kernel
theorem dX1_enter_53 : decode cX1_enter 53 = .ok (.bipush 100, 2) := by decide +kernel
theorem dX1_enter_55 : decode cX1_enter 55 = .ok (.aload_n 0, 1) := by decide +kernel
theorem dX1_enter_56 : decode cX1_enter 56 = .ok (.getfield 24, 3) := by decide +kernel
theorem dX1_enter_59 : decode cX1_enter 59 = .ok (.iconst 1, 1) := by decide +kernel
theorem dX1_enter_60 : decode cX1_enter 60 = .ok (.iadd, 1) := by decide +kernel
theorem dX1_enter_61 : decode cX1_enter 61 = .ok (.invokestatic 60, 3) := by decide +kernel
theorem dX1_enter_64 : decode cX1_enter 64 = .ok (.putfield 24, 3) := by decide +kernel
theorem dX1_enter_67 : decode cX1_enter 67 = .ok (.aload_n 0, 1) := by decide +kernel
theorem dX1_enter_68 : decode cX1_enter 68 = .ok (.getfield 21, 3) := by decide +kernel
theorem dX1_enter_71 : decode cX1_enter 71 = .ok (.aload_n 1, 1) := by decide +kernel
theorem dX1_enter_72 : decode cX1_enter 72 = .ok (.getfield 49, 3) := by decide +kernel
theorem dX1_enter_75 : decode cX1_enter 75 = .ok (.invokestatic 63, 3) := by decide +kernel
theorem dX1_enter_78 : decode cX1_enter 78 = .ok (.dup2, 1) := by decide +kernel
theorem dX1_enter_79 : decode cX1_enter 79 = .ok (.iaload, 1) := by decide +kernel
theorem dX1_enter_80 : decode cX1_enter 80 = .ok (.iconst 1, 1) := by decide +kernel
theorem dX1_enter_81 : decode cX1_enter 81 = .ok (.iadd, 1) := by decide +kernel
theorem dX1_enter_82 : decode cX1_enter 82 = .ok (.iastore, 1) := by decide +kernel
theorem dX1_enter_83 : decode cX1_enter 83 = .ok (.aload_n 0, 1) := by decide +kernel
theorem dX1_enter_84 : decode cX1_enter 84 = .ok (.dup, 1) := by decide +kernel
theorem dX1_enter_85 : decode cX1_enter 85 = .ok (.getfield 31, 3) := by decide +kernel
theorem dX1_enter_88 : decode cX1_enter 88 = .ok (.iconst 1, 1) := by decide +kernel
theorem dX1_enter_89 : decode cX1_enter 89 = .ok (.iadd, 1) := by decide +kernel
theorem dX1_enter_90 : decode cX1_enter 90 = .ok (.putfield 31, 3) := by decide +kernel
theorem dX1_enter_93 : decode cX1_enter 93 = .ok (.aload_n 0, 1) := by decide +kernel
theorem dX1_enter_94 : decode cX1_enter 94 = .ok (.dup, 1) := by decide +kernel
theorem dX1_enter_95 : decode cX1_enter 95 = .ok (.getfield 34, 3) := by decide +kernel
theorem dX1_enter_98 : decode cX1_enter 98 = .ok (.aload_n 1, 1) := by decide +kernel
theorem dX1_enter_99 : decode cX1_enter 99 = .ok (.getfield 67, 3) := by decide +kernel
theorem dX1_enter_102 : decode cX1_enter 102 = .ok (.ifCond .eq 7, 3) := by decide +kernel
theorem dX1_enter_105 : decode cX1_enter 105 = .ok (.iconst 1, 1) := by decide +kernel
theorem dX1_enter_106 : decode cX1_enter 106 = .ok (.goto 4, 3) := by decide +kernel
theorem dX1_enter_109 : decode cX1_enter 109 = .ok (.iconst 0, 1) := by decide +kernel
theorem dX1_enter_110 : decode cX1_enter 110 = .ok (.iadd, 1) := by decide +kernel
theorem dX1_enter_111 : decode cX1_enter 111 = .ok (.putfield 34, 3) := by decide +kernel
theorem dX1_enter_114 : decode cX1_enter 114 = .ok (.return_, 1) := by decide +kernel
theorem dX1_classOf_0 : decode cX1_classOf 0 = .ok (.iconst 0, 1) := by decide +kernel
theorem dX1_classOf_1 : decode cX1_classOf 1 = .ok (.istore_n 1, 1) := by decide +kernel
theorem dX1_classOf_2 : decode cX1_classOf 2 = .ok (.iload_n 1, 1) := by decide +kernel
theorem dX1_classOf_3 : decode cX1_classOf 3 = .ok (.bipush 6, 2) := by decide +kernel
theorem dX1_classOf_5 : decode cX1_classOf 5 = .ok (.if_icmp .ge 16, 3) := by decide +kernel
theorem dX1_classOf_8 : decode cX1_classOf 8 = .ok (.iload_n 0, 1) := by decide +kernel
theorem dX1_classOf_9 : decode cX1_classOf 9 = .ok (.iconst 1, 1) := by decide +kernel
theorem dX1_classOf_10 : decode cX1_classOf 10 = .ok (.iload_n 1, 1) := by decide +kernel
theorem dX1_classOf_11 : decode cX1_classOf 11 = .ok (.ishl, 1) := by decide +kernel
theorem dX1_classOf_12 : decode cX1_classOf 12 = .ok (.if_icmp .lt 9, 3) := by decide +kernel
theorem dX1_classOf_15 : decode cX1_classOf 15 = .ok (.iinc 1 1, 3) := by decide +kernel
theorem dX1_classOf_18 : decode cX1_classOf 18 = .ok (.goto (-16), 3) := by decide +kernel
theorem dX1_classOf_21 : decode cX1_classOf 21 = .ok (.iload_n 1, 1) := by decide +kernel
theorem dX1_classOf_22 : decode cX1_classOf 22 = .ok (.ireturn, 1) := by decide +kernel
theorem dX2_init_0 : decode cX2_init 0 = .ok (.aload_n 0, 1) := by decide +kernel
theorem dX2_init_1 : decode cX2_init 1 = .ok (.invokespecial 3, 3) := by decide +kernel
theorem dX2_init_4 : decode cX2_init 4 = .ok (.aload_n 0, 1) := by decide +kernel
theorem dX2_init_5 : decode cX2_init 5 = .ok (.bipush 10, 2) := by decide +kernel
theorem dX2_init_7 : decode cX2_init 7 = .ok (.anewarray 9, 3) := by decide +kernel
theorem dX2_init_10 : decode cX2_init 10 = .ok (.putfield 11, 3) := by decide +kernel
theorem dX2_init_13 : decode cX2_init 13 = .ok (.aload_n 0, 1) := by decide +kernel
theorem dX2_init_14 : decode cX2_init 14 = .ok (.iconst 0, 1) := by decide +kernel
theorem dX2_init_15 : decode cX2_init 15 = .ok (.putfield 17, 3) := by decide +kernel
theorem dX2_init_18 : decode cX2_init 18 = .ok (.aload_n 0, 1) := by decide +kernel
theorem dX2_init_19 : decode cX2_init 19 = .ok (.iconst 0, 1) := by decide +kernel
theorem dX2_init_20 : decode cX2_init 20 = .ok (.putfield 21, 3) := by decide +kernel
theorem dX2_init_23 : decode cX2_init 23 = .ok (.aload_n 0, 1) := by decide +kernel
theorem dX2_init_24 : decode cX2_init 24 = .ok (.iconst 1, 1) := by decide +kernel
theorem dX2_init_25 : decode cX2_init 25 = .ok (.putfield 24, 3) := by decide +kernel
theorem dX2_init_28 : decode cX2_init 28 = .ok (.aload_n 0, 1) := by decide +kernel
theorem dX2_init_29 : decode cX2_init 29 = .ok (.new 27, 3) := by decide +kernel
theorem dX2_init_32 : decode cX2_init 32 = .ok (.dup, 1) := by decide +kernel
theorem dX2_init_33 : decode cX2_init 33 = .ok (.invokespecial 29, 3) := by decide +kernel
theorem dX2_init_36 : decode cX2_init 36 = .ok (.putfield 30, 3) := by decide +kernel
theorem dX2_init_39 : decode cX2_init 39 = .ok (.aload_n 0, 1) := by decide +kernel
theorem dX2_init_40 : decode cX2_init 40 = .ok (.iconst 0, 1) := by decide +kernel
theorem dX2_init_41 : decode cX2_init 41 = .ok (.putfield 34, 3) := by decide +kernel
theorem dX2_init_44 : decode cX2_init 44 = .ok (.aload_n 0, 1) := by decide +kernel
theorem dX2_init_45 : decode cX2_init 45 = .ok (.iconst 0, 1) := by decide +kernel
theorem dX2_init_46 : decode cX2_init 46 = .ok (.putfield 37, 3) := by decide +kernel
theorem dX2_init_49 : decode cX2_init 49 = .ok (.aload_n 0, 1) := by decide +kernel
theorem dX2_init_50 : decode cX2_init 50 = .ok (.iconst 0, 1) := by decide +kernel
theorem dX2_init_51 : decode cX2_init 51 = .ok (.putfield 40, 3) := by decide +kernel
theorem dX2_init_54 : decode cX2_init 54 = .ok (.aload_n 0, 1) := by decide +kernel
theorem dX2_init_55 : decode cX2_init 55 = .ok (.iconst 0, 1) := by decide +kernel
theorem dX2_init_56 : decode cX2_init 56 = .ok (.putfield 43, 3) := by decide +kernel
theorem dX2_init_59 : decode cX2_init 59 = .ok (.iconst 0, 1) := by decide +kernel
theorem dX2_init_60 : decode cX2_init 60 = .ok (.istore_n 1, 1) := by decide +kernel
theorem dX2_init_61 : decode cX2_init 61 = .ok (.iload_n 1, 1) := by decide +kernel
theorem dX2_init_62 : decode cX2_init 62 = .ok (.bipush 10, 2) := by decide +kernel
theorem dX2_init_64 : decode cX2_init 64 = .ok (.if_icmp .ge 22, 3) := by decide +kernel
theorem dX2_init_67 : decode cX2_init 67 = .ok (.aload_n 0, 1) := by decide +kernel
theorem dX2_init_68 : decode cX2_init 68 = .ok (.getfield 11, 3) := by decide +kernel
theorem dX2_init_71 : decode cX2_init 71 = .ok (.iload_n 1, 1) := by decide +kernel
theorem dX2_init_72 : decode cX2_init 72 = .ok (.new 9, 3) := by decide +kernel
theorem dX2_init_75 : decode cX2_init 75 = .ok (.dup, 1) := by decide +kernel
theorem dX2_init_76 : decode cX2_init 76 = .ok (.invokespecial 47, 3) := by decide +kernel
theorem dX2_init_79 : decode cX2_init 79 = .ok (.aastore, 1) := by decide +kernel
theorem dX2_init_80 : decode cX2_init 80 = .ok (.iinc 1 1, 3) := by decide +kernel
theorem dX2_init_83 : decode cX2_init 83 = .ok (.goto (-22), 3) := by decide +kernel
theorem dX2_init_86 : decode cX2_init 86 = .ok (.return_, 1) := by decide +kernel
theorem dX2_copyFrom_0 : decode cX2_copyFrom 0 = .ok (.aload_n 0, 1) := by decide +kernel
theorem dX2_copyFrom_1 : decode cX2_copyFrom 1 = .ok (.aload_n 1, 1) := by decide +kernel
theorem dX2_copyFrom_2 : decode cX2_copyFrom 2 = .ok (.getfield 17, 3) := by decide +kernel
theorem dX2_copyFrom_5 : decode cX2_copyFrom 5 = .ok (.putfield 17, 3) := by decide +kernel
theorem dX2_copyFrom_8 : decode cX2_copyFrom 8 = .ok (.aload_n 0, 1) := by decide +kernel
theorem dX2_copyFrom_9 : decode cX2_copyFrom 9 = .ok (.aload_n 1, 1) := by decide +kernel
theorem dX2_copyFrom_10 : decode cX2_copyFrom 10 = .ok (.getfield 21, 3) := by decide +kernel
theorem dX2_copyFrom_13 : decode cX2_copyFrom 13 = .ok (.putfield 21, 3) := by decide +kernel
theorem dX2_copyFrom_16 : decode cX2_copyFrom 16 = .ok (.aload_n 0, 1) := by decide +kernel
theorem dX2_copyFrom_17 : decode cX2_copyFrom 17 = .ok (.aload_n 1, 1) := by decide +kernel
theorem dX2_copyFrom_18 : decode cX2_copyFrom 18 = .ok (.getfield 24, 3) := by decide +kernel
theorem dX2_copyFrom_21 : decode cX2_copyFrom 21 = .ok (.putfield 24, 3) := by decide +kernel
theorem dX2_copyFrom_24 : decode cX2_copyFrom 24 = .ok (.aload_n 0, 1) := by decide +kernel
theorem dX2_copyFrom_25 : decode cX2_copyFrom 25 = .ok (.getfield 30, 3) := by decide +kernel
theorem dX2_copyFrom_28 : decode cX2_copyFrom 28 = .ok (.aload_n 1, 1) := by decide +kernel
theorem dX2_copyFrom_29 : decode cX2_copyFrom 29 = .ok (.getfield 30, 3) := by decide +kernel
theorem dX2_copyFrom_32 : decode cX2_copyFrom 32 = .ok (.invokevirtual 48, 3) := by decide +kernel
theorem dX2_copyFrom_35 : decode cX2_copyFrom 35 = .ok (.iconst 0, 1) := by decide +kernel
theorem dX2_copyFrom_36 : decode cX2_copyFrom 36 = .ok (.istore_n 2, 1) := by decide +kernel
theorem dX2_copyFrom_37 : decode cX2_copyFrom 37 = .ok (.iload_n 2, 1) := by decide +kernel
theorem dX2_copyFrom_38 : decode cX2_copyFrom 38 = .ok (.aload_n 0, 1) := by decide +kernel
theorem dX2_copyFrom_39 : decode cX2_copyFrom 39 = .ok (.getfield 17, 3) := by decide +kernel
theorem dX2_copyFrom_42 : decode cX2_copyFrom 42 = .ok (.if_icmp .ge 24, 3) := by decide +kernel
theorem dX2_copyFrom_45 : decode cX2_copyFrom 45 = .ok (.aload_n 0, 1) := by decide +kernel
theorem dX2_copyFrom_46 : decode cX2_copyFrom 46 = .ok (.getfield 11, 3) := by decide +kernel
theorem dX2_copyFrom_49 : decode cX2_copyFrom 49 = .ok (.iload_n 2, 1) := by decide +kernel
theorem dX2_copyFrom_50 : decode cX2_copyFrom 50 = .ok (.aaload, 1) := by decide +kernel
theorem dX2_copyFrom_51 : decode cX2_copyFrom 51 = .ok (.aload_n 1, 1) := by decide +kernel
theorem dX2_copyFrom_52 : decode cX2_copyFrom 52 = .ok (.getfield 11, 3) := by decide +kernel
theorem dX2_copyFrom_55 : decode cX2_copyFrom 55 = .ok (.iload_n 2, 1) := by decide +kernel
theorem dX2_copyFrom_56 : decode cX2_copyFrom 56 = .ok (.aaload, 1) := by decide +kernel
theorem dX2_copyFrom_57 : decode cX2_copyFrom 57 = .ok (.invokevirtual 52, 3) := by decide +kernel
theorem dX2_copyFrom_60 : decode cX2_copyFrom 60 = .ok (.iinc 2 1, 3) := by decide +kernel
theorem dX2_copyFrom_63 : decode cX2_copyFrom 63 = .ok (.goto (-26), 3) := by decide +kernel
theorem dX2_copyFrom_66 : decode cX2_copyFrom 66 = .ok (.return_, 1) := by decide +kernel
theorem dX2_has_0 : decode cX2_has 0 = .ok (.iload_n 1, 1) := by decide +kernel
theorem dX2_has_1 : decode cX2_has 1 = .ok (.ifCond .lt 15, 3) := by decide +kernel
theorem dX2_has_4 : decode cX2_has 4 = .ok (.iload_n 1, 1) := by decide +kernel
theorem dX2_has_5 : decode cX2_has 5 = .ok (.aload_n 0, 1) := by decide +kernel
theorem dX2_has_6 : decode cX2_has 6 = .ok (.getfield 17, 3) := by decide +kernel
theorem dX2_has_9 : decode cX2_has 9 = .ok (.if_icmp .ge 7, 3) := by decide +kernel
theorem dX2_has_12 : decode cX2_has 12 = .ok (.iconst 1, 1) := by decide +kernel
theorem dX2_has_13 : decode cX2_has 13 = .ok (.goto 4, 3) := by decide +kernel
theorem dX2_has_16 : decode cX2_has 16 = .ok (.iconst 0, 1) := by decide +kernel
theorem dX2_has_17 : decode cX2_has 17 = .ok (.ireturn, 1) := by decide +kernel
theorem dX2_pullOf_0 : decode cX2_pullOf 0 = .ok (.aload_n 0, 1) := by decide +kernel
theorem dX2_pullOf_1 : decode cX2_pullOf 1 = .ok (.getfield 11, 3) := by decide +kernel
theorem dX2_pullOf_4 : decode cX2_pullOf 4 = .ok (.iload_n 1, 1) := by decide +kernel
theorem dX2_pullOf_5 : decode cX2_pullOf 5 = .ok (.aaload, 1) := by decide +kernel
theorem dX2_pullOf_6 : decode cX2_pullOf 6 = .ok (.astore_n 2, 1) := by decide +kernel
theorem dX2_pullOf_7 : decode cX2_pullOf 7 = .ok (.iload_n 1, 1) := by decide +kernel
theorem dX2_pullOf_8 : decode cX2_pullOf 8 = .ok (.ifCond .ne 10, 3) := by decide +kernel
theorem dX2_pullOf_11 : decode cX2_pullOf 11 = .ok (.aload_n 0, 1) := by decide +kernel
theorem dX2_pullOf_12 : decode cX2_pullOf 12 = .ok (.getfield 21, 3) := by decide +kernel
theorem dX2_pullOf_15 : decode cX2_pullOf 15 = .ok (.goto 14, 3) := by decide +kernel
theorem dX2_pullOf_18 : decode cX2_pullOf 18 = .ok (.aload_n 0, 1) := by decide +kernel
theorem dX2_pullOf_19 : decode cX2_pullOf 19 = .ok (.getfield 11, 3) := by decide +kernel
theorem dX2_pullOf_22 : decode cX2_pullOf 22 = .ok (.iload_n 1, 1) := by decide +kernel
theorem dX2_pullOf_23 : decode cX2_pullOf 23 = .ok (.iconst 1, 1) := by decide +kernel
theorem dX2_pullOf_24 : decode cX2_pullOf 24 = .ok (.isub, 1) := by decide +kernel
theorem dX2_pullOf_25 : decode cX2_pullOf 25 = .ok (.aaload, 1) := by decide +kernel
theorem dX2_pullOf_26 : decode cX2_pullOf 26 = .ok (.getfield 55, 3) := by decide +kernel
theorem dX2_pullOf_29 : decode cX2_pullOf 29 = .ok (.istore_n 3, 1) := by decide +kernel
theorem dX2_pullOf_30 : decode cX2_pullOf 30 = .ok (.aload_n 2, 1) := by decide +kernel
theorem dX2_pullOf_31 : decode cX2_pullOf 31 = .ok (.getfield 58, 3) := by decide +kernel
theorem dX2_pullOf_34 : decode cX2_pullOf 34 = .ok (.iload_n 3, 1) := by decide +kernel
theorem dX2_pullOf_35 : decode cX2_pullOf 35 = .ok (.aload_n 2, 1) := by decide +kernel
theorem dX2_pullOf_36 : decode cX2_pullOf 36 = .ok (.getfield 55, 3) := by decide +kernel
theorem dX2_pullOf_39 : decode cX2_pullOf 39 = .ok (.isub, 1) := by decide +kernel
theorem dX2_pullOf_40 : decode cX2_pullOf 40 = .ok (.imul, 1) := by decide +kernel
theorem dX2_pullOf_41 : decode cX2_pullOf 41 = .ok (.istore 4, 2) := by decide +kernel
theorem dX2_pullOf_43 : decode cX2_pullOf 43 = .ok (.iload_n 1, 1) := by decide +kernel
theorem dX2_pullOf_44 : decode cX2_pullOf 44 = .ok (.iconst 1, 1) := by decide +kernel
theorem dX2_pullOf_45 : decode cX2_pullOf 45 = .ok (.iadd, 1) := by decide +kernel
theorem dX2_pullOf_46 : decode cX2_pullOf 46 = .ok (.aload_n 0, 1) := by decide +kernel
theorem dX2_pullOf_47 : decode cX2_pullOf 47 = .ok (.getfield 17, 3) := by decide +kernel
theorem dX2_pullOf_50 : decode cX2_pullOf 50 = .ok (.if_icmp .ge 34, 3) := by decide +kernel
theorem dX2_pullOf_53 : decode cX2_pullOf 53 = .ok (.aload_n 0, 1) := by decide +kernel
theorem dX2_pullOf_54 : decode cX2_pullOf 54 = .ok (.getfield 11, 3) := by decide +kernel
theorem dX2_pullOf_57 : decode cX2_pullOf 57 = .ok (.iload_n 1, 1) := by decide +kernel
theorem dX2_pullOf_58 : decode cX2_pullOf 58 = .ok (.iconst 1, 1) := by decide +kernel
theorem dX2_pullOf_59 : decode cX2_pullOf 59 = .ok (.iadd, 1) := by decide +kernel
theorem dX2_pullOf_60 : decode cX2_pullOf 60 = .ok (.aaload, 1) := by decide +kernel
theorem dX2_pullOf_61 : decode cX2_pullOf 61 = .ok (.astore 5, 2) := by decide +kernel
theorem dX2_pullOf_63 : decode cX2_pullOf 63 = .ok (.iload 4, 2) := by decide +kernel
theorem dX2_pullOf_65 : decode cX2_pullOf 65 = .ok (.aload 5, 2) := by decide +kernel
theorem dX2_pullOf_67 : decode cX2_pullOf 67 = .ok (.getfield 58, 3) := by decide +kernel
theorem dX2_pullOf_70 : decode cX2_pullOf 70 = .ok (.aload_n 2, 1) := by decide +kernel
theorem dX2_pullOf_71 : decode cX2_pullOf 71 = .ok (.getfield 55, 3) := by decide +kernel
theorem dX2_pullOf_74 : decode cX2_pullOf 74 = .ok (.aload 5, 2) := by decide +kernel
theorem dX2_pullOf_76 : decode cX2_pullOf 76 = .ok (.getfield 55, 3) := by decide +kernel
theorem dX2_pullOf_79 : decode cX2_pullOf 79 = .ok (.isub, 1) := by decide +kernel
theorem dX2_pullOf_80 : decode cX2_pullOf 80 = .ok (.imul, 1) := by decide +kernel
theorem dX2_pullOf_81 : decode cX2_pullOf 81 = .ok (.isub, 1) := by decide +kernel
theorem dX2_pullOf_82 : decode cX2_pullOf 82 = .ok (.istore 4, 2) := by decide +kernel
theorem dX2_pullOf_84 : decode cX2_pullOf 84 = .ok (.iload 4, 2) := by decide +kernel
theorem dX2_pullOf_86 : decode cX2_pullOf 86 = .ok (.ireturn, 1) := by decide +kernel
theorem dX2_holdsOf_0 : decode cX2_holdsOf 0 = .ok (.aload_n 0, 1) := by decide +kernel
theorem dX2_holdsOf_1 : decode cX2_holdsOf 1 = .ok (.getfield 11, 3) := by decide +kernel
theorem dX2_holdsOf_4 : decode cX2_holdsOf 4 = .ok (.iload_n 1, 1) := by decide +kernel
theorem dX2_holdsOf_5 : decode cX2_holdsOf 5 = .ok (.aaload, 1) := by decide +kernel
theorem dX2_holdsOf_6 : decode cX2_holdsOf 6 = .ok (.astore_n 3, 1) := by decide +kernel
theorem dX2_holdsOf_7 : decode cX2_holdsOf 7 = .ok (.aload_n 3, 1) := by decide +kernel
theorem dX2_holdsOf_8 : decode cX2_holdsOf 8 = .ok (.getfield 61, 3) := by decide +kernel
theorem dX2_holdsOf_11 : decode cX2_holdsOf 11 = .ok (.tableswitch 122 1 5 #[33, 39, 45, 85, 107], 33) := by decide +kernel
theorem dX2_holdsOf_44 : decode cX2_holdsOf 44 = .ok (.aload_n 3, 1) := by decide +kernel
theorem dX2_holdsOf_45 : decode cX2_holdsOf 45 = .ok (.iload_n 2, 1) := by decide +kernel
theorem dX2_holdsOf_46 : decode cX2_holdsOf 46 = .ok (.invokevirtual 64, 3) := by decide +kernel
theorem dX2_holdsOf_49 : decode cX2_holdsOf 49 = .ok (.ireturn, 1) := by decide +kernel
theorem dX2_holdsOf_50 : decode cX2_holdsOf 50 = .ok (.aload_n 3, 1) := by decide +kernel
theorem dX2_holdsOf_51 : decode cX2_holdsOf 51 = .ok (.iload_n 2, 1) := by decide +kernel
theorem dX2_holdsOf_52 : decode cX2_holdsOf 52 = .ok (.invokevirtual 68, 3) := by decide +kernel
theorem dX2_holdsOf_55 : decode cX2_holdsOf 55 = .ok (.ireturn, 1) := by decide +kernel
theorem dX2_holdsOf_56 : decode cX2_holdsOf 56 = .ok (.aload_n 0, 1) := by decide +kernel
theorem dX2_holdsOf_57 : decode cX2_holdsOf 57 = .ok (.getfield 30, 3) := by decide +kernel
theorem dX2_holdsOf_60 : decode cX2_holdsOf 60 = .ok (.getfield 71, 3) := by decide +kernel
theorem dX2_holdsOf_63 : decode cX2_holdsOf 63 = .ok (.ifCond .ne 8, 3) := by decide +kernel
theorem dX2_holdsOf_66 : decode cX2_holdsOf 66 = .ok (.aload_n 3, 1) := by decide +kernel
theorem dX2_holdsOf_67 : decode cX2_holdsOf 67 = .ok (.getfield 72, 3) := by decide +kernel
theorem dX2_holdsOf_70 : decode cX2_holdsOf 70 = .ok (.ireturn, 1) := by decide +kernel
theorem dX2_holdsOf_71 : decode cX2_holdsOf 71 = .ok (.iconst 0, 1) := by decide +kernel
theorem dX2_holdsOf_72 : decode cX2_holdsOf 72 = .ok (.sipush 9999, 3) := by decide +kernel
theorem dX2_holdsOf_75 : decode cX2_holdsOf 75 = .ok (.aload_n 0, 1) := by decide +kernel
theorem dX2_holdsOf_76 : decode cX2_holdsOf 76 = .ok (.getfield 30, 3) := by decide +kernel
theorem dX2_holdsOf_79 : decode cX2_holdsOf 79 = .ok (.aload_n 3, 1) := by decide +kernel
theorem dX2_holdsOf_80 : decode cX2_holdsOf 80 = .ok (.iload_n 1, 1) := by decide +kernel
theorem dX2_holdsOf_81 : decode cX2_holdsOf 81 = .ok (.aload_n 0, 1) := by decide +kernel
theorem dX2_holdsOf_82 : decode cX2_holdsOf 82 = .ok (.getfield 24, 3) := by decide +kernel
theorem dX2_holdsOf_85 : decode cX2_holdsOf 85 = .ok (.iload_n 2, 1) := by decide +kernel
theorem dX2_holdsOf_86 : decode cX2_holdsOf 86 = .ok (.invokevirtual 75, 3) := by decide +kernel
theorem dX2_holdsOf_89 : decode cX2_holdsOf 89 = .ok (.invokestatic 79, 3) := by decide +kernel
theorem dX2_holdsOf_92 : decode cX2_holdsOf 92 = .ok (.invokestatic 85, 3) := by decide +kernel
theorem dX2_holdsOf_95 : decode cX2_holdsOf 95 = .ok (.ireturn, 1) := by decide +kernel
theorem dX2_holdsOf_96 : decode cX2_holdsOf 96 = .ok (.iload_n 2, 1) := by decide +kernel
theorem dX2_holdsOf_97 : decode cX2_holdsOf 97 = .ok (.bipush 40, 2) := by decide +kernel
theorem dX2_holdsOf_99 : decode cX2_holdsOf 99 = .ok (.if_icmp .lt 13, 3) := by decide +kernel
theorem dX2_holdsOf_102 : decode cX2_holdsOf 102 = .ok (.iconst 3, 1) := by decide +kernel
theorem dX2_holdsOf_103 : decode cX2_holdsOf 103 = .ok (.aload_n 3, 1) := by decide +kernel
theorem dX2_holdsOf_104 : decode cX2_holdsOf 104 = .ok (.iload_n 2, 1) := by decide +kernel
theorem dX2_holdsOf_105 : decode cX2_holdsOf 105 = .ok (.invokevirtual 64, 3) := by decide +kernel
theorem dX2_holdsOf_108 : decode cX2_holdsOf 108 = .ok (.imul, 1) := by decide +kernel
theorem dX2_holdsOf_109 : decode cX2_holdsOf 109 = .ok (.goto 8, 3) := by decide +kernel
theorem dX2_holdsOf_112 : decode cX2_holdsOf 112 = .ok (.aload_n 3, 1) := by decide +kernel
theorem dX2_holdsOf_113 : decode cX2_holdsOf 113 = .ok (.iload_n 2, 1) := by decide +kernel
theorem dX2_holdsOf_114 : decode cX2_holdsOf 114 = .ok (.invokevirtual 64, 3) := by decide +kernel
theorem dX2_holdsOf_117 : decode cX2_holdsOf 117 = .ok (.ireturn, 1) := by decide +kernel
theorem dX2_holdsOf_118 : decode cX2_holdsOf 118 = .ok (.iconst 0, 1) := by decide +kernel
theorem dX2_holdsOf_119 : decode cX2_holdsOf 119 = .ok (.aload_n 3, 1) := by decide +kernel
theorem dX2_holdsOf_120 : decode cX2_holdsOf 120 = .ok (.iload_n 2, 1) := by decide +kernel
theorem dX2_holdsOf_121 : decode cX2_holdsOf 121 = .ok (.invokevirtual 68, 3) := by decide +kernel
theorem dX2_holdsOf_124 : decode cX2_holdsOf 124 = .ok (.aload_n 3, 1) := by decide +kernel
theorem dX2_holdsOf_125 : decode cX2_holdsOf 125 = .ok (.getfield 88, 3) := by decide +kernel
theorem dX2_holdsOf_128 : decode cX2_holdsOf 128 = .ok (.isub, 1) := by decide +kernel
theorem dX2_holdsOf_129 : decode cX2_holdsOf 129 = .ok (.invokestatic 85, 3) := by decide +kernel
theorem dX2_holdsOf_132 : decode cX2_holdsOf 132 = .ok (.ireturn, 1) := by decide +kernel
theorem dX2_holdsOf_133 : decode cX2_holdsOf 133 = .ok (.aload_n 3, 1) := by decide +kernel
theorem dX2_holdsOf_134 : decode cX2_holdsOf 134 = .ok (.iload_n 2, 1) := by decide +kernel
theorem dX2_holdsOf_135 : decode cX2_holdsOf 135 = .ok (.invokevirtual 91, 3) := by decide +kernel
theorem dX2_holdsOf_138 : decode cX2_holdsOf 138 = .ok (.ireturn, 1) := by decide +kernel
theorem dX2_tick_0 : decode cX2_tick 0 = .ok (.aload_n 0, 1) := by decide +kernel
theorem dX2_tick_1 : decode cX2_tick 1 = .ok (.dup, 1) := by decide +kernel
theorem dX2_tick_2 : decode cX2_tick 2 = .ok (.getfield 21, 3) := by decide +kernel
theorem dX2_tick_5 : decode cX2_tick 5 = .ok (.aload_n 0, 1) := by decide +kernel
theorem dX2_tick_6 : decode cX2_tick 6 = .ok (.getfield 24, 3) := by decide +kernel
theorem dX2_tick_9 : decode cX2_tick 9 = .ok (.iadd, 1) := by decide +kernel
theorem dX2_tick_10 : decode cX2_tick 10 = .ok (.putfield 21, 3) := by decide +kernel
theorem dX2_tick_13 : decode cX2_tick 13 = .ok (.aload_n 0, 1) := by decide +kernel
theorem dX2_tick_14 : decode cX2_tick 14 = .ok (.iconst 0, 1) := by decide +kernel
theorem dX2_tick_15 : decode cX2_tick 15 = .ok (.putfield 34, 3) := by decide +kernel
theorem dX2_tick_18 : decode cX2_tick 18 = .ok (.aload_n 0, 1) := by decide +kernel
theorem dX2_tick_19 : decode cX2_tick 19 = .ok (.iconst 0, 1) := by decide +kernel
theorem dX2_tick_20 : decode cX2_tick 20 = .ok (.putfield 37, 3) := by decide +kernel
theorem dX2_tick_23 : decode cX2_tick 23 = .ok (.aload_n 0, 1) := by decide +kernel
theorem dX2_tick_24 : decode cX2_tick 24 = .ok (.iconst 0, 1) := by decide +kernel
theorem dX2_tick_25 : decode cX2_tick 25 = .ok (.putfield 40, 3) := by decide +kernel
theorem dX2_tick_28 : decode cX2_tick 28 = .ok (.iconst 0, 1) := by decide +kernel
theorem dX2_tick_29 : decode cX2_tick 29 = .ok (.istore_n 1, 1) := by decide +kernel
theorem dX2_tick_30 : decode cX2_tick 30 = .ok (.iload_n 1, 1) := by decide +kernel
theorem dX2_tick_31 : decode cX2_tick 31 = .ok (.aload_n 0, 1) := by decide +kernel
theorem dX2_tick_32 : decode cX2_tick 32 = .ok (.getfield 17, 3) := by decide +kernel
theorem dX2_tick_35 : decode cX2_tick 35 = .ok (.if_icmp .ge 32, 3) := by decide +kernel
theorem dX2_tick_38 : decode cX2_tick 38 = .ok (.aload_n 0, 1) := by decide +kernel
theorem dX2_tick_39 : decode cX2_tick 39 = .ok (.getfield 11, 3) := by decide +kernel
theorem dX2_tick_42 : decode cX2_tick 42 = .ok (.iload_n 1, 1) := by decide +kernel
theorem dX2_tick_43 : decode cX2_tick 43 = .ok (.aaload, 1) := by decide +kernel
theorem dX2_tick_44 : decode cX2_tick 44 = .ok (.aload_n 0, 1) := by decide +kernel
theorem dX2_tick_45 : decode cX2_tick 45 = .ok (.iload_n 1, 1) := by decide +kernel
theorem dX2_tick_46 : decode cX2_tick 46 = .ok (.aload_n 0, 1) := by decide +kernel
theorem dX2_tick_47 : decode cX2_tick 47 = .ok (.getfield 11, 3) := by decide +kernel
theorem dX2_tick_50 : decode cX2_tick 50 = .ok (.iload_n 1, 1) := by decide +kernel
theorem dX2_tick_51 : decode cX2_tick 51 = .ok (.aaload, 1) := by decide +kernel
theorem dX2_tick_52 : decode cX2_tick 52 = .ok (.getfield 94, 3) := by decide +kernel
theorem dX2_tick_55 : decode cX2_tick 55 = .ok (.invokevirtual 97, 3) := by decide +kernel
theorem dX2_tick_58 : decode cX2_tick 58 = .ok (.invokevirtual 100, 3) := by decide +kernel
theorem dX2_tick_61 : decode cX2_tick 61 = .ok (.iinc 1 1, 3) := by decide +kernel
theorem dX2_tick_64 : decode cX2_tick 64 = .ok (.goto (-34), 3) := by decide +kernel
theorem dX2_tick_67 : decode cX2_tick 67 = .ok (.iconst 1, 1) := by decide +kernel
theorem dX2_tick_68 : decode cX2_tick 68 = .ok (.istore_n 1, 1) := by decide +kernel
theorem dX2_tick_69 : decode cX2_tick 69 = .ok (.iconst 0, 1) := by decide +kernel
theorem dX2_tick_70 : decode cX2_tick 70 = .ok (.istore_n 2, 1) := by decide +kernel
theorem dX2_tick_71 : decode cX2_tick 71 = .ok (.iload_n 2, 1) := by decide +kernel
theorem dX2_tick_72 : decode cX2_tick 72 = .ok (.bipush 40, 2) := by decide +kernel
theorem dX2_tick_74 : decode cX2_tick 74 = .ok (.if_icmp .ge 18, 3) := by decide +kernel
theorem dX2_tick_77 : decode cX2_tick 77 = .ok (.iload_n 1, 1) := by decide +kernel
theorem dX2_tick_78 : decode cX2_tick 78 = .ok (.ifCond .eq 14, 3) := by decide +kernel
theorem dX2_tick_81 : decode cX2_tick 81 = .ok (.aload_n 0, 1) := by decide +kernel
theorem dX2_tick_82 : decode cX2_tick 82 = .ok (.invokevirtual 104, 3) := by decide +kernel
theorem dX2_tick_85 : decode cX2_tick 85 = .ok (.istore_n 1, 1) := by decide +kernel
theorem dX2_tick_86 : decode cX2_tick 86 = .ok (.iinc 2 1, 3) := by decide +kernel
theorem dX2_tick_89 : decode cX2_tick 89 = .ok (.goto (-18), 3) := by decide +kernel
theorem dX2_tick_92 : decode cX2_tick 92 = .ok (.aload_n 0, 1) := by decide +kernel
theorem dX2_tick_93 : decode cX2_tick 93 = .ok (.iload_n 1, 1) := by decide +kernel
theorem dX2_tick_94 : decode cX2_tick 94 = .ok (.putfield 43, 3) := by decide +kernel
theorem dX2_tick_97 : decode cX2_tick 97 = .ok (.iconst 0, 1) := by decide +kernel
theorem dX2_tick_98 : decode cX2_tick 98 = .ok (.istore_n 2, 1) := by decide +kernel
theorem dX2_tick_99 : decode cX2_tick 99 = .ok (.iload_n 2, 1) := by decide +kernel
theorem dX2_tick_100 : decode cX2_tick 100 = .ok (.aload_n 0, 1) := by decide +kernel
theorem dX2_tick_101 : decode cX2_tick 101 = .ok (.getfield 17, 3) := by decide +kernel
theorem dX2_tick_104 : decode cX2_tick 104 = .ok (.if_icmp .ge 18, 3) := by decide +kernel
theorem dX2_tick_107 : decode cX2_tick 107 = .ok (.aload_n 0, 1) := by decide +kernel
theorem dX2_tick_108 : decode cX2_tick 108 = .ok (.getfield 11, 3) := by decide +kernel
theorem dX2_tick_111 : decode cX2_tick 111 = .ok (.iload_n 2, 1) := by decide +kernel
theorem dX2_tick_112 : decode cX2_tick 112 = .ok (.aaload, 1) := by decide +kernel
theorem dX2_tick_113 : decode cX2_tick 113 = .ok (.invokevirtual 108, 3) := by decide +kernel
theorem dX2_tick_116 : decode cX2_tick 116 = .ok (.iinc 2 1, 3) := by decide +kernel
theorem dX2_tick_119 : decode cX2_tick 119 = .ok (.goto (-20), 3) := by decide +kernel
theorem dX2_tick_122 : decode cX2_tick 122 = .ok (.return_, 1) := by decide +kernel
theorem dX2_round_0 : decode cX2_round 0 = .ok (.iconst 0, 1) := by decide +kernel
theorem dX2_round_1 : decode cX2_round 1 = .ok (.istore_n 1, 1) := by decide +kernel
theorem dX2_round_2 : decode cX2_round 2 = .ok (.iload_n 1, 1) := by decide +kernel
theorem dX2_round_3 : decode cX2_round 3 = .ok (.aload_n 0, 1) := by decide +kernel
theorem dX2_round_4 : decode cX2_round 4 = .ok (.getfield 17, 3) := by decide +kernel
theorem dX2_round_7 : decode cX2_round 7 = .ok (.if_icmp .ge 23, 3) := by decide +kernel
theorem dX2_round_10 : decode cX2_round 10 = .ok (.aload_n 0, 1) := by decide +kernel
theorem dX2_round_11 : decode cX2_round 11 = .ok (.getfield 11, 3) := by decide +kernel
theorem dX2_round_14 : decode cX2_round 14 = .ok (.iload_n 1, 1) := by decide +kernel
theorem dX2_round_15 : decode cX2_round 15 = .ok (.aaload, 1) := by decide +kernel
theorem dX2_round_16 : decode cX2_round 16 = .ok (.aload_n 0, 1) := by decide +kernel
theorem dX2_round_17 : decode cX2_round 17 = .ok (.iload_n 1, 1) := by decide +kernel
theorem dX2_round_18 : decode cX2_round 18 = .ok (.invokevirtual 111, 3) := by decide +kernel
theorem dX2_round_21 : decode cX2_round 21 = .ok (.putfield 114, 3) := by decide +kernel
theorem dX2_round_24 : decode cX2_round 24 = .ok (.iinc 1 1, 3) := by decide +kernel
theorem dX2_round_27 : decode cX2_round 27 = .ok (.goto (-25), 3) := by decide +kernel
theorem dX2_round_30 : decode cX2_round 30 = .ok (.iconst 0, 1) := by decide +kernel
theorem dX2_round_31 : decode cX2_round 31 = .ok (.istore_n 1, 1) := by decide +kernel
theorem dX2_round_32 : decode cX2_round 32 = .ok (.iconst 0, 1) := by decide +kernel
theorem dX2_round_33 : decode cX2_round 33 = .ok (.istore_n 2, 1) := by decide +kernel
theorem dX2_round_34 : decode cX2_round 34 = .ok (.iload_n 2, 1) := by decide +kernel
theorem dX2_round_35 : decode cX2_round 35 = .ok (.aload_n 0, 1) := by decide +kernel
theorem dX2_round_36 : decode cX2_round 36 = .ok (.getfield 17, 3) := by decide +kernel
theorem dX2_round_39 : decode cX2_round 39 = .ok (.if_icmp .ge 94, 3) := by decide +kernel
theorem dX2_round_42 : decode cX2_round 42 = .ok (.aload_n 0, 1) := by decide +kernel
theorem dX2_round_43 : decode cX2_round 43 = .ok (.getfield 11, 3) := by decide +kernel
theorem dX2_round_46 : decode cX2_round 46 = .ok (.iload_n 2, 1) := by decide +kernel
theorem dX2_round_47 : decode cX2_round 47 = .ok (.aaload, 1) := by decide +kernel
theorem dX2_round_48 : decode cX2_round 48 = .ok (.astore_n 3, 1) := by decide +kernel
theorem dX2_round_49 : decode cX2_round 49 = .ok (.aload_n 3, 1) := by decide +kernel
theorem dX2_round_50 : decode cX2_round 50 = .ok (.aload_n 3, 1) := by decide +kernel
theorem dX2_round_51 : decode cX2_round 51 = .ok (.getfield 58, 3) := by decide +kernel
theorem dX2_round_54 : decode cX2_round 54 = .ok (.iload_n 2, 1) := by decide +kernel
theorem dX2_round_55 : decode cX2_round 55 = .ok (.iconst 1, 1) := by decide +kernel
theorem dX2_round_56 : decode cX2_round 56 = .ok (.iadd, 1) := by decide +kernel
theorem dX2_round_57 : decode cX2_round 57 = .ok (.aload_n 0, 1) := by decide +kernel
theorem dX2_round_58 : decode cX2_round 58 = .ok (.getfield 17, 3) := by decide +kernel
theorem dX2_round_61 : decode cX2_round 61 = .ok (.if_icmp .ge 17, 3) := by decide +kernel
theorem dX2_round_64 : decode cX2_round 64 = .ok (.aload_n 0, 1) := by decide +kernel
theorem dX2_round_65 : decode cX2_round 65 = .ok (.getfield 11, 3) := by decide +kernel
theorem dX2_round_68 : decode cX2_round 68 = .ok (.iload_n 2, 1) := by decide +kernel
theorem dX2_round_69 : decode cX2_round 69 = .ok (.iconst 1, 1) := by decide +kernel
theorem dX2_round_70 : decode cX2_round 70 = .ok (.iadd, 1) := by decide +kernel
theorem dX2_round_71 : decode cX2_round 71 = .ok (.aaload, 1) := by decide +kernel
theorem dX2_round_72 : decode cX2_round 72 = .ok (.getfield 58, 3) := by decide +kernel
theorem dX2_round_75 : decode cX2_round 75 = .ok (.goto 4, 3) := by decide +kernel
theorem dX2_round_78 : decode cX2_round 78 = .ok (.iconst 0, 1) := by decide +kernel
theorem dX2_round_79 : decode cX2_round 79 = .ok (.iadd, 1) := by decide +kernel
theorem dX2_round_80 : decode cX2_round 80 = .ok (.invokevirtual 117, 3) := by decide +kernel
theorem dX2_round_83 : decode cX2_round 83 = .ok (.aload_n 3, 1) := by decide +kernel
theorem dX2_round_84 : decode cX2_round 84 = .ok (.getfield 120, 3) := by decide +kernel
theorem dX2_round_87 : decode cX2_round 87 = .ok (.ifCond .le 40, 3) := by decide +kernel
theorem dX2_round_90 : decode cX2_round 90 = .ok (.iconst 1, 1) := by decide +kernel
theorem dX2_round_91 : decode cX2_round 91 = .ok (.istore_n 1, 1) := by decide +kernel
theorem dX2_round_92 : decode cX2_round 92 = .ok (.aload_n 0, 1) := by decide +kernel
theorem dX2_round_93 : decode cX2_round 93 = .ok (.dup, 1) := by decide +kernel
theorem dX2_round_94 : decode cX2_round 94 = .ok (.getfield 34, 3) := by decide +kernel
theorem dX2_round_97 : decode cX2_round 97 = .ok (.iconst 1, 1) := by decide +kernel
theorem dX2_round_98 : decode cX2_round 98 = .ok (.iadd, 1) := by decide +kernel
theorem dX2_round_99 : decode cX2_round 99 = .ok (.putfield 34, 3) := by decide +kernel
theorem dX2_round_102 : decode cX2_round 102 = .ok (.aload_n 0, 1) := by decide +kernel
theorem dX2_round_103 : decode cX2_round 103 = .ok (.dup, 1) := by decide +kernel
theorem dX2_round_104 : decode cX2_round 104 = .ok (.getfield 37, 3) := by decide +kernel
theorem dX2_round_107 : decode cX2_round 107 = .ok (.iconst 1, 1) := by decide +kernel
theorem dX2_round_108 : decode cX2_round 108 = .ok (.iload_n 2, 1) := by decide +kernel
theorem dX2_round_109 : decode cX2_round 109 = .ok (.ishl, 1) := by decide +kernel
theorem dX2_round_110 : decode cX2_round 110 = .ok (.ior, 1) := by decide +kernel
theorem dX2_round_111 : decode cX2_round 111 = .ok (.putfield 37, 3) := by decide +kernel
theorem dX2_round_114 : decode cX2_round 114 = .ok (.aload_n 0, 1) := by decide +kernel
theorem dX2_round_115 : decode cX2_round 115 = .ok (.dup, 1) := by decide +kernel
theorem dX2_round_116 : decode cX2_round 116 = .ok (.getfield 40, 3) := by decide +kernel
theorem dX2_round_119 : decode cX2_round 119 = .ok (.aload_n 3, 1) := by decide +kernel
theorem dX2_round_120 : decode cX2_round 120 = .ok (.getfield 120, 3) := by decide +kernel
theorem dX2_round_123 : decode cX2_round 123 = .ok (.iadd, 1) := by decide +kernel
theorem dX2_round_124 : decode cX2_round 124 = .ok (.putfield 40, 3) := by decide +kernel
theorem dX2_round_127 : decode cX2_round 127 = .ok (.iinc 2 1, 3) := by decide +kernel
theorem dX2_round_130 : decode cX2_round 130 = .ok (.goto (-96), 3) := by decide +kernel
theorem dX2_round_133 : decode cX2_round 133 = .ok (.iload_n 1, 1) := by decide +kernel
theorem dX2_round_134 : decode cX2_round 134 = .ok (.ireturn, 1) := by decide +kernel
theorem dX3_init_0 : decode cX3_init 0 = .ok (.aload_n 0, 1) := by decide +kernel
theorem dX3_init_1 : decode cX3_init 1 = .ok (.invokespecial 3, 3) := by decide +kernel
theorem dX3_init_4 : decode cX3_init 4 = .ok (.aload_n 0, 1) := by decide +kernel
theorem dX3_init_5 : decode cX3_init 5 = .ok (.bipush 40, 2) := by decide +kernel
theorem dX3_init_7 : decode cX3_init 7 = .ok (.newarray .long, 2) := by decide +kernel
theorem dX3_init_9 : decode cX3_init 9 = .ok (.putfield 9, 3) := by decide +kernel
theorem dX3_init_12 : decode cX3_init 12 = .ok (.aload_n 0, 1) := by decide +kernel
theorem dX3_init_13 : decode cX3_init 13 = .ok (.iconst 0, 1) := by decide +kernel
theorem dX3_init_14 : decode cX3_init 14 = .ok (.putfield 15, 3) := by decide +kernel
theorem dX3_init_17 : decode cX3_init 17 = .ok (.aload_n 0, 1) := by decide +kernel
theorem dX3_init_18 : decode cX3_init 18 = .ok (.iconst 0, 1) := by decide +kernel
theorem dX3_init_19 : decode cX3_init 19 = .ok (.putfield 19, 3) := by decide +kernel
theorem dX3_init_22 : decode cX3_init 22 = .ok (.return_, 1) := by decide +kernel
theorem dX3_isMissing_0 : decode cX3_isMissing 0 = .ok (.aload_n 0, 1) := by decide +kernel
theorem dX3_isMissing_1 : decode cX3_isMissing 1 = .ok (.getfield 15, 3) := by decide +kernel
theorem dX3_isMissing_4 : decode cX3_isMissing 4 = .ok (.ifCond .ne 7, 3) := by decide +kernel
theorem dX3_isMissing_7 : decode cX3_isMissing 7 = .ok (.iconst 1, 1) := by decide +kernel
theorem dX3_isMissing_8 : decode cX3_isMissing 8 = .ok (.goto 4, 3) := by decide +kernel
theorem dX3_isMissing_11 : decode cX3_isMissing 11 = .ok (.iconst 0, 1) := by decide +kernel
theorem dX3_isMissing_12 : decode cX3_isMissing 12 = .ok (.ireturn, 1) := by decide +kernel
theorem dX3_begin_0 : decode cX3_begin 0 = .ok (.aload_n 0, 1) := by decide +kernel
theorem dX3_begin_1 : decode cX3_begin 1 = .ok (.iload_n 1, 1) := by decide +kernel
theorem dX3_begin_2 : decode cX3_begin 2 = .ok (.putfield 15, 3) := by decide +kernel
theorem dX3_begin_5 : decode cX3_begin 5 = .ok (.aload_n 0, 1) := by decide +kernel
theorem dX3_begin_6 : decode cX3_begin 6 = .ok (.iload_n 1, 1) := by decide +kernel
theorem dX3_begin_7 : decode cX3_begin 7 = .ok (.ifCond .ne 7, 3) := by decide +kernel
theorem dX3_begin_10 : decode cX3_begin 10 = .ok (.iconst 0, 1) := by decide +kernel
theorem dX3_begin_11 : decode cX3_begin 11 = .ok (.goto 4, 3) := by decide +kernel
theorem dX3_begin_14 : decode cX3_begin 14 = .ok (.iload_n 2, 1) := by decide +kernel
theorem dX3_begin_15 : decode cX3_begin 15 = .ok (.putfield 19, 3) := by decide +kernel
theorem dX3_begin_18 : decode cX3_begin 18 = .ok (.iconst 0, 1) := by decide +kernel
theorem dX3_begin_19 : decode cX3_begin 19 = .ok (.istore_n 3, 1) := by decide +kernel
theorem dX3_begin_20 : decode cX3_begin 20 = .ok (.iload_n 3, 1) := by decide +kernel
theorem dX3_begin_21 : decode cX3_begin 21 = .ok (.bipush 40, 2) := by decide +kernel
theorem dX3_begin_23 : decode cX3_begin 23 = .ok (.if_icmp .ge 16, 3) := by decide +kernel
theorem dX3_begin_26 : decode cX3_begin 26 = .ok (.aload_n 0, 1) := by decide +kernel
theorem dX3_begin_27 : decode cX3_begin 27 = .ok (.getfield 9, 3) := by decide +kernel
theorem dX3_begin_30 : decode cX3_begin 30 = .ok (.iload_n 3, 1) := by decide +kernel
theorem dX3_begin_31 : decode cX3_begin 31 = .ok (.lconst 0, 1) := by decide +kernel
theorem dX3_begin_32 : decode cX3_begin 32 = .ok (.lastore, 1) := by decide +kernel
theorem dX3_begin_33 : decode cX3_begin 33 = .ok (.iinc 3 1, 3) := by decide +kernel
theorem dX3_begin_36 : decode cX3_begin 36 = .ok (.goto (-16), 3) := by decide +kernel
theorem dX3_begin_39 : decode cX3_begin 39 = .ok (.return_, 1) := by decide +kernel
theorem dX3_lowestBits_0 : decode cX3_lowestBits 0 = .ok (.aload_n 0, 1) := by decide +kernel
theorem dX3_lowestBits_1 : decode cX3_lowestBits 1 = .ok (.getfield 15, 3) := by decide +kernel
theorem dX3_lowestBits_4 : decode cX3_lowestBits 4 = .ok (.lookupswitch 38 #[(8, 28), (16, 33)], 28) := by decide +kernel
theorem dX3_lowestBits_32 : decode cX3_lowestBits 32 = .ok (.lload_n 1, 1) := by decide +kernel
theorem dX3_lowestBits_33 : decode cX3_lowestBits 33 = .ok (.l2i, 1) := by decide +kernel
theorem dX3_lowestBits_34 : decode cX3_lowestBits 34 = .ok (.i2b, 1) := by decide +kernel
theorem dX3_lowestBits_35 : decode cX3_lowestBits 35 = .ok (.i2l, 1) := by decide +kernel
theorem dX3_lowestBits_36 : decode cX3_lowestBits 36 = .ok (.lreturn, 1) := by decide +kernel
theorem dX3_lowestBits_37 : decode cX3_lowestBits 37 = .ok (.lload_n 1, 1) := by decide +kernel
theorem dX3_lowestBits_38 : decode cX3_lowestBits 38 = .ok (.l2i, 1) := by decide +kernel
theorem dX3_lowestBits_39 : decode cX3_lowestBits 39 = .ok (.i2s, 1) := by decide +kernel
theorem dX3_lowestBits_40 : decode cX3_lowestBits 40 = .ok (.i2l, 1) := by decide +kernel
theorem dX3_lowestBits_41 : decode cX3_lowestBits 41 = .ok (.lreturn, 1) := by decide +kernel
theorem dX3_lowestBits_42 : decode cX3_lowestBits 42 = .ok (.lload_n 1, 1) := by decide +kernel
theorem dX3_lowestBits_43 : decode cX3_lowestBits 43 = .ok (.lreturn, 1) := by decide +kernel
theorem dX3_hasPart_0 : decode cX3_hasPart 0 = .ok (.iload_n 1, 1) := by decide +kernel
theorem dX3_hasPart_1 : decode cX3_hasPart 1 = .ok (.ifCond .lt 29, 3) := by decide +kernel
theorem dX3_hasPart_4 : decode cX3_hasPart 4 = .ok (.iload_n 2, 1) := by decide +kernel
theorem dX3_hasPart_5 : decode cX3_hasPart 5 = .ok (.ifCond .lt 25, 3) := by decide +kernel
theorem dX3_hasPart_8 : decode cX3_hasPart 8 = .ok (.iload_n 2, 1) := by decide +kernel
theorem dX3_hasPart_9 : decode cX3_hasPart 9 = .ok (.aload_n 0, 1) := by decide +kernel
theorem dX3_hasPart_10 : decode cX3_hasPart 10 = .ok (.getfield 19, 3) := by decide +kernel
theorem dX3_hasPart_13 : decode cX3_hasPart 13 = .ok (.if_icmp .gt 17, 3) := by decide +kernel
theorem dX3_hasPart_16 : decode cX3_hasPart 16 = .ok (.iload_n 1, 1) := by decide +kernel
theorem dX3_hasPart_17 : decode cX3_hasPart 17 = .ok (.aload_n 0, 1) := by decide +kernel
theorem dX3_hasPart_18 : decode cX3_hasPart 18 = .ok (.getfield 19, 3) := by decide +kernel
theorem dX3_hasPart_21 : decode cX3_hasPart 21 = .ok (.iload_n 2, 1) := by decide +kernel
theorem dX3_hasPart_22 : decode cX3_hasPart 22 = .ok (.isub, 1) := by decide +kernel
theorem dX3_hasPart_23 : decode cX3_hasPart 23 = .ok (.if_icmp .gt 7, 3) := by decide +kernel
theorem dX3_hasPart_26 : decode cX3_hasPart 26 = .ok (.iconst 1, 1) := by decide +kernel
theorem dX3_hasPart_27 : decode cX3_hasPart 27 = .ok (.goto 4, 3) := by decide +kernel
theorem dX3_hasPart_30 : decode cX3_hasPart 30 = .ok (.iconst 0, 1) := by decide +kernel
theorem dX3_hasPart_31 : decode cX3_hasPart 31 = .ok (.ireturn, 1) := by decide +kernel
theorem dX4_init_0 : decode cX4_init 0 = .ok (.aload_n 0, 1) := by decide +kernel
theorem dX4_init_1 : decode cX4_init 1 = .ok (.invokespecial 3, 3) := by decide +kernel
theorem dX4_init_4 : decode cX4_init 4 = .ok (.aload_n 0, 1) := by decide +kernel
theorem dX4_init_5 : decode cX4_init 5 = .ok (.bipush 60, 2) := by decide +kernel
theorem dX4_init_7 : decode cX4_init 7 = .ok (.newarray .int, 2) := by decide +kernel
theorem dX4_init_9 : decode cX4_init 9 = .ok (.putfield 9, 3) := by decide +kernel
theorem dX4_init_12 : decode cX4_init 12 = .ok (.aload_n 0, 1) := by decide +kernel
theorem dX4_init_13 : decode cX4_init 13 = .ok (.iconst 0, 1) := by decide +kernel
theorem dX4_init_14 : decode cX4_init 14 = .ok (.putfield 15, 3) := by decide +kernel
theorem dX4_init_17 : decode cX4_init 17 = .ok (.return_, 1) := by decide +kernel
theorem dX4_copyFrom_0 : decode cX4_copyFrom 0 = .ok (.aload_n 0, 1) := by decide +kernel
theorem dX4_copyFrom_1 : decode cX4_copyFrom 1 = .ok (.aload_n 1, 1) := by decide +kernel
theorem dX4_copyFrom_2 : decode cX4_copyFrom 2 = .ok (.getfield 15, 3) := by decide +kernel
theorem dX4_copyFrom_5 : decode cX4_copyFrom 5 = .ok (.putfield 15, 3) := by decide +kernel
theorem dX4_copyFrom_8 : decode cX4_copyFrom 8 = .ok (.aload_n 1, 1) := by decide +kernel
theorem dX4_copyFrom_9 : decode cX4_copyFrom 9 = .ok (.getfield 9, 3) := by decide +kernel
theorem dX4_copyFrom_12 : decode cX4_copyFrom 12 = .ok (.iconst 0, 1) := by decide +kernel
theorem dX4_copyFrom_13 : decode cX4_copyFrom 13 = .ok (.aload_n 0, 1) := by decide +kernel
theorem dX4_copyFrom_14 : decode cX4_copyFrom 14 = .ok (.getfield 9, 3) := by decide +kernel
theorem dX4_copyFrom_17 : decode cX4_copyFrom 17 = .ok (.iconst 0, 1) := by decide +kernel
theorem dX4_copyFrom_18 : decode cX4_copyFrom 18 = .ok (.aload_n 0, 1) := by decide +kernel
theorem dX4_copyFrom_19 : decode cX4_copyFrom 19 = .ok (.getfield 15, 3) := by decide +kernel
theorem dX4_copyFrom_22 : decode cX4_copyFrom 22 = .ok (.invokestatic 19, 3) := by decide +kernel
theorem dX4_copyFrom_25 : decode cX4_copyFrom 25 = .ok (.return_, 1) := by decide +kernel
theorem dX4_findFault_0 : decode cX4_findFault 0 = .ok (.aload_n 0, 1) := by decide +kernel
theorem dX4_findFault_1 : decode cX4_findFault 1 = .ok (.invokevirtual 25, 3) := by decide +kernel
theorem dX4_findFault_4 : decode cX4_findFault 4 = .ok (.pop, 1) := by decide +kernel
theorem dX4_findFault_5 : decode cX4_findFault 5 = .ok (.aload_n 0, 1) := by decide +kernel
theorem dX4_findFault_6 : decode cX4_findFault 6 = .ok (.getfield 29, 3) := by decide +kernel
theorem dX4_findFault_9 : decode cX4_findFault 9 = .ok (.ireturn, 1) := by decide +kernel
theorem dX4_valueFor_0 : decode cX4_valueFor 0 = .ok (.aload_n 0, 1) := by decide +kernel
theorem dX4_valueFor_1 : decode cX4_valueFor 1 = .ok (.iload 4, 2) := by decide +kernel
theorem dX4_valueFor_3 : decode cX4_valueFor 3 = .ok (.putfield 32, 3) := by decide +kernel
theorem dX4_valueFor_6 : decode cX4_valueFor 6 = .ok (.aload_n 0, 1) := by decide +kernel
theorem dX4_valueFor_7 : decode cX4_valueFor 7 = .ok (.aload_n 1, 1) := by decide +kernel
theorem dX4_valueFor_8 : decode cX4_valueFor 8 = .ok (.getfield 35, 3) := by decide +kernel
theorem dX4_valueFor_11 : decode cX4_valueFor 11 = .ok (.putfield 40, 3) := by decide +kernel
theorem dX4_valueFor_14 : decode cX4_valueFor 14 = .ok (.aload_n 0, 1) := by decide +kernel
theorem dX4_valueFor_15 : decode cX4_valueFor 15 = .ok (.aload_n 1, 1) := by decide +kernel
theorem dX4_valueFor_16 : decode cX4_valueFor 16 = .ok (.getfield 41, 3) := by decide +kernel
theorem dX4_valueFor_19 : decode cX4_valueFor 19 = .ok (.putfield 44, 3) := by decide +kernel
theorem dX4_valueFor_22 : decode cX4_valueFor 22 = .ok (.aload_n 0, 1) := by decide +kernel
theorem dX4_valueFor_23 : decode cX4_valueFor 23 = .ok (.iload_n 2, 1) := by decide +kernel
theorem dX4_valueFor_24 : decode cX4_valueFor 24 = .ok (.putfield 45, 3) := by decide +kernel
theorem dX4_valueFor_27 : decode cX4_valueFor 27 = .ok (.aload_n 0, 1) := by decide +kernel
theorem dX4_valueFor_28 : decode cX4_valueFor 28 = .ok (.aload_n 1, 1) := by decide +kernel
theorem dX4_valueFor_29 : decode cX4_valueFor 29 = .ok (.getfield 48, 3) := by decide +kernel
theorem dX4_valueFor_32 : decode cX4_valueFor 32 = .ok (.putfield 51, 3) := by decide +kernel
theorem dX4_valueFor_35 : decode cX4_valueFor 35 = .ok (.aload_n 0, 1) := by decide +kernel
theorem dX4_valueFor_36 : decode cX4_valueFor 36 = .ok (.iload_n 3, 1) := by decide +kernel
theorem dX4_valueFor_37 : decode cX4_valueFor 37 = .ok (.putfield 52, 3) := by decide +kernel
theorem dX4_valueFor_40 : decode cX4_valueFor 40 = .ok (.aload_n 0, 1) := by decide +kernel
theorem dX4_valueFor_41 : decode cX4_valueFor 41 = .ok (.invokevirtual 25, 3) := by decide +kernel
theorem dX4_valueFor_44 : decode cX4_valueFor 44 = .ok (.ireturn, 1) := by decide +kernel
theorem dX4_readAll_0 : decode cX4_readAll 0 = .ok (.aload_n 0, 1) := by decide +kernel
theorem dX4_readAll_1 : decode cX4_readAll 1 = .ok (.iconst 0, 1) := by decide +kernel
theorem dX4_readAll_2 : decode cX4_readAll 2 = .ok (.putfield 55, 3) := by decide +kernel
theorem dX4_readAll_5 : decode cX4_readAll 5 = .ok (.aload_n 0, 1) := by decide +kernel
theorem dX4_readAll_6 : decode cX4_readAll 6 = .ok (.iconst (-1), 1) := by decide +kernel
theorem dX4_readAll_7 : decode cX4_readAll 7 = .ok (.putfield 29, 3) := by decide +kernel
theorem dX4_readAll_10 : decode cX4_readAll 10 = .ok (.aload_n 0, 1) := by decide +kernel
theorem dX4_readAll_11 : decode cX4_readAll 11 = .ok (.aload_n 0, 1) := by decide +kernel
theorem dX4_readAll_12 : decode cX4_readAll 12 = .ok (.getfield 15, 3) := by decide +kernel
theorem dX4_readAll_15 : decode cX4_readAll 15 = .ok (.ifCond .le 12, 3) := by decide +kernel
theorem dX4_readAll_18 : decode cX4_readAll 18 = .ok (.aload_n 0, 1) := by decide +kernel
theorem dX4_readAll_19 : decode cX4_readAll 19 = .ok (.getfield 9, 3) := by decide +kernel
theorem dX4_readAll_22 : decode cX4_readAll 22 = .ok (.iconst 0, 1) := by decide +kernel
theorem dX4_readAll_23 : decode cX4_readAll 23 = .ok (.iaload, 1) := by decide +kernel
theorem dX4_readAll_24 : decode cX4_readAll 24 = .ok (.goto 4, 3) := by decide +kernel
theorem dX4_readAll_27 : decode cX4_readAll 27 = .ok (.iconst (-1), 1) := by decide +kernel
theorem dX4_readAll_28 : decode cX4_readAll 28 = .ok (.putfield 58, 3) := by decide +kernel
theorem dX4_readAll_31 : decode cX4_readAll 31 = .ok (.aload_n 0, 1) := by decide +kernel
theorem dX4_readAll_32 : decode cX4_readAll 32 = .ok (.iconst 0, 1) := by decide +kernel
theorem dX4_readAll_33 : decode cX4_readAll 33 = .ok (.invokevirtual 61, 3) := by decide +kernel
theorem dX4_readAll_36 : decode cX4_readAll 36 = .ok (.istore_n 1, 1) := by decide +kernel
theorem dX4_readAll_37 : decode cX4_readAll 37 = .ok (.aload_n 0, 1) := by decide +kernel
theorem dX4_readAll_38 : decode cX4_readAll 38 = .ok (.getfield 29, 3) := by decide +kernel
theorem dX4_readAll_41 : decode cX4_readAll 41 = .ok (.ifCond .ge 22, 3) := by decide +kernel
theorem dX4_readAll_44 : decode cX4_readAll 44 = .ok (.aload_n 0, 1) := by decide +kernel
theorem dX4_readAll_45 : decode cX4_readAll 45 = .ok (.getfield 55, 3) := by decide +kernel
theorem dX4_readAll_48 : decode cX4_readAll 48 = .ok (.aload_n 0, 1) := by decide +kernel
theorem dX4_readAll_49 : decode cX4_readAll 49 = .ok (.getfield 15, 3) := by decide +kernel
theorem dX4_readAll_52 : decode cX4_readAll 52 = .ok (.if_icmp .ge 11, 3) := by decide +kernel
theorem dX4_readAll_55 : decode cX4_readAll 55 = .ok (.aload_n 0, 1) := by decide +kernel
theorem dX4_readAll_56 : decode cX4_readAll 56 = .ok (.aload_n 0, 1) := by decide +kernel
theorem dX4_readAll_57 : decode cX4_readAll 57 = .ok (.getfield 55, 3) := by decide +kernel
theorem dX4_readAll_60 : decode cX4_readAll 60 = .ok (.putfield 29, 3) := by decide +kernel
theorem dX4_readAll_63 : decode cX4_readAll 63 = .ok (.iload_n 1, 1) := by decide +kernel
theorem dX4_readAll_64 : decode cX4_readAll 64 = .ok (.ireturn, 1) := by decide +kernel
theorem dX4_pass_0 : decode cX4_pass 0 = .ok (.aload_n 0, 1) := by decide +kernel
theorem dX4_pass_1 : decode cX4_pass 1 = .ok (.getfield 29, 3) := by decide +kernel
theorem dX4_pass_4 : decode cX4_pass 4 = .ok (.ifCond .ge 35, 3) := by decide +kernel
theorem dX4_pass_7 : decode cX4_pass 7 = .ok (.aload_n 0, 1) := by decide +kernel
theorem dX4_pass_8 : decode cX4_pass 8 = .ok (.getfield 55, 3) := by decide +kernel
theorem dX4_pass_11 : decode cX4_pass 11 = .ok (.aload_n 0, 1) := by decide +kernel
theorem dX4_pass_12 : decode cX4_pass 12 = .ok (.getfield 15, 3) := by decide +kernel
theorem dX4_pass_15 : decode cX4_pass 15 = .ok (.if_icmp .ge 24, 3) := by decide +kernel
theorem dX4_pass_18 : decode cX4_pass 18 = .ok (.aload_n 0, 1) := by decide +kernel
theorem dX4_pass_19 : decode cX4_pass 19 = .ok (.getfield 58, 3) := by decide +kernel
theorem dX4_pass_22 : decode cX4_pass 22 = .ok (.iload_n 1, 1) := by decide +kernel
theorem dX4_pass_23 : decode cX4_pass 23 = .ok (.if_icmp .ne 16, 3) := by decide +kernel
theorem dX4_pass_26 : decode cX4_pass 26 = .ok (.aload_n 0, 1) := by decide +kernel
theorem dX4_pass_27 : decode cX4_pass 27 = .ok (.dup, 1) := by decide +kernel
theorem dX4_pass_28 : decode cX4_pass 28 = .ok (.getfield 55, 3) := by decide +kernel
theorem dX4_pass_31 : decode cX4_pass 31 = .ok (.iconst 1, 1) := by decide +kernel
theorem dX4_pass_32 : decode cX4_pass 32 = .ok (.iadd, 1) := by decide +kernel
theorem dX4_pass_33 : decode cX4_pass 33 = .ok (.putfield 55, 3) := by decide +kernel
theorem dX4_pass_36 : decode cX4_pass 36 = .ok (.goto 18, 3) := by decide +kernel
theorem dX4_pass_39 : decode cX4_pass 39 = .ok (.aload_n 0, 1) := by decide +kernel
theorem dX4_pass_40 : decode cX4_pass 40 = .ok (.getfield 29, 3) := by decide +kernel
theorem dX4_pass_43 : decode cX4_pass 43 = .ok (.ifCond .ge 11, 3) := by decide +kernel
theorem dX4_pass_46 : decode cX4_pass 46 = .ok (.aload_n 0, 1) := by decide +kernel
theorem dX4_pass_47 : decode cX4_pass 47 = .ok (.aload_n 0, 1) := by decide +kernel
theorem dX4_pass_48 : decode cX4_pass 48 = .ok (.getfield 55, 3) := by decide +kernel
theorem dX4_pass_51 : decode cX4_pass 51 = .ok (.putfield 29, 3) := by decide +kernel
theorem dX4_pass_54 : decode cX4_pass 54 = .ok (.aload_n 0, 1) := by decide +kernel
theorem dX4_pass_55 : decode cX4_pass 55 = .ok (.aload_n 0, 1) := by decide +kernel
theorem dX4_pass_56 : decode cX4_pass 56 = .ok (.getfield 29, 3) := by decide +kernel
theorem dX4_pass_59 : decode cX4_pass 59 = .ok (.ifCond .ge 26, 3) := by decide +kernel
theorem dX4_pass_62 : decode cX4_pass 62 = .ok (.aload_n 0, 1) := by decide +kernel
theorem dX4_pass_63 : decode cX4_pass 63 = .ok (.getfield 55, 3) := by decide +kernel
theorem dX4_pass_66 : decode cX4_pass 66 = .ok (.aload_n 0, 1) := by decide +kernel
theorem dX4_pass_67 : decode cX4_pass 67 = .ok (.getfield 15, 3) := by decide +kernel
theorem dX4_pass_70 : decode cX4_pass 70 = .ok (.if_icmp .ge 15, 3) := by decide +kernel
theorem dX4_pass_73 : decode cX4_pass 73 = .ok (.aload_n 0, 1) := by decide +kernel
theorem dX4_pass_74 : decode cX4_pass 74 = .ok (.getfield 9, 3) := by decide +kernel
theorem dX4_pass_77 : decode cX4_pass 77 = .ok (.aload_n 0, 1) := by decide +kernel
theorem dX4_pass_78 : decode cX4_pass 78 = .ok (.getfield 55, 3) := by decide +kernel
theorem dX4_pass_81 : decode cX4_pass 81 = .ok (.iaload, 1) := by decide +kernel
theorem dX4_pass_82 : decode cX4_pass 82 = .ok (.goto 4, 3) := by decide +kernel
theorem dX4_pass_85 : decode cX4_pass 85 = .ok (.iconst (-1), 1) := by decide +kernel
theorem dX4_pass_86 : decode cX4_pass 86 = .ok (.putfield 58, 3) := by decide +kernel
theorem dX4_pass_89 : decode cX4_pass 89 = .ok (.return_, 1) := by decide +kernel
theorem dX4_sum_0 : decode cX4_sum 0 = .ok (.aload_n 0, 1) := by decide +kernel
theorem dX4_sum_1 : decode cX4_sum 1 = .ok (.iload_n 1, 1) := by decide +kernel
theorem dX4_sum_2 : decode cX4_sum 2 = .ok (.invokevirtual 65, 3) := by decide +kernel
theorem dX4_sum_5 : decode cX4_sum 5 = .ok (.istore_n 2, 1) := by decide +kernel
theorem dX4_sum_6 : decode cX4_sum 6 = .ok (.iconst 0, 1) := by decide +kernel
theorem dX4_sum_7 : decode cX4_sum 7 = .ok (.istore_n 3, 1) := by decide +kernel
theorem dX4_sum_8 : decode cX4_sum 8 = .ok (.iload_n 3, 1) := by decide +kernel
theorem dX4_sum_9 : decode cX4_sum 9 = .ok (.bipush 60, 2) := by decide +kernel
theorem dX4_sum_11 : decode cX4_sum 11 = .ok (.if_icmp .ge 65, 3) := by decide +kernel
theorem dX4_sum_14 : decode cX4_sum 14 = .ok (.aload_n 0, 1) := by decide +kernel
theorem dX4_sum_15 : decode cX4_sum 15 = .ok (.getfield 58, 3) := by decide +kernel
theorem dX4_sum_18 : decode cX4_sum 18 = .ok (.bipush 43, 2) := by decide +kernel
theorem dX4_sum_20 : decode cX4_sum 20 = .ok (.if_icmp .eq 12, 3) := by decide +kernel
theorem dX4_sum_23 : decode cX4_sum 23 = .ok (.aload_n 0, 1) := by decide +kernel
theorem dX4_sum_24 : decode cX4_sum 24 = .ok (.getfield 58, 3) := by decide +kernel
theorem dX4_sum_27 : decode cX4_sum 27 = .ok (.bipush 45, 2) := by decide +kernel
theorem dX4_sum_29 : decode cX4_sum 29 = .ok (.if_icmp .ne 47, 3) := by decide +kernel
theorem dX4_sum_32 : decode cX4_sum 32 = .ok (.aload_n 0, 1) := by decide +kernel
theorem dX4_sum_33 : decode cX4_sum 33 = .ok (.getfield 58, 3) := by decide +kernel
theorem dX4_sum_36 : decode cX4_sum 36 = .ok (.istore 4, 2) := by decide +kernel
theorem dX4_sum_38 : decode cX4_sum 38 = .ok (.aload_n 0, 1) := by decide +kernel
theorem dX4_sum_39 : decode cX4_sum 39 = .ok (.iload 4, 2) := by decide +kernel
theorem dX4_sum_41 : decode cX4_sum 41 = .ok (.invokevirtual 68, 3) := by decide +kernel
theorem dX4_sum_44 : decode cX4_sum 44 = .ok (.aload_n 0, 1) := by decide +kernel
theorem dX4_sum_45 : decode cX4_sum 45 = .ok (.iload_n 1, 1) := by decide +kernel
theorem dX4_sum_46 : decode cX4_sum 46 = .ok (.invokevirtual 65, 3) := by decide +kernel
theorem dX4_sum_49 : decode cX4_sum 49 = .ok (.istore 5, 2) := by decide +kernel
theorem dX4_sum_51 : decode cX4_sum 51 = .ok (.iload 4, 2) := by decide +kernel
theorem dX4_sum_53 : decode cX4_sum 53 = .ok (.bipush 43, 2) := by decide +kernel
theorem dX4_sum_55 : decode cX4_sum 55 = .ok (.if_icmp .ne 10, 3) := by decide +kernel
theorem dX4_sum_58 : decode cX4_sum 58 = .ok (.iload_n 2, 1) := by decide +kernel
theorem dX4_sum_59 : decode cX4_sum 59 = .ok (.iload 5, 2) := by decide +kernel
theorem dX4_sum_61 : decode cX4_sum 61 = .ok (.iadd, 1) := by decide +kernel
theorem dX4_sum_62 : decode cX4_sum 62 = .ok (.goto 7, 3) := by decide +kernel
theorem dX4_sum_65 : decode cX4_sum 65 = .ok (.iload_n 2, 1) := by decide +kernel
theorem dX4_sum_66 : decode cX4_sum 66 = .ok (.iload 5, 2) := by decide +kernel
theorem dX4_sum_68 : decode cX4_sum 68 = .ok (.isub, 1) := by decide +kernel
theorem dX4_sum_69 : decode cX4_sum 69 = .ok (.istore_n 2, 1) := by decide +kernel
theorem dX4_sum_70 : decode cX4_sum 70 = .ok (.iinc 3 1, 3) := by decide +kernel
theorem dX4_sum_73 : decode cX4_sum 73 = .ok (.goto (-65), 3) := by decide +kernel
theorem dX4_sum_76 : decode cX4_sum 76 = .ok (.iload_n 2, 1) := by decide +kernel
theorem dX4_sum_77 : decode cX4_sum 77 = .ok (.ireturn, 1) := by decide +kernel
theorem dX4_product_0 : decode cX4_product 0 = .ok (.aload_n 0, 1) := by decide +kernel
theorem dX4_product_1 : decode cX4_product 1 = .ok (.iload_n 1, 1) := by decide +kernel
theorem dX4_product_2 : decode cX4_product 2 = .ok (.invokevirtual 72, 3) := by decide +kernel
theorem dX4_product_5 : decode cX4_product 5 = .ok (.istore_n 2, 1) := by decide +kernel
theorem dX4_product_6 : decode cX4_product 6 = .ok (.iconst 0, 1) := by decide +kernel
theorem dX4_product_7 : decode cX4_product 7 = .ok (.istore_n 3, 1) := by decide +kernel
theorem dX4_product_8 : decode cX4_product 8 = .ok (.iload_n 3, 1) := by decide +kernel
theorem dX4_product_9 : decode cX4_product 9 = .ok (.bipush 60, 2) := by decide +kernel
theorem dX4_product_11 : decode cX4_product 11 = .ok (.if_icmp .ge 75, 3) := by decide +kernel
theorem dX4_product_14 : decode cX4_product 14 = .ok (.aload_n 0, 1) := by decide +kernel
theorem dX4_product_15 : decode cX4_product 15 = .ok (.getfield 58, 3) := by decide +kernel
theorem dX4_product_18 : decode cX4_product 18 = .ok (.bipush 42, 2) := by decide +kernel
theorem dX4_product_20 : decode cX4_product 20 = .ok (.if_icmp .eq 12, 3) := by decide +kernel
theorem dX4_product_23 : decode cX4_product 23 = .ok (.aload_n 0, 1) := by decide +kernel
theorem dX4_product_24 : decode cX4_product 24 = .ok (.getfield 58, 3) := by decide +kernel
theorem dX4_product_27 : decode cX4_product 27 = .ok (.bipush 47, 2) := by decide +kernel
theorem dX4_product_29 : decode cX4_product 29 = .ok (.if_icmp .ne 57, 3) := by decide +kernel
theorem dX4_product_32 : decode cX4_product 32 = .ok (.aload_n 0, 1) := by decide +kernel
theorem dX4_product_33 : decode cX4_product 33 = .ok (.getfield 58, 3) := by decide +kernel
theorem dX4_product_36 : decode cX4_product 36 = .ok (.istore 4, 2) := by decide +kernel
theorem dX4_product_38 : decode cX4_product 38 = .ok (.aload_n 0, 1) := by decide +kernel
theorem dX4_product_39 : decode cX4_product 39 = .ok (.iload 4, 2) := by decide +kernel
theorem dX4_product_41 : decode cX4_product 41 = .ok (.invokevirtual 68, 3) := by decide +kernel
theorem dX4_product_44 : decode cX4_product 44 = .ok (.aload_n 0, 1) := by decide +kernel
theorem dX4_product_45 : decode cX4_product 45 = .ok (.iload_n 1, 1) := by decide +kernel
theorem dX4_product_46 : decode cX4_product 46 = .ok (.invokevirtual 72, 3) := by decide +kernel
theorem dX4_product_49 : decode cX4_product 49 = .ok (.istore 5, 2) := by decide +kernel
theorem dX4_product_51 : decode cX4_product 51 = .ok (.iload 4, 2) := by decide +kernel
theorem dX4_product_53 : decode cX4_product 53 = .ok (.bipush 42, 2) := by decide +kernel
theorem dX4_product_55 : decode cX4_product 55 = .ok (.if_icmp .ne 11, 3) := by decide +kernel
theorem dX4_product_58 : decode cX4_product 58 = .ok (.iload_n 2, 1) := by decide +kernel
theorem dX4_product_59 : decode cX4_product 59 = .ok (.iload 5, 2) := by decide +kernel
theorem dX4_product_61 : decode cX4_product 61 = .ok (.imul, 1) := by decide +kernel
theorem dX4_product_62 : decode cX4_product 62 = .ok (.istore_n 2, 1) := by decide +kernel
theorem dX4_product_63 : decode cX4_product 63 = .ok (.goto 17, 3) := by decide +kernel
theorem dX4_product_66 : decode cX4_product 66 = .ok (.iload 5, 2) := by decide +kernel
theorem dX4_product_68 : decode cX4_product 68 = .ok (.ifCond .ne 7, 3) := by decide +kernel
theorem dX4_product_71 : decode cX4_product 71 = .ok (.iconst 0, 1) := by decide +kernel
theorem dX4_product_72 : decode cX4_product 72 = .ok (.goto 7, 3) := by decide +kernel
theorem dX4_product_75 : decode cX4_product 75 = .ok (.iload_n 2, 1) := by decide +kernel
theorem dX4_product_76 : decode cX4_product 76 = .ok (.iload 5, 2) := by decide +kernel
theorem dX4_product_78 : decode cX4_product 78 = .ok (.idiv, 1) := by decide +kernel
theorem dX4_product_79 : decode cX4_product 79 = .ok (.istore_n 2, 1) := by decide +kernel
theorem dX4_product_80 : decode cX4_product 80 = .ok (.iinc 3 1, 3) := by decide +kernel
theorem dX4_product_83 : decode cX4_product 83 = .ok (.goto (-75), 3) := by decide +kernel
theorem dX4_product_86 : decode cX4_product 86 = .ok (.iload_n 2, 1) := by decide +kernel
theorem dX4_product_87 : decode cX4_product 87 = .ok (.ireturn, 1) := by decide +kernel
theorem dX4_factor_0 : decode cX4_factor 0 = .ok (.aload_n 0, 1) := by decide +kernel
theorem dX4_factor_1 : decode cX4_factor 1 = .ok (.getfield 58, 3) := by decide +kernel
theorem dX4_factor_4 : decode cX4_factor 4 = .ok (.istore_n 2, 1) := by decide +kernel
theorem dX4_factor_5 : decode cX4_factor 5 = .ok (.iconst 0, 1) := by decide +kernel
theorem dX4_factor_6 : decode cX4_factor 6 = .ok (.istore_n 3, 1) := by decide +kernel
theorem dX4_factor_7 : decode cX4_factor 7 = .ok (.iload_n 2, 1) := by decide +kernel
theorem dX4_factor_8 : decode cX4_factor 8 = .ok (.bipush 48, 2) := by decide +kernel
theorem dX4_factor_10 : decode cX4_factor 10 = .ok (.if_icmp .lt 65, 3) := by decide +kernel
theorem dX4_factor_13 : decode cX4_factor 13 = .ok (.iload_n 2, 1) := by decide +kernel
theorem dX4_factor_14 : decode cX4_factor 14 = .ok (.bipush 57, 2) := by decide +kernel
theorem dX4_factor_16 : decode cX4_factor 16 = .ok (.if_icmp .gt 59, 3) := by decide +kernel
theorem dX4_factor_19 : decode cX4_factor 19 = .ok (.iconst 0, 1) := by decide +kernel
theorem dX4_factor_20 : decode cX4_factor 20 = .ok (.istore 4, 2) := by decide +kernel
theorem dX4_factor_22 : decode cX4_factor 22 = .ok (.iload 4, 2) := by decide +kernel
theorem dX4_factor_24 : decode cX4_factor 24 = .ok (.iconst 3, 1) := by decide +kernel
theorem dX4_factor_25 : decode cX4_factor 25 = .ok (.if_icmp .ge 48, 3) := by decide +kernel
theorem dX4_factor_28 : decode cX4_factor 28 = .ok (.aload_n 0, 1) := by decide +kernel
theorem dX4_factor_29 : decode cX4_factor 29 = .ok (.getfield 58, 3) := by decide +kernel
theorem dX4_factor_32 : decode cX4_factor 32 = .ok (.bipush 48, 2) := by decide +kernel
theorem dX4_factor_34 : decode cX4_factor 34 = .ok (.if_icmp .lt 39, 3) := by decide +kernel
theorem dX4_factor_37 : decode cX4_factor 37 = .ok (.aload_n 0, 1) := by decide +kernel
theorem dX4_factor_38 : decode cX4_factor 38 = .ok (.getfield 58, 3) := by decide +kernel
theorem dX4_factor_41 : decode cX4_factor 41 = .ok (.bipush 57, 2) := by decide +kernel
theorem dX4_factor_43 : decode cX4_factor 43 = .ok (.if_icmp .gt 30, 3) := by decide +kernel
theorem dX4_factor_46 : decode cX4_factor 46 = .ok (.bipush 10, 2) := by decide +kernel
theorem dX4_factor_48 : decode cX4_factor 48 = .ok (.iload_n 3, 1) := by decide +kernel
theorem dX4_factor_49 : decode cX4_factor 49 = .ok (.imul, 1) := by decide +kernel
theorem dX4_factor_50 : decode cX4_factor 50 = .ok (.aload_n 0, 1) := by decide +kernel
theorem dX4_factor_51 : decode cX4_factor 51 = .ok (.getfield 58, 3) := by decide +kernel
theorem dX4_factor_54 : decode cX4_factor 54 = .ok (.iadd, 1) := by decide +kernel
theorem dX4_factor_55 : decode cX4_factor 55 = .ok (.bipush 48, 2) := by decide +kernel
theorem dX4_factor_57 : decode cX4_factor 57 = .ok (.isub, 1) := by decide +kernel
theorem dX4_factor_58 : decode cX4_factor 58 = .ok (.istore_n 3, 1) := by decide +kernel
theorem dX4_factor_59 : decode cX4_factor 59 = .ok (.aload_n 0, 1) := by decide +kernel
theorem dX4_factor_60 : decode cX4_factor 60 = .ok (.aload_n 0, 1) := by decide +kernel
theorem dX4_factor_61 : decode cX4_factor 61 = .ok (.getfield 58, 3) := by decide +kernel
theorem dX4_factor_64 : decode cX4_factor 64 = .ok (.invokevirtual 68, 3) := by decide +kernel
theorem dX4_factor_67 : decode cX4_factor 67 = .ok (.iinc 4 1, 3) := by decide +kernel
theorem dX4_factor_70 : decode cX4_factor 70 = .ok (.goto (-48), 3) := by decide +kernel
theorem dX4_factor_73 : decode cX4_factor 73 = .ok (.iload_n 3, 1) := by decide +kernel
theorem dX4_factor_74 : decode cX4_factor 74 = .ok (.ireturn, 1) := by decide +kernel
theorem dX4_factor_75 : decode cX4_factor 75 = .ok (.iload_n 2, 1) := by decide +kernel
theorem dX4_factor_76 : decode cX4_factor 76 = .ok (.bipush 45, 2) := by decide +kernel
theorem dX4_factor_78 : decode cX4_factor 78 = .ok (.if_icmp .eq 15, 3) := by decide +kernel
theorem dX4_factor_81 : decode cX4_factor 81 = .ok (.iload_n 2, 1) := by decide +kernel
theorem dX4_factor_82 : decode cX4_factor 82 = .ok (.bipush 40, 2) := by decide +kernel
theorem dX4_factor_84 : decode cX4_factor 84 = .ok (.if_icmp .eq 9, 3) := by decide +kernel
theorem dX4_factor_87 : decode cX4_factor 87 = .ok (.iload_n 2, 1) := by decide +kernel
theorem dX4_factor_88 : decode cX4_factor 88 = .ok (.bipush 91, 2) := by decide +kernel
theorem dX4_factor_90 : decode cX4_factor 90 = .ok (.if_icmp .ne 87, 3) := by decide +kernel
theorem dX4_factor_93 : decode cX4_factor 93 = .ok (.iload_n 1, 1) := by decide +kernel
theorem dX4_factor_94 : decode cX4_factor 94 = .ok (.iconst 5, 1) := by decide +kernel
theorem dX4_factor_95 : decode cX4_factor 95 = .ok (.if_icmp .lt 11, 3) := by decide +kernel
theorem dX4_factor_98 : decode cX4_factor 98 = .ok (.aload_n 0, 1) := by decide +kernel
theorem dX4_factor_99 : decode cX4_factor 99 = .ok (.bipush (-2), 2) := by decide +kernel
theorem dX4_factor_101 : decode cX4_factor 101 = .ok (.invokevirtual 68, 3) := by decide +kernel
theorem dX4_factor_104 : decode cX4_factor 104 = .ok (.iconst 0, 1) := by decide +kernel
theorem dX4_factor_105 : decode cX4_factor 105 = .ok (.ireturn, 1) := by decide +kernel
theorem dX4_factor_106 : decode cX4_factor 106 = .ok (.aload_n 0, 1) := by decide +kernel
theorem dX4_factor_107 : decode cX4_factor 107 = .ok (.iload_n 2, 1) := by decide +kernel
theorem dX4_factor_108 : decode cX4_factor 108 = .ok (.invokevirtual 68, 3) := by decide +kernel
theorem dX4_factor_111 : decode cX4_factor 111 = .ok (.iload_n 2, 1) := by decide +kernel
theorem dX4_factor_112 : decode cX4_factor 112 = .ok (.bipush 45, 2) := by decide +kernel
theorem dX4_factor_114 : decode cX4_factor 114 = .ok (.if_icmp .ne 12, 3) := by decide +kernel
theorem dX4_factor_117 : decode cX4_factor 117 = .ok (.aload_n 0, 1) := by decide +kernel
theorem dX4_factor_118 : decode cX4_factor 118 = .ok (.iload_n 1, 1) := by decide +kernel
theorem dX4_factor_119 : decode cX4_factor 119 = .ok (.iconst 1, 1) := by decide +kernel
theorem dX4_factor_120 : decode cX4_factor 120 = .ok (.iadd, 1) := by decide +kernel
theorem dX4_factor_121 : decode cX4_factor 121 = .ok (.invokevirtual 72, 3) := by decide +kernel
theorem dX4_factor_124 : decode cX4_factor 124 = .ok (.ineg, 1) := by decide +kernel
theorem dX4_factor_125 : decode cX4_factor 125 = .ok (.ireturn, 1) := by decide +kernel
theorem dX4_factor_126 : decode cX4_factor 126 = .ok (.aload_n 0, 1) := by decide +kernel
theorem dX4_factor_127 : decode cX4_factor 127 = .ok (.iload_n 1, 1) := by decide +kernel
theorem dX4_factor_128 : decode cX4_factor 128 = .ok (.iconst 1, 1) := by decide +kernel
theorem dX4_factor_129 : decode cX4_factor 129 = .ok (.iadd, 1) := by decide +kernel
theorem dX4_factor_130 : decode cX4_factor 130 = .ok (.invokevirtual 61, 3) := by decide +kernel
theorem dX4_factor_133 : decode cX4_factor 133 = .ok (.istore_n 3, 1) := by decide +kernel
theorem dX4_factor_134 : decode cX4_factor 134 = .ok (.iload_n 2, 1) := by decide +kernel
theorem dX4_factor_135 : decode cX4_factor 135 = .ok (.bipush 91, 2) := by decide +kernel
theorem dX4_factor_137 : decode cX4_factor 137 = .ok (.if_icmp .ne 21, 3) := by decide +kernel
theorem dX4_factor_140 : decode cX4_factor 140 = .ok (.aload_n 0, 1) := by decide +kernel
theorem dX4_factor_141 : decode cX4_factor 141 = .ok (.bipush 44, 2) := by decide +kernel
theorem dX4_factor_143 : decode cX4_factor 143 = .ok (.invokevirtual 68, 3) := by decide +kernel
theorem dX4_factor_146 : decode cX4_factor 146 = .ok (.iload_n 3, 1) := by decide +kernel
theorem dX4_factor_147 : decode cX4_factor 147 = .ok (.aload_n 0, 1) := by decide +kernel
theorem dX4_factor_148 : decode cX4_factor 148 = .ok (.iload_n 1, 1) := by decide +kernel
theorem dX4_factor_149 : decode cX4_factor 149 = .ok (.iconst 1, 1) := by decide +kernel
theorem dX4_factor_150 : decode cX4_factor 150 = .ok (.iadd, 1) := by decide +kernel
theorem dX4_factor_151 : decode cX4_factor 151 = .ok (.invokevirtual 61, 3) := by decide +kernel
theorem dX4_factor_154 : decode cX4_factor 154 = .ok (.invokestatic 75, 3) := by decide +kernel
theorem dX4_factor_157 : decode cX4_factor 157 = .ok (.istore_n 3, 1) := by decide +kernel
theorem dX4_factor_158 : decode cX4_factor 158 = .ok (.aload_n 0, 1) := by decide +kernel
theorem dX4_factor_159 : decode cX4_factor 159 = .ok (.iload_n 2, 1) := by decide +kernel
theorem dX4_factor_160 : decode cX4_factor 160 = .ok (.bipush 91, 2) := by decide +kernel
theorem dX4_factor_162 : decode cX4_factor 162 = .ok (.if_icmp .ne 8, 3) := by decide +kernel
theorem dX4_factor_165 : decode cX4_factor 165 = .ok (.bipush 93, 2) := by decide +kernel
theorem dX4_factor_167 : decode cX4_factor 167 = .ok (.goto 5, 3) := by decide +kernel
theorem dX4_factor_170 : decode cX4_factor 170 = .ok (.bipush 41, 2) := by decide +kernel
theorem dX4_factor_172 : decode cX4_factor 172 = .ok (.invokevirtual 68, 3) := by decide +kernel
theorem dX4_factor_175 : decode cX4_factor 175 = .ok (.iload_n 3, 1) := by decide +kernel
theorem dX4_factor_176 : decode cX4_factor 176 = .ok (.ireturn, 1) := by decide +kernel
theorem dX4_factor_177 : decode cX4_factor 177 = .ok (.aload_n 0, 1) := by decide +kernel
theorem dX4_factor_178 : decode cX4_factor 178 = .ok (.iload_n 2, 1) := by decide +kernel
theorem dX4_factor_179 : decode cX4_factor 179 = .ok (.invokevirtual 81, 3) := by decide +kernel
theorem dX4_factor_182 : decode cX4_factor 182 = .ok (.istore_n 3, 1) := by decide +kernel
theorem dX4_factor_183 : decode cX4_factor 183 = .ok (.aload_n 0, 1) := by decide +kernel
theorem dX4_factor_184 : decode cX4_factor 184 = .ok (.iload_n 2, 1) := by decide +kernel
theorem dX4_factor_185 : decode cX4_factor 185 = .ok (.invokestatic 84, 3) := by decide +kernel
theorem dX4_factor_188 : decode cX4_factor 188 = .ok (.ifCond .eq 7, 3) := by decide +kernel
theorem dX4_factor_191 : decode cX4_factor 191 = .ok (.iload_n 2, 1) := by decide +kernel
theorem dX4_factor_192 : decode cX4_factor 192 = .ok (.goto 5, 3) := by decide +kernel
theorem dX4_factor_195 : decode cX4_factor 195 = .ok (.bipush (-2), 2) := by decide +kernel
theorem dX4_factor_197 : decode cX4_factor 197 = .ok (.invokevirtual 68, 3) := by decide +kernel
theorem dX4_factor_200 : decode cX4_factor 200 = .ok (.iload_n 3, 1) := by decide +kernel
theorem dX4_factor_201 : decode cX4_factor 201 = .ok (.ireturn, 1) := by decide +kernel
theorem dX4_isName_0 : decode cX4_isName 0 = .ok (.iload_n 0, 1) := by decide +kernel
theorem dX4_isName_1 : decode cX4_isName 1 = .ok (.bipush 115, 2) := by decide +kernel
theorem dX4_isName_3 : decode cX4_isName 3 = .ok (.if_icmp .eq 33, 3) := by decide +kernel
theorem dX4_isName_6 : decode cX4_isName 6 = .ok (.iload_n 0, 1) := by decide +kernel
theorem dX4_isName_7 : decode cX4_isName 7 = .ok (.bipush 98, 2) := by decide +kernel
theorem dX4_isName_9 : decode cX4_isName 9 = .ok (.if_icmp .eq 27, 3) := by decide +kernel
theorem dX4_isName_12 : decode cX4_isName 12 = .ok (.iload_n 0, 1) := by decide +kernel
theorem dX4_isName_13 : decode cX4_isName 13 = .ok (.bipush 103, 2) := by decide +kernel
theorem dX4_isName_15 : decode cX4_isName 15 = .ok (.if_icmp .eq 21, 3) := by decide +kernel
theorem dX4_isName_18 : decode cX4_isName 18 = .ok (.iload_n 0, 1) := by decide +kernel
theorem dX4_isName_19 : decode cX4_isName 19 = .ok (.bipush 107, 2) := by decide +kernel
theorem dX4_isName_21 : decode cX4_isName 21 = .ok (.if_icmp .eq 15, 3) := by decide +kernel
theorem dX4_isName_24 : decode cX4_isName 24 = .ok (.iload_n 0, 1) := by decide +kernel
theorem dX4_isName_25 : decode cX4_isName 25 = .ok (.bipush 100, 2) := by decide +kernel
theorem dX4_isName_27 : decode cX4_isName 27 = .ok (.if_icmp .eq 9, 3) := by decide +kernel
theorem dX4_isName_30 : decode cX4_isName 30 = .ok (.iload_n 0, 1) := by decide +kernel
theorem dX4_isName_31 : decode cX4_isName 31 = .ok (.bipush 112, 2) := by decide +kernel
theorem dX4_isName_33 : decode cX4_isName 33 = .ok (.if_icmp .ne 7, 3) := by decide +kernel
theorem dX4_isName_36 : decode cX4_isName 36 = .ok (.iconst 1, 1) := by decide +kernel
theorem dX4_isName_37 : decode cX4_isName 37 = .ok (.goto 4, 3) := by decide +kernel
theorem dX4_isName_40 : decode cX4_isName 40 = .ok (.iconst 0, 1) := by decide +kernel
theorem dX4_isName_41 : decode cX4_isName 41 = .ok (.ireturn, 1) := by decide +kernel
theorem dX4_named_0 : decode cX4_named 0 = .ok (.iload_n 1, 1) := by decide +kernel
theorem dX4_named_1 : decode cX4_named 1 = .ok (.tableswitch 117 98 115 #[92, 117, 107, 117, 117, 97, 117, 117, 117, 102, 117, 117, 117, 117, 112, 117, 117, 87], 87) := by decide +kernel
theorem dX4_named_88 : decode cX4_named 88 = .ok (.aload_n 0, 1) := by decide +kernel
theorem dX4_named_89 : decode cX4_named 89 = .ok (.getfield 32, 3) := by decide +kernel
theorem dX4_named_92 : decode cX4_named 92 = .ok (.ireturn, 1) := by decide +kernel
theorem dX4_named_93 : decode cX4_named 93 = .ok (.aload_n 0, 1) := by decide +kernel
theorem dX4_named_94 : decode cX4_named 94 = .ok (.getfield 40, 3) := by decide +kernel
theorem dX4_named_97 : decode cX4_named 97 = .ok (.ireturn, 1) := by decide +kernel
theorem dX4_named_98 : decode cX4_named 98 = .ok (.aload_n 0, 1) := by decide +kernel
theorem dX4_named_99 : decode cX4_named 99 = .ok (.getfield 44, 3) := by decide +kernel
theorem dX4_named_102 : decode cX4_named 102 = .ok (.ireturn, 1) := by decide +kernel
theorem dX4_named_103 : decode cX4_named 103 = .ok (.aload_n 0, 1) := by decide +kernel
theorem dX4_named_104 : decode cX4_named 104 = .ok (.getfield 45, 3) := by decide +kernel
theorem dX4_named_107 : decode cX4_named 107 = .ok (.ireturn, 1) := by decide +kernel
theorem dX4_named_108 : decode cX4_named 108 = .ok (.aload_n 0, 1) := by decide +kernel
theorem dX4_named_109 : decode cX4_named 109 = .ok (.getfield 51, 3) := by decide +kernel
theorem dX4_named_112 : decode cX4_named 112 = .ok (.ireturn, 1) := by decide +kernel
theorem dX4_named_113 : decode cX4_named 113 = .ok (.aload_n 0, 1) := by decide +kernel
theorem dX4_named_114 : decode cX4_named 114 = .ok (.getfield 52, 3) := by decide +kernel
theorem dX4_named_117 : decode cX4_named 117 = .ok (.ireturn, 1) := by decide +kernel
theorem dX4_named_118 : decode cX4_named 118 = .ok (.iconst 0, 1) := by decide +kernel
theorem dX4_named_119 : decode cX4_named 119 = .ok (.ireturn, 1) := by decide +kernel
theorem dJ9_floorMod_7cf53_0 : decode cJ9_floorMod_7cf53 0 = .ok (.iload_n 0, 1) := by decide +kernel
theorem dJ9_floorMod_7cf53_1 : decode cJ9_floorMod_7cf53 1 = .ok (.iload_n 1, 1) := by decide +kernel
theorem dJ9_floorMod_7cf53_2 : decode cJ9_floorMod_7cf53 2 = .ok (.irem, 1) := by decide +kernel
theorem dJ9_floorMod_7cf53_3 : decode cJ9_floorMod_7cf53 3 = .ok (.istore_n 2, 1) := by decide +kernel
theorem dJ9_floorMod_7cf53_4 : decode cJ9_floorMod_7cf53 4 = .ok (.iload_n 0, 1) := by decide +kernel
theorem dJ9_floorMod_7cf53_5 : decode cJ9_floorMod_7cf53 5 = .ok (.iload_n 1, 1) := by decide +kernel
theorem dJ9_floorMod_7cf53_6 : decode cJ9_floorMod_7cf53 6 = .ok (.ixor, 1) := by decide +kernel
theorem dJ9_floorMod_7cf53_7 : decode cJ9_floorMod_7cf53 7 = .ok (.ifCond .ge 11, 3) := by decide +kernel
theorem dJ9_floorMod_7cf53_10 : decode cJ9_floorMod_7cf53 10 = .ok (.iload_n 2, 1) := by decide +kernel
theorem dJ9_floorMod_7cf53_11 : decode cJ9_floorMod_7cf53 11 = .ok (.ifCond .eq 7, 3) := by decide +kernel
theorem dJ9_floorMod_7cf53_14 : decode cJ9_floorMod_7cf53 14 = .ok (.iload_n 2, 1) := by decide +kernel
theorem dJ9_floorMod_7cf53_15 : decode cJ9_floorMod_7cf53 15 = .ok (.iload_n 1, 1) := by decide +kernel
theorem dJ9_floorMod_7cf53_16 : decode cJ9_floorMod_7cf53 16 = .ok (.iadd, 1) := by decide +kernel
theorem dJ9_floorMod_7cf53_17 : decode cJ9_floorMod_7cf53 17 = .ok (.ireturn, 1) := by decide +kernel
theorem dJ9_floorMod_7cf53_18 : decode cJ9_floorMod_7cf53 18 = .ok (.iload_n 2, 1) := by decide +kernel
theorem dJ9_floorMod_7cf53_19 : decode cJ9_floorMod_7cf53 19 = .ok (.ireturn, 1) := by decide +kernel
end
section
theorem dX5_init_0 : decode cX5_init 0 = .ok (.aload_n 0, 1) := by decide +kernel
theorem dX5_init_1 : decode cX5_init 1 = .ok (.invokespecial 3, 3) := by decide +kernel
theorem dX5_init_4 : decode cX5_init 4 = .ok (.aload_n 0, 1) := by decide +kernel
theorem dX5_init_5 : decode cX5_init 5 = .ok (.new 9, 3) := by decide +kernel
theorem dX5_init_8 : decode cX5_init 8 = .ok (.dup, 1) := by decide +kernel
theorem dX5_init_9 : decode cX5_init 9 = .ok (.invokespecial 11, 3) := by decide +kernel
theorem dX5_init_12 : decode cX5_init 12 = .ok (.putfield 12, 3) := by decide +kernel
theorem dX5_init_15 : decode cX5_init 15 = .ok (.aload_n 0, 1) := by decide +kernel
theorem dX5_init_16 : decode cX5_init 16 = .ok (.new 9, 3) := by decide +kernel
theorem dX5_init_19 : decode cX5_init 19 = .ok (.dup, 1) := by decide +kernel
theorem dX5_init_20 : decode cX5_init 20 = .ok (.invokespecial 11, 3) := by decide +kernel
theorem dX5_init_23 : decode cX5_init 23 = .ok (.putfield 16, 3) := by decide +kernel
theorem dX5_init_26 : decode cX5_init 26 = .ok (.aload_n 0, 1) := by decide +kernel
theorem dX5_init_27 : decode cX5_init 27 = .ok (.new 9, 3) := by decide +kernel
theorem dX5_init_30 : decode cX5_init 30 = .ok (.dup, 1) := by decide +kernel
theorem dX5_init_31 : decode cX5_init 31 = .ok (.invokespecial 11, 3) := by decide +kernel
theorem dX5_init_34 : decode cX5_init 34 = .ok (.putfield 19, 3) := by decide +kernel
theorem dX5_init_37 : decode cX5_init 37 = .ok (.aload_n 0, 1) := by decide +kernel
theorem dX5_init_38 : decode cX5_init 38 = .ok (.new 22, 3) := by decide +kernel
theorem dX5_init_41 : decode cX5_init 41 = .ok (.dup, 1) := by decide +kernel
theorem dX5_init_42 : decode cX5_init 42 = .ok (.invokespecial 24, 3) := by decide +kernel
theorem dX5_init_45 : decode cX5_init 45 = .ok (.putfield 25, 3) := by decide +kernel
theorem dX5_init_48 : decode cX5_init 48 = .ok (.aload_n 0, 1) := by decide +kernel
theorem dX5_init_49 : decode cX5_init 49 = .ok (.new 22, 3) := by decide +kernel
theorem dX5_init_52 : decode cX5_init 52 = .ok (.dup, 1) := by decide +kernel
theorem dX5_init_53 : decode cX5_init 53 = .ok (.invokespecial 24, 3) := by decide +kernel
theorem dX5_init_56 : decode cX5_init 56 = .ok (.putfield 29, 3) := by decide +kernel
theorem dX5_init_59 : decode cX5_init 59 = .ok (.aload_n 0, 1) := by decide +kernel
theorem dX5_init_60 : decode cX5_init 60 = .ok (.iconst 0, 1) := by decide +kernel
theorem dX5_init_61 : decode cX5_init 61 = .ok (.putfield 32, 3) := by decide +kernel
theorem dX5_init_64 : decode cX5_init 64 = .ok (.aload_n 0, 1) := by decide +kernel
theorem dX5_init_65 : decode cX5_init 65 = .ok (.new 36, 3) := by decide +kernel
theorem dX5_init_68 : decode cX5_init 68 = .ok (.dup, 1) := by decide +kernel
theorem dX5_init_69 : decode cX5_init 69 = .ok (.invokespecial 38, 3) := by decide +kernel
theorem dX5_init_72 : decode cX5_init 72 = .ok (.putfield 39, 3) := by decide +kernel
theorem dX5_init_75 : decode cX5_init 75 = .ok (.aload_n 0, 1) := by decide +kernel
theorem dX5_init_76 : decode cX5_init 76 = .ok (.iconst 4, 1) := by decide +kernel
theorem dX5_init_77 : decode cX5_init 77 = .ok (.anewarray 43, 3) := by decide +kernel
theorem dX5_init_80 : decode cX5_init 80 = .ok (.putfield 45, 3) := by decide +kernel
theorem dX5_init_83 : decode cX5_init 83 = .ok (.aload_n 0, 1) := by decide +kernel
theorem dX5_init_84 : decode cX5_init 84 = .ok (.bipush 7, 2) := by decide +kernel
theorem dX5_init_86 : decode cX5_init 86 = .ok (.newarray .int, 2) := by decide +kernel
theorem dX5_init_88 : decode cX5_init 88 = .ok (.putfield 49, 3) := by decide +kernel
theorem dX5_init_91 : decode cX5_init 91 = .ok (.iconst 0, 1) := by decide +kernel
theorem dX5_init_92 : decode cX5_init 92 = .ok (.istore_n 1, 1) := by decide +kernel
theorem dX5_init_93 : decode cX5_init 93 = .ok (.iload_n 1, 1) := by decide +kernel
theorem dX5_init_94 : decode cX5_init 94 = .ok (.iconst 4, 1) := by decide +kernel
theorem dX5_init_95 : decode cX5_init 95 = .ok (.if_icmp .ge 22, 3) := by decide +kernel
theorem dX5_init_98 : decode cX5_init 98 = .ok (.aload_n 0, 1) := by decide +kernel
theorem dX5_init_99 : decode cX5_init 99 = .ok (.getfield 45, 3) := by decide +kernel
theorem dX5_init_102 : decode cX5_init 102 = .ok (.iload_n 1, 1) := by decide +kernel
theorem dX5_init_103 : decode cX5_init 103 = .ok (.new 43, 3) := by decide +kernel
theorem dX5_init_106 : decode cX5_init 106 = .ok (.dup, 1) := by decide +kernel
theorem dX5_init_107 : decode cX5_init 107 = .ok (.invokespecial 53, 3) := by decide +kernel
theorem dX5_init_110 : decode cX5_init 110 = .ok (.aastore, 1) := by decide +kernel
theorem dX5_init_111 : decode cX5_init 111 = .ok (.iinc 1 1, 3) := by decide +kernel
theorem dX5_init_114 : decode cX5_init 114 = .ok (.goto (-21), 3) := by decide +kernel
theorem dX5_init_117 : decode cX5_init 117 = .ok (.return_, 1) := by decide +kernel
theorem dX5_block_0 : decode cX5_block 0 = .ok (.iload_n 1, 1) := by decide +kernel
theorem dX5_block_1 : decode cX5_block 1 = .ok (.iconst 0, 1) := by decide +kernel
theorem dX5_block_2 : decode cX5_block 2 = .ok (.iconst 5, 1) := by decide +kernel
theorem dX5_block_3 : decode cX5_block 3 = .ok (.invokestatic 54, 3) := by decide +kernel
theorem dX5_block_6 : decode cX5_block 6 = .ok (.ifCond .eq 36, 3) := by decide +kernel
theorem dX5_block_9 : decode cX5_block 9 = .ok (.iload_n 2, 1) := by decide +kernel
theorem dX5_block_10 : decode cX5_block 10 = .ok (.iconst 1, 1) := by decide +kernel
theorem dX5_block_11 : decode cX5_block 11 = .ok (.sipush 999, 3) := by decide +kernel
theorem dX5_block_14 : decode cX5_block 14 = .ok (.invokestatic 54, 3) := by decide +kernel
theorem dX5_block_17 : decode cX5_block 17 = .ok (.ifCond .eq 25, 3) := by decide +kernel
theorem dX5_block_20 : decode cX5_block 20 = .ok (.iload_n 3, 1) := by decide +kernel
theorem dX5_block_21 : decode cX5_block 21 = .ok (.iconst 0, 1) := by decide +kernel
theorem dX5_block_22 : decode cX5_block 22 = .ok (.sipush 999, 3) := by decide +kernel
theorem dX5_block_25 : decode cX5_block 25 = .ok (.invokestatic 54, 3) := by decide +kernel
theorem dX5_block_28 : decode cX5_block 28 = .ok (.ifCond .eq 14, 3) := by decide +kernel
theorem dX5_block_31 : decode cX5_block 31 = .ok (.iload 4, 2) := by decide +kernel
theorem dX5_block_33 : decode cX5_block 33 = .ok (.iconst 0, 1) := by decide +kernel
theorem dX5_block_34 : decode cX5_block 34 = .ok (.bipush 99, 2) := by decide +kernel
theorem dX5_block_36 : decode cX5_block 36 = .ok (.invokestatic 54, 3) := by decide +kernel
theorem dX5_block_39 : decode cX5_block 39 = .ok (.ifCond .ne 10, 3) := by decide +kernel
theorem dX5_block_42 : decode cX5_block 42 = .ok (.aload_n 0, 1) := by decide +kernel
theorem dX5_block_43 : decode cX5_block 43 = .ok (.ldc 58, 2) := by decide +kernel
theorem dX5_block_45 : decode cX5_block 45 = .ok (.invokevirtual 59, 3) := by decide +kernel
theorem dX5_block_48 : decode cX5_block 48 = .ok (.ireturn, 1) := by decide +kernel
theorem dX5_block_49 : decode cX5_block 49 = .ok (.aload_n 0, 1) := by decide +kernel
theorem dX5_block_50 : decode cX5_block 50 = .ok (.getfield 12, 3) := by decide +kernel
theorem dX5_block_53 : decode cX5_block 53 = .ok (.getfield 63, 3) := by decide +kernel
theorem dX5_block_56 : decode cX5_block 56 = .ok (.bipush 10, 2) := by decide +kernel
theorem dX5_block_58 : decode cX5_block 58 = .ok (.if_icmp .lt 10, 3) := by decide +kernel
theorem dX5_block_61 : decode cX5_block 61 = .ok (.aload_n 0, 1) := by decide +kernel
theorem dX5_block_62 : decode cX5_block 62 = .ok (.ldc 67, 2) := by decide +kernel
theorem dX5_block_64 : decode cX5_block 64 = .ok (.invokevirtual 59, 3) := by decide +kernel
theorem dX5_block_67 : decode cX5_block 67 = .ok (.ireturn, 1) := by decide +kernel
theorem dX5_block_68 : decode cX5_block 68 = .ok (.aload_n 0, 1) := by decide +kernel
theorem dX5_block_69 : decode cX5_block 69 = .ok (.getfield 12, 3) := by decide +kernel
theorem dX5_block_72 : decode cX5_block 72 = .ok (.getfield 63, 3) := by decide +kernel
theorem dX5_block_75 : decode cX5_block 75 = .ok (.istore 5, 2) := by decide +kernel
theorem dX5_block_77 : decode cX5_block 77 = .ok (.aload_n 0, 1) := by decide +kernel
theorem dX5_block_78 : decode cX5_block 78 = .ok (.getfield 12, 3) := by decide +kernel
theorem dX5_block_81 : decode cX5_block 81 = .ok (.getfield 68, 3) := by decide +kernel
theorem dX5_block_84 : decode cX5_block 84 = .ok (.iload 5, 2) := by decide +kernel
theorem dX5_block_86 : decode cX5_block 86 = .ok (.aaload, 1) := by decide +kernel
theorem dX5_block_87 : decode cX5_block 87 = .ok (.iload_n 1, 1) := by decide +kernel
theorem dX5_block_88 : decode cX5_block 88 = .ok (.iload_n 2, 1) := by decide +kernel
theorem dX5_block_89 : decode cX5_block 89 = .ok (.iload_n 3, 1) := by decide +kernel
theorem dX5_block_90 : decode cX5_block 90 = .ok (.iload 4, 2) := by decide +kernel
theorem dX5_block_92 : decode cX5_block 92 = .ok (.invokevirtual 72, 3) := by decide +kernel
theorem dX5_block_95 : decode cX5_block 95 = .ok (.aload_n 0, 1) := by decide +kernel
theorem dX5_block_96 : decode cX5_block 96 = .ok (.getfield 12, 3) := by decide +kernel
theorem dX5_block_99 : decode cX5_block 99 = .ok (.dup, 1) := by decide +kernel
theorem dX5_block_100 : decode cX5_block 100 = .ok (.getfield 63, 3) := by decide +kernel
theorem dX5_block_103 : decode cX5_block 103 = .ok (.iconst 1, 1) := by decide +kernel
theorem dX5_block_104 : decode cX5_block 104 = .ok (.iadd, 1) := by decide +kernel
theorem dX5_block_105 : decode cX5_block 105 = .ok (.putfield 63, 3) := by decide +kernel
theorem dX5_block_108 : decode cX5_block 108 = .ok (.iload 5, 2) := by decide +kernel
theorem dX5_block_110 : decode cX5_block 110 = .ok (.ireturn, 1) := by decide +kernel
theorem dX5_of_0 : decode cX5_of 0 = .ok (.aload_n 0, 1) := by decide +kernel
theorem dX5_of_1 : decode cX5_of 1 = .ok (.getfield 12, 3) := by decide +kernel
theorem dX5_of_4 : decode cX5_of 4 = .ok (.iload_n 1, 1) := by decide +kernel
theorem dX5_of_5 : decode cX5_of 5 = .ok (.invokevirtual 78, 3) := by decide +kernel
theorem dX5_of_8 : decode cX5_of 8 = .ok (.ifCond .ne 10, 3) := by decide +kernel
theorem dX5_of_11 : decode cX5_of 11 = .ok (.aload_n 0, 1) := by decide +kernel
theorem dX5_of_12 : decode cX5_of 12 = .ok (.ldc 58, 2) := by decide +kernel
theorem dX5_of_14 : decode cX5_of 14 = .ok (.invokevirtual 59, 3) := by decide +kernel
theorem dX5_of_17 : decode cX5_of 17 = .ok (.ireturn, 1) := by decide +kernel
theorem dX5_of_18 : decode cX5_of 18 = .ok (.aload_n 0, 1) := by decide +kernel
theorem dX5_of_19 : decode cX5_of 19 = .ok (.getfield 12, 3) := by decide +kernel
theorem dX5_of_22 : decode cX5_of 22 = .ok (.getfield 68, 3) := by decide +kernel
theorem dX5_of_25 : decode cX5_of 25 = .ok (.iload_n 1, 1) := by decide +kernel
theorem dX5_of_26 : decode cX5_of 26 = .ok (.aaload, 1) := by decide +kernel
theorem dX5_of_27 : decode cX5_of 27 = .ok (.astore_n 3, 1) := by decide +kernel
theorem dX5_of_28 : decode cX5_of 28 = .ok (.iload_n 2, 1) := by decide +kernel
theorem dX5_of_29 : decode cX5_of 29 = .ok (.tableswitch 108 0 8 #[51, 56, 61, 66, 71, 76, 81, 86, 95], 51) := by decide +kernel
theorem dX5_of_80 : decode cX5_of 80 = .ok (.aload_n 3, 1) := by decide +kernel
theorem dX5_of_81 : decode cX5_of 81 = .ok (.getfield 82, 3) := by decide +kernel
theorem dX5_of_84 : decode cX5_of 84 = .ok (.ireturn, 1) := by decide +kernel
theorem dX5_of_85 : decode cX5_of 85 = .ok (.aload_n 3, 1) := by decide +kernel
theorem dX5_of_86 : decode cX5_of 86 = .ok (.getfield 85, 3) := by decide +kernel
theorem dX5_of_89 : decode cX5_of 89 = .ok (.ireturn, 1) := by decide +kernel
theorem dX5_of_90 : decode cX5_of 90 = .ok (.aload_n 3, 1) := by decide +kernel
theorem dX5_of_91 : decode cX5_of 91 = .ok (.getfield 88, 3) := by decide +kernel
theorem dX5_of_94 : decode cX5_of 94 = .ok (.ireturn, 1) := by decide +kernel
theorem dX5_of_95 : decode cX5_of 95 = .ok (.aload_n 3, 1) := by decide +kernel
theorem dX5_of_96 : decode cX5_of 96 = .ok (.getfield 91, 3) := by decide +kernel
theorem dX5_of_99 : decode cX5_of 99 = .ok (.ireturn, 1) := by decide +kernel
theorem dX5_of_100 : decode cX5_of 100 = .ok (.aload_n 3, 1) := by decide +kernel
theorem dX5_of_101 : decode cX5_of 101 = .ok (.getfield 94, 3) := by decide +kernel
theorem dX5_of_104 : decode cX5_of 104 = .ok (.ireturn, 1) := by decide +kernel
theorem dX5_of_105 : decode cX5_of 105 = .ok (.aload_n 3, 1) := by decide +kernel
theorem dX5_of_106 : decode cX5_of 106 = .ok (.getfield 97, 3) := by decide +kernel
theorem dX5_of_109 : decode cX5_of 109 = .ok (.ireturn, 1) := by decide +kernel
theorem dX5_of_110 : decode cX5_of 110 = .ok (.aload_n 3, 1) := by decide +kernel
theorem dX5_of_111 : decode cX5_of 111 = .ok (.getfield 100, 3) := by decide +kernel
theorem dX5_of_114 : decode cX5_of 114 = .ok (.ireturn, 1) := by decide +kernel
theorem dX5_of_115 : decode cX5_of 115 = .ok (.aload_n 0, 1) := by decide +kernel
theorem dX5_of_116 : decode cX5_of 116 = .ok (.getfield 12, 3) := by decide +kernel
theorem dX5_of_119 : decode cX5_of 119 = .ok (.iload_n 1, 1) := by decide +kernel
theorem dX5_of_120 : decode cX5_of 120 = .ok (.invokevirtual 103, 3) := by decide +kernel
theorem dX5_of_123 : decode cX5_of 123 = .ok (.ireturn, 1) := by decide +kernel
theorem dX5_of_124 : decode cX5_of 124 = .ok (.aload_n 0, 1) := by decide +kernel
theorem dX5_of_125 : decode cX5_of 125 = .ok (.getfield 12, 3) := by decide +kernel
theorem dX5_of_128 : decode cX5_of 128 = .ok (.iload_n 1, 1) := by decide +kernel
theorem dX5_of_129 : decode cX5_of 129 = .ok (.aload_n 3, 1) := by decide +kernel
theorem dX5_of_130 : decode cX5_of 130 = .ok (.getfield 100, 3) := by decide +kernel
theorem dX5_of_133 : decode cX5_of 133 = .ok (.invokevirtual 106, 3) := by decide +kernel
theorem dX5_of_136 : decode cX5_of 136 = .ok (.ireturn, 1) := by decide +kernel
theorem dX5_of_137 : decode cX5_of 137 = .ok (.aload_n 0, 1) := by decide +kernel
theorem dX5_of_138 : decode cX5_of 138 = .ok (.ldc 58, 2) := by decide +kernel
theorem dX5_of_140 : decode cX5_of 140 = .ok (.invokevirtual 59, 3) := by decide +kernel
theorem dX5_of_143 : decode cX5_of 143 = .ok (.ireturn, 1) := by decide +kernel
theorem dX5_set_0 : decode cX5_set 0 = .ok (.aload_n 0, 1) := by decide +kernel
theorem dX5_set_1 : decode cX5_set 1 = .ok (.getfield 12, 3) := by decide +kernel
theorem dX5_set_4 : decode cX5_set 4 = .ok (.iload_n 1, 1) := by decide +kernel
theorem dX5_set_5 : decode cX5_set 5 = .ok (.invokevirtual 78, 3) := by decide +kernel
theorem dX5_set_8 : decode cX5_set 8 = .ok (.ifCond .eq 11, 3) := by decide +kernel
theorem dX5_set_11 : decode cX5_set 11 = .ok (.iload_n 2, 1) := by decide +kernel
theorem dX5_set_12 : decode cX5_set 12 = .ok (.iload_n 3, 1) := by decide +kernel
theorem dX5_set_13 : decode cX5_set 13 = .ok (.invokestatic 110, 3) := by decide +kernel
theorem dX5_set_16 : decode cX5_set 16 = .ok (.ifCond .ne 10, 3) := by decide +kernel
theorem dX5_set_19 : decode cX5_set 19 = .ok (.aload_n 0, 1) := by decide +kernel
theorem dX5_set_20 : decode cX5_set 20 = .ok (.ldc 58, 2) := by decide +kernel
theorem dX5_set_22 : decode cX5_set 22 = .ok (.invokevirtual 59, 3) := by decide +kernel
theorem dX5_set_25 : decode cX5_set 25 = .ok (.ireturn, 1) := by decide +kernel
theorem dX5_set_26 : decode cX5_set 26 = .ok (.aload_n 0, 1) := by decide +kernel
theorem dX5_set_27 : decode cX5_set 27 = .ok (.getfield 12, 3) := by decide +kernel
theorem dX5_set_30 : decode cX5_set 30 = .ok (.getfield 68, 3) := by decide +kernel
theorem dX5_set_33 : decode cX5_set 33 = .ok (.iload_n 1, 1) := by decide +kernel
theorem dX5_set_34 : decode cX5_set 34 = .ok (.aaload, 1) := by decide +kernel
theorem dX5_set_35 : decode cX5_set 35 = .ok (.astore 4, 2) := by decide +kernel
theorem dX5_set_37 : decode cX5_set 37 = .ok (.iload_n 2, 1) := by decide +kernel
theorem dX5_set_38 : decode cX5_set 38 = .ok (.tableswitch 74 1 3 #[26, 42, 58], 26) := by decide +kernel
theorem dX5_set_64 : decode cX5_set 64 = .ok (.aload 4, 2) := by decide +kernel
theorem dX5_set_66 : decode cX5_set 66 = .ok (.getfield 85, 3) := by decide +kernel
theorem dX5_set_69 : decode cX5_set 69 = .ok (.istore 5, 2) := by decide +kernel
theorem dX5_set_71 : decode cX5_set 71 = .ok (.aload 4, 2) := by decide +kernel
theorem dX5_set_73 : decode cX5_set 73 = .ok (.iload_n 3, 1) := by decide +kernel
theorem dX5_set_74 : decode cX5_set 74 = .ok (.putfield 85, 3) := by decide +kernel
theorem dX5_set_77 : decode cX5_set 77 = .ok (.iload 5, 2) := by decide +kernel
theorem dX5_set_79 : decode cX5_set 79 = .ok (.ireturn, 1) := by decide +kernel
theorem dX5_set_80 : decode cX5_set 80 = .ok (.aload 4, 2) := by decide +kernel
theorem dX5_set_82 : decode cX5_set 82 = .ok (.getfield 88, 3) := by decide +kernel
theorem dX5_set_85 : decode cX5_set 85 = .ok (.istore 5, 2) := by decide +kernel
theorem dX5_set_87 : decode cX5_set 87 = .ok (.aload 4, 2) := by decide +kernel
theorem dX5_set_89 : decode cX5_set 89 = .ok (.iload_n 3, 1) := by decide +kernel
theorem dX5_set_90 : decode cX5_set 90 = .ok (.putfield 88, 3) := by decide +kernel
theorem dX5_set_93 : decode cX5_set 93 = .ok (.iload 5, 2) := by decide +kernel
theorem dX5_set_95 : decode cX5_set 95 = .ok (.ireturn, 1) := by decide +kernel
theorem dX5_set_96 : decode cX5_set 96 = .ok (.aload 4, 2) := by decide +kernel
theorem dX5_set_98 : decode cX5_set 98 = .ok (.getfield 91, 3) := by decide +kernel
theorem dX5_set_101 : decode cX5_set 101 = .ok (.istore 5, 2) := by decide +kernel
theorem dX5_set_103 : decode cX5_set 103 = .ok (.aload 4, 2) := by decide +kernel
theorem dX5_set_105 : decode cX5_set 105 = .ok (.iload_n 3, 1) := by decide +kernel
theorem dX5_set_106 : decode cX5_set 106 = .ok (.putfield 91, 3) := by decide +kernel
theorem dX5_set_109 : decode cX5_set 109 = .ok (.iload 5, 2) := by decide +kernel
theorem dX5_set_111 : decode cX5_set 111 = .ok (.ireturn, 1) := by decide +kernel
theorem dX5_set_112 : decode cX5_set 112 = .ok (.aload 4, 2) := by decide +kernel
theorem dX5_set_114 : decode cX5_set 114 = .ok (.getfield 94, 3) := by decide +kernel
theorem dX5_set_117 : decode cX5_set 117 = .ok (.istore 5, 2) := by decide +kernel
theorem dX5_set_119 : decode cX5_set 119 = .ok (.aload 4, 2) := by decide +kernel
theorem dX5_set_121 : decode cX5_set 121 = .ok (.iload_n 3, 1) := by decide +kernel
theorem dX5_set_122 : decode cX5_set 122 = .ok (.putfield 94, 3) := by decide +kernel
theorem dX5_set_125 : decode cX5_set 125 = .ok (.iload 5, 2) := by decide +kernel
theorem dX5_set_127 : decode cX5_set 127 = .ok (.ireturn, 1) := by decide +kernel
theorem dX5_as_0 : decode cX5_as 0 = .ok (.aload_n 0, 1) := by decide +kernel
theorem dX5_as_1 : decode cX5_as 1 = .ok (.getfield 12, 3) := by decide +kernel
theorem dX5_as_4 : decode cX5_as 4 = .ok (.iload_n 1, 1) := by decide +kernel
theorem dX5_as_5 : decode cX5_as 5 = .ok (.invokevirtual 78, 3) := by decide +kernel
theorem dX5_as_8 : decode cX5_as 8 = .ok (.ifCond .eq 12, 3) := by decide +kernel
theorem dX5_as_11 : decode cX5_as 11 = .ok (.iload_n 2, 1) := by decide +kernel
theorem dX5_as_12 : decode cX5_as 12 = .ok (.iconst 0, 1) := by decide +kernel
theorem dX5_as_13 : decode cX5_as 13 = .ok (.iconst 5, 1) := by decide +kernel
theorem dX5_as_14 : decode cX5_as 14 = .ok (.invokestatic 54, 3) := by decide +kernel
theorem dX5_as_17 : decode cX5_as 17 = .ok (.ifCond .ne 10, 3) := by decide +kernel
theorem dX5_as_20 : decode cX5_as 20 = .ok (.aload_n 0, 1) := by decide +kernel
theorem dX5_as_21 : decode cX5_as 21 = .ok (.ldc 58, 2) := by decide +kernel
theorem dX5_as_23 : decode cX5_as 23 = .ok (.invokevirtual 59, 3) := by decide +kernel
theorem dX5_as_26 : decode cX5_as 26 = .ok (.ireturn, 1) := by decide +kernel
theorem dX5_as_27 : decode cX5_as 27 = .ok (.aload_n 0, 1) := by decide +kernel
theorem dX5_as_28 : decode cX5_as 28 = .ok (.getfield 12, 3) := by decide +kernel
theorem dX5_as_31 : decode cX5_as 31 = .ok (.getfield 68, 3) := by decide +kernel
theorem dX5_as_34 : decode cX5_as 34 = .ok (.iload_n 1, 1) := by decide +kernel
theorem dX5_as_35 : decode cX5_as 35 = .ok (.aaload, 1) := by decide +kernel
theorem dX5_as_36 : decode cX5_as 36 = .ok (.astore_n 3, 1) := by decide +kernel
theorem dX5_as_37 : decode cX5_as 37 = .ok (.aload_n 3, 1) := by decide +kernel
theorem dX5_as_38 : decode cX5_as 38 = .ok (.getfield 82, 3) := by decide +kernel
theorem dX5_as_41 : decode cX5_as 41 = .ok (.iload_n 2, 1) := by decide +kernel
theorem dX5_as_42 : decode cX5_as 42 = .ok (.invokestatic 114, 3) := by decide +kernel
theorem dX5_as_45 : decode cX5_as 45 = .ok (.ifCond .ne 10, 3) := by decide +kernel
theorem dX5_as_48 : decode cX5_as 48 = .ok (.aload_n 0, 1) := by decide +kernel
theorem dX5_as_49 : decode cX5_as 49 = .ok (.ldc 117, 2) := by decide +kernel
theorem dX5_as_51 : decode cX5_as 51 = .ok (.invokevirtual 59, 3) := by decide +kernel
theorem dX5_as_54 : decode cX5_as 54 = .ok (.ireturn, 1) := by decide +kernel
theorem dX5_as_55 : decode cX5_as 55 = .ok (.aload_n 0, 1) := by decide +kernel
theorem dX5_as_56 : decode cX5_as 56 = .ok (.getfield 12, 3) := by decide +kernel
theorem dX5_as_59 : decode cX5_as 59 = .ok (.iload_n 1, 1) := by decide +kernel
theorem dX5_as_60 : decode cX5_as 60 = .ok (.aload_n 3, 1) := by decide +kernel
theorem dX5_as_61 : decode cX5_as 61 = .ok (.getfield 100, 3) := by decide +kernel
theorem dX5_as_64 : decode cX5_as 64 = .ok (.invokevirtual 106, 3) := by decide +kernel
theorem dX5_as_67 : decode cX5_as 67 = .ok (.ireturn, 1) := by decide +kernel
theorem dX5_holds_0 : decode cX5_holds 0 = .ok (.aload_n 0, 1) := by decide +kernel
theorem dX5_holds_1 : decode cX5_holds 1 = .ok (.getfield 12, 3) := by decide +kernel
theorem dX5_holds_4 : decode cX5_holds 4 = .ok (.iload_n 1, 1) := by decide +kernel
theorem dX5_holds_5 : decode cX5_holds 5 = .ok (.invokevirtual 78, 3) := by decide +kernel
theorem dX5_holds_8 : decode cX5_holds 8 = .ok (.ifCond .eq 14, 3) := by decide +kernel
theorem dX5_holds_11 : decode cX5_holds 11 = .ok (.iload_n 2, 1) := by decide +kernel
theorem dX5_holds_12 : decode cX5_holds 12 = .ok (.iconst 0, 1) := by decide +kernel
theorem dX5_holds_13 : decode cX5_holds 13 = .ok (.sipush 999, 3) := by decide +kernel
theorem dX5_holds_16 : decode cX5_holds 16 = .ok (.invokestatic 54, 3) := by decide +kernel
theorem dX5_holds_19 : decode cX5_holds 19 = .ok (.ifCond .ne 10, 3) := by decide +kernel
theorem dX5_holds_22 : decode cX5_holds 22 = .ok (.aload_n 0, 1) := by decide +kernel
theorem dX5_holds_23 : decode cX5_holds 23 = .ok (.ldc 58, 2) := by decide +kernel
theorem dX5_holds_25 : decode cX5_holds 25 = .ok (.invokevirtual 59, 3) := by decide +kernel
theorem dX5_holds_28 : decode cX5_holds 28 = .ok (.ireturn, 1) := by decide +kernel
theorem dX5_holds_29 : decode cX5_holds 29 = .ok (.aload_n 0, 1) := by decide +kernel
theorem dX5_holds_30 : decode cX5_holds 30 = .ok (.getfield 12, 3) := by decide +kernel
theorem dX5_holds_33 : decode cX5_holds 33 = .ok (.iload_n 1, 1) := by decide +kernel
theorem dX5_holds_34 : decode cX5_holds 34 = .ok (.iload_n 2, 1) := by decide +kernel
theorem dX5_holds_35 : decode cX5_holds 35 = .ok (.invokevirtual 106, 3) := by decide +kernel
theorem dX5_holds_38 : decode cX5_holds 38 = .ok (.ireturn, 1) := by decide +kernel
theorem dX5_rubs_0 : decode cX5_rubs 0 = .ok (.aload_n 0, 1) := by decide +kernel
theorem dX5_rubs_1 : decode cX5_rubs 1 = .ok (.getfield 12, 3) := by decide +kernel
theorem dX5_rubs_4 : decode cX5_rubs 4 = .ok (.iload_n 1, 1) := by decide +kernel
theorem dX5_rubs_5 : decode cX5_rubs 5 = .ok (.invokevirtual 78, 3) := by decide +kernel
theorem dX5_rubs_8 : decode cX5_rubs 8 = .ok (.ifCond .eq 14, 3) := by decide +kernel
theorem dX5_rubs_11 : decode cX5_rubs 11 = .ok (.iload_n 2, 1) := by decide +kernel
theorem dX5_rubs_12 : decode cX5_rubs 12 = .ok (.iconst 0, 1) := by decide +kernel
theorem dX5_rubs_13 : decode cX5_rubs 13 = .ok (.sipush 999, 3) := by decide +kernel
theorem dX5_rubs_16 : decode cX5_rubs 16 = .ok (.invokestatic 54, 3) := by decide +kernel
theorem dX5_rubs_19 : decode cX5_rubs 19 = .ok (.ifCond .ne 10, 3) := by decide +kernel
theorem dX5_rubs_22 : decode cX5_rubs 22 = .ok (.aload_n 0, 1) := by decide +kernel
theorem dX5_rubs_23 : decode cX5_rubs 23 = .ok (.ldc 58, 2) := by decide +kernel
theorem dX5_rubs_25 : decode cX5_rubs 25 = .ok (.invokevirtual 59, 3) := by decide +kernel
theorem dX5_rubs_28 : decode cX5_rubs 28 = .ok (.ireturn, 1) := by decide +kernel
theorem dX5_rubs_29 : decode cX5_rubs 29 = .ok (.aload_n 0, 1) := by decide +kernel
theorem dX5_rubs_30 : decode cX5_rubs 30 = .ok (.getfield 12, 3) := by decide +kernel
theorem dX5_rubs_33 : decode cX5_rubs 33 = .ok (.getfield 68, 3) := by decide +kernel
theorem dX5_rubs_36 : decode cX5_rubs 36 = .ok (.iload_n 1, 1) := by decide +kernel
theorem dX5_rubs_37 : decode cX5_rubs 37 = .ok (.aaload, 1) := by decide +kernel
theorem dX5_rubs_38 : decode cX5_rubs 38 = .ok (.iload_n 2, 1) := by decide +kernel
theorem dX5_rubs_39 : decode cX5_rubs 39 = .ok (.invokevirtual 118, 3) := by decide +kernel
theorem dX5_rubs_42 : decode cX5_rubs 42 = .ok (.ireturn, 1) := by decide +kernel
theorem dX5_push_0 : decode cX5_push 0 = .ok (.aload_n 0, 1) := by decide +kernel
theorem dX5_push_1 : decode cX5_push 1 = .ok (.getfield 12, 3) := by decide +kernel
theorem dX5_push_4 : decode cX5_push 4 = .ok (.iload_n 1, 1) := by decide +kernel
theorem dX5_push_5 : decode cX5_push 5 = .ok (.invokevirtual 78, 3) := by decide +kernel
theorem dX5_push_8 : decode cX5_push 8 = .ok (.ifCond .eq 16, 3) := by decide +kernel
theorem dX5_push_11 : decode cX5_push 11 = .ok (.iload_n 2, 1) := by decide +kernel
theorem dX5_push_12 : decode cX5_push 12 = .ok (.sipush (-9999), 3) := by decide +kernel
theorem dX5_push_15 : decode cX5_push 15 = .ok (.sipush 9999, 3) := by decide +kernel
theorem dX5_push_18 : decode cX5_push 18 = .ok (.invokestatic 54, 3) := by decide +kernel
theorem dX5_push_21 : decode cX5_push 21 = .ok (.ifCond .ne 10, 3) := by decide +kernel
theorem dX5_push_24 : decode cX5_push 24 = .ok (.aload_n 0, 1) := by decide +kernel
theorem dX5_push_25 : decode cX5_push 25 = .ok (.ldc 58, 2) := by decide +kernel
theorem dX5_push_27 : decode cX5_push 27 = .ok (.invokevirtual 59, 3) := by decide +kernel
theorem dX5_push_30 : decode cX5_push 30 = .ok (.ireturn, 1) := by decide +kernel
theorem dX5_push_31 : decode cX5_push 31 = .ok (.aload_n 0, 1) := by decide +kernel
theorem dX5_push_32 : decode cX5_push 32 = .ok (.getfield 12, 3) := by decide +kernel
theorem dX5_push_35 : decode cX5_push 35 = .ok (.getfield 68, 3) := by decide +kernel
theorem dX5_push_38 : decode cX5_push 38 = .ok (.iload_n 1, 1) := by decide +kernel
theorem dX5_push_39 : decode cX5_push 39 = .ok (.aaload, 1) := by decide +kernel
theorem dX5_push_40 : decode cX5_push 40 = .ok (.astore_n 3, 1) := by decide +kernel
theorem dX5_push_41 : decode cX5_push 41 = .ok (.aload_n 3, 1) := by decide +kernel
theorem dX5_push_42 : decode cX5_push 42 = .ok (.dup, 1) := by decide +kernel
theorem dX5_push_43 : decode cX5_push 43 = .ok (.getfield 97, 3) := by decide +kernel
theorem dX5_push_46 : decode cX5_push 46 = .ok (.iload_n 2, 1) := by decide +kernel
theorem dX5_push_47 : decode cX5_push 47 = .ok (.iadd, 1) := by decide +kernel
theorem dX5_push_48 : decode cX5_push 48 = .ok (.putfield 97, 3) := by decide +kernel
theorem dX5_push_51 : decode cX5_push 51 = .ok (.aload_n 3, 1) := by decide +kernel
theorem dX5_push_52 : decode cX5_push 52 = .ok (.iconst 0, 1) := by decide +kernel
theorem dX5_push_53 : decode cX5_push 53 = .ok (.putfield 100, 3) := by decide +kernel
theorem dX5_push_56 : decode cX5_push 56 = .ok (.aload_n 3, 1) := by decide +kernel
theorem dX5_push_57 : decode cX5_push 57 = .ok (.getfield 97, 3) := by decide +kernel
theorem dX5_push_60 : decode cX5_push 60 = .ok (.ireturn, 1) := by decide +kernel
theorem dX5_oil_0 : decode cX5_oil 0 = .ok (.aload_n 0, 1) := by decide +kernel
theorem dX5_oil_1 : decode cX5_oil 1 = .ok (.getfield 12, 3) := by decide +kernel
theorem dX5_oil_4 : decode cX5_oil 4 = .ok (.iload_n 1, 1) := by decide +kernel
theorem dX5_oil_5 : decode cX5_oil 5 = .ok (.invokevirtual 78, 3) := by decide +kernel
theorem dX5_oil_8 : decode cX5_oil 8 = .ok (.ifCond .eq 13, 3) := by decide +kernel
theorem dX5_oil_11 : decode cX5_oil 11 = .ok (.iload_n 2, 1) := by decide +kernel
theorem dX5_oil_12 : decode cX5_oil 12 = .ok (.iconst 1, 1) := by decide +kernel
theorem dX5_oil_13 : decode cX5_oil 13 = .ok (.bipush 99, 2) := by decide +kernel
theorem dX5_oil_15 : decode cX5_oil 15 = .ok (.invokestatic 54, 3) := by decide +kernel
theorem dX5_oil_18 : decode cX5_oil 18 = .ok (.ifCond .ne 10, 3) := by decide +kernel
theorem dX5_oil_21 : decode cX5_oil 21 = .ok (.aload_n 0, 1) := by decide +kernel
theorem dX5_oil_22 : decode cX5_oil 22 = .ok (.ldc 58, 2) := by decide +kernel
theorem dX5_oil_24 : decode cX5_oil 24 = .ok (.invokevirtual 59, 3) := by decide +kernel
theorem dX5_oil_27 : decode cX5_oil 27 = .ok (.ireturn, 1) := by decide +kernel
theorem dX5_oil_28 : decode cX5_oil 28 = .ok (.aload_n 0, 1) := by decide +kernel
theorem dX5_oil_29 : decode cX5_oil 29 = .ok (.getfield 12, 3) := by decide +kernel
theorem dX5_oil_32 : decode cX5_oil 32 = .ok (.getfield 68, 3) := by decide +kernel
theorem dX5_oil_35 : decode cX5_oil 35 = .ok (.iload_n 1, 1) := by decide +kernel
theorem dX5_oil_36 : decode cX5_oil 36 = .ok (.aaload, 1) := by decide +kernel
theorem dX5_oil_37 : decode cX5_oil 37 = .ok (.astore_n 3, 1) := by decide +kernel
theorem dX5_oil_38 : decode cX5_oil 38 = .ok (.aload_n 3, 1) := by decide +kernel
theorem dX5_oil_39 : decode cX5_oil 39 = .ok (.bipush 99, 2) := by decide +kernel
theorem dX5_oil_41 : decode cX5_oil 41 = .ok (.aload_n 3, 1) := by decide +kernel
theorem dX5_oil_42 : decode cX5_oil 42 = .ok (.getfield 94, 3) := by decide +kernel
theorem dX5_oil_45 : decode cX5_oil 45 = .ok (.iload_n 2, 1) := by decide +kernel
theorem dX5_oil_46 : decode cX5_oil 46 = .ok (.iadd, 1) := by decide +kernel
theorem dX5_oil_47 : decode cX5_oil 47 = .ok (.invokestatic 121, 3) := by decide +kernel
theorem dX5_oil_50 : decode cX5_oil 50 = .ok (.putfield 94, 3) := by decide +kernel
theorem dX5_oil_53 : decode cX5_oil 53 = .ok (.aload_n 3, 1) := by decide +kernel
theorem dX5_oil_54 : decode cX5_oil 54 = .ok (.getfield 94, 3) := by decide +kernel
theorem dX5_oil_57 : decode cX5_oil 57 = .ok (.ireturn, 1) := by decide +kernel
theorem dX5_pace_0 : decode cX5_pace 0 = .ok (.iload_n 1, 1) := by decide +kernel
theorem dX5_pace_1 : decode cX5_pace 1 = .ok (.bipush (-99), 2) := by decide +kernel
theorem dX5_pace_3 : decode cX5_pace 3 = .ok (.bipush 99, 2) := by decide +kernel
theorem dX5_pace_5 : decode cX5_pace 5 = .ok (.invokestatic 54, 3) := by decide +kernel
theorem dX5_pace_8 : decode cX5_pace 8 = .ok (.ifCond .ne 10, 3) := by decide +kernel
theorem dX5_pace_11 : decode cX5_pace 11 = .ok (.aload_n 0, 1) := by decide +kernel
theorem dX5_pace_12 : decode cX5_pace 12 = .ok (.ldc 58, 2) := by decide +kernel
theorem dX5_pace_14 : decode cX5_pace 14 = .ok (.invokevirtual 59, 3) := by decide +kernel
theorem dX5_pace_17 : decode cX5_pace 17 = .ok (.ireturn, 1) := by decide +kernel
theorem dX5_pace_18 : decode cX5_pace 18 = .ok (.aload_n 0, 1) := by decide +kernel
theorem dX5_pace_19 : decode cX5_pace 19 = .ok (.getfield 12, 3) := by decide +kernel
theorem dX5_pace_22 : decode cX5_pace 22 = .ok (.getfield 126, 3) := by decide +kernel
theorem dX5_pace_25 : decode cX5_pace 25 = .ok (.istore_n 2, 1) := by decide +kernel
theorem dX5_pace_26 : decode cX5_pace 26 = .ok (.aload_n 0, 1) := by decide +kernel
theorem dX5_pace_27 : decode cX5_pace 27 = .ok (.getfield 12, 3) := by decide +kernel
theorem dX5_pace_30 : decode cX5_pace 30 = .ok (.iload_n 1, 1) := by decide +kernel
theorem dX5_pace_31 : decode cX5_pace 31 = .ok (.putfield 126, 3) := by decide +kernel
theorem dX5_pace_34 : decode cX5_pace 34 = .ok (.iload_n 2, 1) := by decide +kernel
theorem dX5_pace_35 : decode cX5_pace 35 = .ok (.ireturn, 1) := by decide +kernel
theorem dX5_ticks_0 : decode cX5_ticks 0 = .ok (.iload_n 1, 1) := by decide +kernel
theorem dX5_ticks_1 : decode cX5_ticks 1 = .ok (.iconst 1, 1) := by decide +kernel
theorem dX5_ticks_2 : decode cX5_ticks 2 = .ok (.bipush 100, 2) := by decide +kernel
theorem dX5_ticks_4 : decode cX5_ticks 4 = .ok (.invokestatic 54, 3) := by decide +kernel
theorem dX5_ticks_7 : decode cX5_ticks 7 = .ok (.ifCond .ne 10, 3) := by decide +kernel
theorem dX5_ticks_10 : decode cX5_ticks 10 = .ok (.aload_n 0, 1) := by decide +kernel
theorem dX5_ticks_11 : decode cX5_ticks 11 = .ok (.ldc 58, 2) := by decide +kernel
theorem dX5_ticks_13 : decode cX5_ticks 13 = .ok (.invokevirtual 59, 3) := by decide +kernel
theorem dX5_ticks_16 : decode cX5_ticks 16 = .ok (.ireturn, 1) := by decide +kernel
theorem dX5_ticks_17 : decode cX5_ticks 17 = .ok (.iconst 0, 1) := by decide +kernel
theorem dX5_ticks_18 : decode cX5_ticks 18 = .ok (.istore_n 2, 1) := by decide +kernel
theorem dX5_ticks_19 : decode cX5_ticks 19 = .ok (.iload_n 2, 1) := by decide +kernel
theorem dX5_ticks_20 : decode cX5_ticks 20 = .ok (.iload_n 1, 1) := by decide +kernel
theorem dX5_ticks_21 : decode cX5_ticks 21 = .ok (.if_icmp .ge 27, 3) := by decide +kernel
theorem dX5_ticks_24 : decode cX5_ticks 24 = .ok (.aload_n 0, 1) := by decide +kernel
theorem dX5_ticks_25 : decode cX5_ticks 25 = .ok (.getfield 12, 3) := by decide +kernel
theorem dX5_ticks_28 : decode cX5_ticks 28 = .ok (.invokevirtual 129, 3) := by decide +kernel
theorem dX5_ticks_31 : decode cX5_ticks 31 = .ok (.aload_n 0, 1) := by decide +kernel
theorem dX5_ticks_32 : decode cX5_ticks 32 = .ok (.getfield 25, 3) := by decide +kernel
theorem dX5_ticks_35 : decode cX5_ticks 35 = .ok (.aload_n 0, 1) := by decide +kernel
theorem dX5_ticks_36 : decode cX5_ticks 36 = .ok (.getfield 12, 3) := by decide +kernel
theorem dX5_ticks_39 : decode cX5_ticks 39 = .ok (.invokevirtual 132, 3) := by decide +kernel
theorem dX5_ticks_42 : decode cX5_ticks 42 = .ok (.iinc 2 1, 3) := by decide +kernel
theorem dX5_ticks_45 : decode cX5_ticks 45 = .ok (.goto (-26), 3) := by decide +kernel
theorem dX5_ticks_48 : decode cX5_ticks 48 = .ok (.aload_n 0, 1) := by decide +kernel
theorem dX5_ticks_49 : decode cX5_ticks 49 = .ok (.getfield 12, 3) := by decide +kernel
theorem dX5_ticks_52 : decode cX5_ticks 52 = .ok (.getfield 136, 3) := by decide +kernel
theorem dX5_ticks_55 : decode cX5_ticks 55 = .ok (.ireturn, 1) := by decide +kernel
theorem dX5_until_0 : decode cX5_until 0 = .ok (.iload_n 1, 1) := by decide +kernel
theorem dX5_until_1 : decode cX5_until 1 = .ok (.iconst 1, 1) := by decide +kernel
theorem dX5_until_2 : decode cX5_until 2 = .ok (.sipush 400, 3) := by decide +kernel
theorem dX5_until_5 : decode cX5_until 5 = .ok (.invokestatic 54, 3) := by decide +kernel
theorem dX5_until_8 : decode cX5_until 8 = .ok (.ifCond .eq 13, 3) := by decide +kernel
theorem dX5_until_11 : decode cX5_until 11 = .ok (.iload_n 2, 1) := by decide +kernel
theorem dX5_until_12 : decode cX5_until 12 = .ok (.iconst 1, 1) := by decide +kernel
theorem dX5_until_13 : decode cX5_until 13 = .ok (.bipush 100, 2) := by decide +kernel
theorem dX5_until_15 : decode cX5_until 15 = .ok (.invokestatic 54, 3) := by decide +kernel
theorem dX5_until_18 : decode cX5_until 18 = .ok (.ifCond .ne 10, 3) := by decide +kernel
theorem dX5_until_21 : decode cX5_until 21 = .ok (.aload_n 0, 1) := by decide +kernel
theorem dX5_until_22 : decode cX5_until 22 = .ok (.ldc 58, 2) := by decide +kernel
theorem dX5_until_24 : decode cX5_until 24 = .ok (.invokevirtual 59, 3) := by decide +kernel
theorem dX5_until_27 : decode cX5_until 27 = .ok (.ireturn, 1) := by decide +kernel
theorem dX5_until_28 : decode cX5_until 28 = .ok (.iconst 1, 1) := by decide +kernel
theorem dX5_until_29 : decode cX5_until 29 = .ok (.istore_n 3, 1) := by decide +kernel
theorem dX5_until_30 : decode cX5_until 30 = .ok (.iload_n 3, 1) := by decide +kernel
theorem dX5_until_31 : decode cX5_until 31 = .ok (.iload_n 2, 1) := by decide +kernel
theorem dX5_until_32 : decode cX5_until 32 = .ok (.if_icmp .gt 40, 3) := by decide +kernel
theorem dX5_until_35 : decode cX5_until 35 = .ok (.aload_n 0, 1) := by decide +kernel
theorem dX5_until_36 : decode cX5_until 36 = .ok (.getfield 12, 3) := by decide +kernel
theorem dX5_until_39 : decode cX5_until 39 = .ok (.invokevirtual 129, 3) := by decide +kernel
theorem dX5_until_42 : decode cX5_until 42 = .ok (.aload_n 0, 1) := by decide +kernel
theorem dX5_until_43 : decode cX5_until 43 = .ok (.getfield 25, 3) := by decide +kernel
theorem dX5_until_46 : decode cX5_until 46 = .ok (.aload_n 0, 1) := by decide +kernel
theorem dX5_until_47 : decode cX5_until 47 = .ok (.getfield 12, 3) := by decide +kernel
theorem dX5_until_50 : decode cX5_until 50 = .ok (.invokevirtual 132, 3) := by decide +kernel
theorem dX5_until_53 : decode cX5_until 53 = .ok (.aload_n 0, 1) := by decide +kernel
theorem dX5_until_54 : decode cX5_until 54 = .ok (.getfield 12, 3) := by decide +kernel
theorem dX5_until_57 : decode cX5_until 57 = .ok (.getfield 136, 3) := by decide +kernel
theorem dX5_until_60 : decode cX5_until 60 = .ok (.iload_n 1, 1) := by decide +kernel
theorem dX5_until_61 : decode cX5_until 61 = .ok (.if_icmp .lt 5, 3) := by decide +kernel
theorem dX5_until_64 : decode cX5_until 64 = .ok (.iload_n 3, 1) := by decide +kernel
theorem dX5_until_65 : decode cX5_until 65 = .ok (.ireturn, 1) := by decide +kernel
theorem dX5_until_66 : decode cX5_until 66 = .ok (.iinc 3 1, 3) := by decide +kernel
theorem dX5_until_69 : decode cX5_until 69 = .ok (.goto (-39), 3) := by decide +kernel
theorem dX5_until_72 : decode cX5_until 72 = .ok (.iload_n 2, 1) := by decide +kernel
theorem dX5_until_73 : decode cX5_until 73 = .ok (.ireturn, 1) := by decide +kernel
theorem dX5_book_0 : decode cX5_book 0 = .ok (.iload_n 1, 1) := by decide +kernel
theorem dX5_book_1 : decode cX5_book 1 = .ok (.iconst 0, 1) := by decide +kernel
theorem dX5_book_2 : decode cX5_book 2 = .ok (.aload_n 0, 1) := by decide +kernel
theorem dX5_book_3 : decode cX5_book 3 = .ok (.getfield 25, 3) := by decide +kernel
theorem dX5_book_6 : decode cX5_book 6 = .ok (.getfield 139, 3) := by decide +kernel
theorem dX5_book_9 : decode cX5_book 9 = .ok (.iconst 1, 1) := by decide +kernel
theorem dX5_book_10 : decode cX5_book 10 = .ok (.isub, 1) := by decide +kernel
theorem dX5_book_11 : decode cX5_book 11 = .ok (.invokestatic 54, 3) := by decide +kernel
theorem dX5_book_14 : decode cX5_book 14 = .ok (.ifCond .ne 10, 3) := by decide +kernel
theorem dX5_book_17 : decode cX5_book 17 = .ok (.aload_n 0, 1) := by decide +kernel
theorem dX5_book_18 : decode cX5_book 18 = .ok (.ldc 58, 2) := by decide +kernel
theorem dX5_book_20 : decode cX5_book 20 = .ok (.invokevirtual 59, 3) := by decide +kernel
theorem dX5_book_23 : decode cX5_book 23 = .ok (.ireturn, 1) := by decide +kernel
theorem dX5_book_24 : decode cX5_book 24 = .ok (.iload_n 2, 1) := by decide +kernel
theorem dX5_book_25 : decode cX5_book 25 = .ok (.tableswitch 78 0 2 #[27, 44, 61], 27) := by decide +kernel
theorem dX5_book_52 : decode cX5_book 52 = .ok (.aload_n 0, 1) := by decide +kernel
theorem dX5_book_53 : decode cX5_book 53 = .ok (.getfield 25, 3) := by decide +kernel
theorem dX5_book_56 : decode cX5_book 56 = .ok (.getfield 140, 3) := by decide +kernel
theorem dX5_book_59 : decode cX5_book 59 = .ok (.aload_n 0, 1) := by decide +kernel
theorem dX5_book_60 : decode cX5_book 60 = .ok (.getfield 25, 3) := by decide +kernel
theorem dX5_book_63 : decode cX5_book 63 = .ok (.iload_n 1, 1) := by decide +kernel
theorem dX5_book_64 : decode cX5_book 64 = .ok (.invokevirtual 143, 3) := by decide +kernel
theorem dX5_book_67 : decode cX5_book 67 = .ok (.iaload, 1) := by decide +kernel
theorem dX5_book_68 : decode cX5_book 68 = .ok (.ireturn, 1) := by decide +kernel
theorem dX5_book_69 : decode cX5_book 69 = .ok (.aload_n 0, 1) := by decide +kernel
theorem dX5_book_70 : decode cX5_book 70 = .ok (.getfield 25, 3) := by decide +kernel
theorem dX5_book_73 : decode cX5_book 73 = .ok (.getfield 146, 3) := by decide +kernel
theorem dX5_book_76 : decode cX5_book 76 = .ok (.aload_n 0, 1) := by decide +kernel
theorem dX5_book_77 : decode cX5_book 77 = .ok (.getfield 25, 3) := by decide +kernel
theorem dX5_book_80 : decode cX5_book 80 = .ok (.iload_n 1, 1) := by decide +kernel
theorem dX5_book_81 : decode cX5_book 81 = .ok (.invokevirtual 143, 3) := by decide +kernel
theorem dX5_book_84 : decode cX5_book 84 = .ok (.iaload, 1) := by decide +kernel
theorem dX5_book_85 : decode cX5_book 85 = .ok (.ireturn, 1) := by decide +kernel
theorem dX5_book_86 : decode cX5_book 86 = .ok (.aload_n 0, 1) := by decide +kernel
theorem dX5_book_87 : decode cX5_book 87 = .ok (.getfield 25, 3) := by decide +kernel
theorem dX5_book_90 : decode cX5_book 90 = .ok (.getfield 149, 3) := by decide +kernel
theorem dX5_book_93 : decode cX5_book 93 = .ok (.aload_n 0, 1) := by decide +kernel
theorem dX5_book_94 : decode cX5_book 94 = .ok (.getfield 25, 3) := by decide +kernel
theorem dX5_book_97 : decode cX5_book 97 = .ok (.iload_n 1, 1) := by decide +kernel
theorem dX5_book_98 : decode cX5_book 98 = .ok (.invokevirtual 143, 3) := by decide +kernel
theorem dX5_book_101 : decode cX5_book 101 = .ok (.iaload, 1) := by decide +kernel
theorem dX5_book_102 : decode cX5_book 102 = .ok (.ireturn, 1) := by decide +kernel
theorem dX5_book_103 : decode cX5_book 103 = .ok (.aload_n 0, 1) := by decide +kernel
theorem dX5_book_104 : decode cX5_book 104 = .ok (.ldc 58, 2) := by decide +kernel
theorem dX5_book_106 : decode cX5_book 106 = .ok (.invokevirtual 59, 3) := by decide +kernel
theorem dX5_book_109 : decode cX5_book 109 = .ok (.ireturn, 1) := by decide +kernel
theorem dX5_counts_0 : decode cX5_counts 0 = .ok (.iload_n 1, 1) := by decide +kernel
theorem dX5_counts_1 : decode cX5_counts 1 = .ok (.iconst 0, 1) := by decide +kernel
theorem dX5_counts_2 : decode cX5_counts 2 = .ok (.bipush 6, 2) := by decide +kernel
theorem dX5_counts_4 : decode cX5_counts 4 = .ok (.invokestatic 54, 3) := by decide +kernel
theorem dX5_counts_7 : decode cX5_counts 7 = .ok (.ifCond .ne 10, 3) := by decide +kernel
theorem dX5_counts_10 : decode cX5_counts 10 = .ok (.aload_n 0, 1) := by decide +kernel
theorem dX5_counts_11 : decode cX5_counts 11 = .ok (.ldc 58, 2) := by decide +kernel
theorem dX5_counts_13 : decode cX5_counts 13 = .ok (.invokevirtual 59, 3) := by decide +kernel
theorem dX5_counts_16 : decode cX5_counts 16 = .ok (.ireturn, 1) := by decide +kernel
theorem dX5_counts_17 : decode cX5_counts 17 = .ok (.aload_n 0, 1) := by decide +kernel
theorem dX5_counts_18 : decode cX5_counts 18 = .ok (.getfield 25, 3) := by decide +kernel
theorem dX5_counts_21 : decode cX5_counts 21 = .ok (.getfield 152, 3) := by decide +kernel
theorem dX5_counts_24 : decode cX5_counts 24 = .ok (.iload_n 1, 1) := by decide +kernel
theorem dX5_counts_25 : decode cX5_counts 25 = .ok (.iaload, 1) := by decide +kernel
theorem dX5_counts_26 : decode cX5_counts 26 = .ok (.ireturn, 1) := by decide +kernel
theorem dX5_power_0 : decode cX5_power 0 = .ok (.iconst 2, 1) := by decide +kernel
theorem dX5_power_1 : decode cX5_power 1 = .ok (.istore_n 1, 1) := by decide +kernel
theorem dX5_power_2 : decode cX5_power 2 = .ok (.iload_n 1, 1) := by decide +kernel
theorem dX5_power_3 : decode cX5_power 3 = .ok (.bipush 7, 2) := by decide +kernel
theorem dX5_power_5 : decode cX5_power 5 = .ok (.if_icmp .ge 34, 3) := by decide +kernel
theorem dX5_power_8 : decode cX5_power 8 = .ok (.aload_n 0, 1) := by decide +kernel
theorem dX5_power_9 : decode cX5_power 9 = .ok (.getfield 25, 3) := by decide +kernel
theorem dX5_power_12 : decode cX5_power 12 = .ok (.getfield 152, 3) := by decide +kernel
theorem dX5_power_15 : decode cX5_power 15 = .ok (.iload_n 1, 1) := by decide +kernel
theorem dX5_power_16 : decode cX5_power 16 = .ok (.iaload, 1) := by decide +kernel
theorem dX5_power_17 : decode cX5_power 17 = .ok (.aload_n 0, 1) := by decide +kernel
theorem dX5_power_18 : decode cX5_power 18 = .ok (.getfield 25, 3) := by decide +kernel
theorem dX5_power_21 : decode cX5_power 21 = .ok (.getfield 152, 3) := by decide +kernel
theorem dX5_power_24 : decode cX5_power 24 = .ok (.iload_n 1, 1) := by decide +kernel
theorem dX5_power_25 : decode cX5_power 25 = .ok (.iconst 1, 1) := by decide +kernel
theorem dX5_power_26 : decode cX5_power 26 = .ok (.isub, 1) := by decide +kernel
theorem dX5_power_27 : decode cX5_power 27 = .ok (.iaload, 1) := by decide +kernel
theorem dX5_power_28 : decode cX5_power 28 = .ok (.if_icmp .le 5, 3) := by decide +kernel
theorem dX5_power_31 : decode cX5_power 31 = .ok (.iconst 0, 1) := by decide +kernel
theorem dX5_power_32 : decode cX5_power 32 = .ok (.ireturn, 1) := by decide +kernel
theorem dX5_power_33 : decode cX5_power 33 = .ok (.iinc 1 1, 3) := by decide +kernel
theorem dX5_power_36 : decode cX5_power 36 = .ok (.goto (-34), 3) := by decide +kernel
theorem dX5_power_39 : decode cX5_power 39 = .ok (.iconst 1, 1) := by decide +kernel
theorem dX5_power_40 : decode cX5_power 40 = .ok (.ireturn, 1) := by decide +kernel
theorem dX5_tone_0 : decode cX5_tone 0 = .ok (.iconst (-1), 1) := by decide +kernel
theorem dX5_tone_1 : decode cX5_tone 1 = .ok (.istore_n 1, 1) := by decide +kernel
theorem dX5_tone_2 : decode cX5_tone 2 = .ok (.iconst 0, 1) := by decide +kernel
theorem dX5_tone_3 : decode cX5_tone 3 = .ok (.istore_n 2, 1) := by decide +kernel
theorem dX5_tone_4 : decode cX5_tone 4 = .ok (.iload_n 2, 1) := by decide +kernel
theorem dX5_tone_5 : decode cX5_tone 5 = .ok (.aload_n 0, 1) := by decide +kernel
theorem dX5_tone_6 : decode cX5_tone 6 = .ok (.getfield 25, 3) := by decide +kernel
theorem dX5_tone_9 : decode cX5_tone 9 = .ok (.getfield 139, 3) := by decide +kernel
theorem dX5_tone_12 : decode cX5_tone 12 = .ok (.if_icmp .ge 38, 3) := by decide +kernel
theorem dX5_tone_15 : decode cX5_tone 15 = .ok (.aload_n 0, 1) := by decide +kernel
theorem dX5_tone_16 : decode cX5_tone 16 = .ok (.getfield 25, 3) := by decide +kernel
theorem dX5_tone_19 : decode cX5_tone 19 = .ok (.getfield 140, 3) := by decide +kernel
theorem dX5_tone_22 : decode cX5_tone 22 = .ok (.aload_n 0, 1) := by decide +kernel
theorem dX5_tone_23 : decode cX5_tone 23 = .ok (.getfield 25, 3) := by decide +kernel
theorem dX5_tone_26 : decode cX5_tone 26 = .ok (.iload_n 2, 1) := by decide +kernel
theorem dX5_tone_27 : decode cX5_tone 27 = .ok (.invokevirtual 143, 3) := by decide +kernel
theorem dX5_tone_30 : decode cX5_tone 30 = .ok (.iaload, 1) := by decide +kernel
theorem dX5_tone_31 : decode cX5_tone 31 = .ok (.ifCond .le 13, 3) := by decide +kernel
theorem dX5_tone_34 : decode cX5_tone 34 = .ok (.iload_n 1, 1) := by decide +kernel
theorem dX5_tone_35 : decode cX5_tone 35 = .ok (.ifCond .lt 7, 3) := by decide +kernel
theorem dX5_tone_38 : decode cX5_tone 38 = .ok (.iload_n 2, 1) := by decide +kernel
theorem dX5_tone_39 : decode cX5_tone 39 = .ok (.iload_n 1, 1) := by decide +kernel
theorem dX5_tone_40 : decode cX5_tone 40 = .ok (.isub, 1) := by decide +kernel
theorem dX5_tone_41 : decode cX5_tone 41 = .ok (.ireturn, 1) := by decide +kernel
theorem dX5_tone_42 : decode cX5_tone 42 = .ok (.iload_n 2, 1) := by decide +kernel
theorem dX5_tone_43 : decode cX5_tone 43 = .ok (.istore_n 1, 1) := by decide +kernel
theorem dX5_tone_44 : decode cX5_tone 44 = .ok (.iinc 2 1, 3) := by decide +kernel
theorem dX5_tone_47 : decode cX5_tone 47 = .ok (.goto (-43), 3) := by decide +kernel
theorem dX5_tone_50 : decode cX5_tone 50 = .ok (.aload_n 0, 1) := by decide +kernel
theorem dX5_tone_51 : decode cX5_tone 51 = .ok (.ldc 155, 2) := by decide +kernel
theorem dX5_tone_53 : decode cX5_tone 53 = .ok (.invokevirtual 59, 3) := by decide +kernel
theorem dX5_tone_56 : decode cX5_tone 56 = .ok (.ireturn, 1) := by decide +kernel
theorem dX5_great_0 : decode cX5_great 0 = .ok (.iload_n 1, 1) := by decide +kernel
theorem dX5_great_1 : decode cX5_great 1 = .ok (.iconst 1, 1) := by decide +kernel
theorem dX5_great_2 : decode cX5_great 2 = .ok (.sipush 400, 3) := by decide +kernel
theorem dX5_great_5 : decode cX5_great 5 = .ok (.invokestatic 54, 3) := by decide +kernel
theorem dX5_great_8 : decode cX5_great 8 = .ok (.ifCond .eq 12, 3) := by decide +kernel
theorem dX5_great_11 : decode cX5_great 11 = .ok (.iload_n 2, 1) := by decide +kernel
theorem dX5_great_12 : decode cX5_great 12 = .ok (.iconst 0, 1) := by decide +kernel
theorem dX5_great_13 : decode cX5_great 13 = .ok (.iconst 1, 1) := by decide +kernel
theorem dX5_great_14 : decode cX5_great 14 = .ok (.invokestatic 54, 3) := by decide +kernel
theorem dX5_great_17 : decode cX5_great 17 = .ok (.ifCond .ne 10, 3) := by decide +kernel
theorem dX5_great_20 : decode cX5_great 20 = .ok (.aload_n 0, 1) := by decide +kernel
theorem dX5_great_21 : decode cX5_great 21 = .ok (.ldc 58, 2) := by decide +kernel
theorem dX5_great_23 : decode cX5_great 23 = .ok (.invokevirtual 59, 3) := by decide +kernel
theorem dX5_great_26 : decode cX5_great 26 = .ok (.ireturn, 1) := by decide +kernel
theorem dX5_great_27 : decode cX5_great 27 = .ok (.iconst 0, 1) := by decide +kernel
theorem dX5_great_28 : decode cX5_great 28 = .ok (.istore_n 3, 1) := by decide +kernel
theorem dX5_great_29 : decode cX5_great 29 = .ok (.iconst 0, 1) := by decide +kernel
theorem dX5_great_30 : decode cX5_great 30 = .ok (.istore 4, 2) := by decide +kernel
theorem dX5_great_32 : decode cX5_great 32 = .ok (.iconst 0, 1) := by decide +kernel
theorem dX5_great_33 : decode cX5_great 33 = .ok (.istore 5, 2) := by decide +kernel
theorem dX5_great_35 : decode cX5_great 35 = .ok (.iload 5, 2) := by decide +kernel
theorem dX5_great_37 : decode cX5_great 37 = .ok (.aload_n 0, 1) := by decide +kernel
theorem dX5_great_38 : decode cX5_great 38 = .ok (.getfield 25, 3) := by decide +kernel
theorem dX5_great_41 : decode cX5_great 41 = .ok (.getfield 139, 3) := by decide +kernel
theorem dX5_great_44 : decode cX5_great 44 = .ok (.if_icmp .ge 72, 3) := by decide +kernel
theorem dX5_great_47 : decode cX5_great 47 = .ok (.aload_n 0, 1) := by decide +kernel
theorem dX5_great_48 : decode cX5_great 48 = .ok (.getfield 25, 3) := by decide +kernel
theorem dX5_great_51 : decode cX5_great 51 = .ok (.getfield 140, 3) := by decide +kernel
theorem dX5_great_54 : decode cX5_great 54 = .ok (.aload_n 0, 1) := by decide +kernel
theorem dX5_great_55 : decode cX5_great 55 = .ok (.getfield 25, 3) := by decide +kernel
theorem dX5_great_58 : decode cX5_great 58 = .ok (.iload 5, 2) := by decide +kernel
theorem dX5_great_60 : decode cX5_great 60 = .ok (.invokevirtual 143, 3) := by decide +kernel
theorem dX5_great_63 : decode cX5_great 63 = .ok (.iaload, 1) := by decide +kernel
theorem dX5_great_64 : decode cX5_great 64 = .ok (.iload_n 1, 1) := by decide +kernel
theorem dX5_great_65 : decode cX5_great 65 = .ok (.if_icmp .lt 45, 3) := by decide +kernel
theorem dX5_great_68 : decode cX5_great 68 = .ok (.iinc 3 1, 3) := by decide +kernel
theorem dX5_great_71 : decode cX5_great 71 = .ok (.iload 5, 2) := by decide +kernel
theorem dX5_great_73 : decode cX5_great 73 = .ok (.iconst 1, 1) := by decide +kernel
theorem dX5_great_74 : decode cX5_great 74 = .ok (.iadd, 1) := by decide +kernel
theorem dX5_great_75 : decode cX5_great 75 = .ok (.aload_n 0, 1) := by decide +kernel
theorem dX5_great_76 : decode cX5_great 76 = .ok (.getfield 25, 3) := by decide +kernel
theorem dX5_great_79 : decode cX5_great 79 = .ok (.getfield 139, 3) := by decide +kernel
theorem dX5_great_82 : decode cX5_great 82 = .ok (.if_icmp .ge 28, 3) := by decide +kernel
theorem dX5_great_85 : decode cX5_great 85 = .ok (.aload_n 0, 1) := by decide +kernel
theorem dX5_great_86 : decode cX5_great 86 = .ok (.getfield 25, 3) := by decide +kernel
theorem dX5_great_89 : decode cX5_great 89 = .ok (.getfield 140, 3) := by decide +kernel
theorem dX5_great_92 : decode cX5_great 92 = .ok (.aload_n 0, 1) := by decide +kernel
theorem dX5_great_93 : decode cX5_great 93 = .ok (.getfield 25, 3) := by decide +kernel
theorem dX5_great_96 : decode cX5_great 96 = .ok (.iload 5, 2) := by decide +kernel
theorem dX5_great_98 : decode cX5_great 98 = .ok (.iconst 1, 1) := by decide +kernel
theorem dX5_great_99 : decode cX5_great 99 = .ok (.iadd, 1) := by decide +kernel
theorem dX5_great_100 : decode cX5_great 100 = .ok (.invokevirtual 143, 3) := by decide +kernel
theorem dX5_great_103 : decode cX5_great 103 = .ok (.iaload, 1) := by decide +kernel
theorem dX5_great_104 : decode cX5_great 104 = .ok (.ifCond .le 6, 3) := by decide +kernel
theorem dX5_great_107 : decode cX5_great 107 = .ok (.iinc 4 1, 3) := by decide +kernel
theorem dX5_great_110 : decode cX5_great 110 = .ok (.iinc 5 1, 3) := by decide +kernel
theorem dX5_great_113 : decode cX5_great 113 = .ok (.goto (-78), 3) := by decide +kernel
theorem dX5_great_116 : decode cX5_great 116 = .ok (.iload_n 2, 1) := by decide +kernel
theorem dX5_great_117 : decode cX5_great 117 = .ok (.ifCond .ne 7, 3) := by decide +kernel
theorem dX5_great_120 : decode cX5_great 120 = .ok (.iload_n 3, 1) := by decide +kernel
theorem dX5_great_121 : decode cX5_great 121 = .ok (.goto 5, 3) := by decide +kernel
theorem dX5_great_124 : decode cX5_great 124 = .ok (.iload 4, 2) := by decide +kernel
theorem dX5_great_126 : decode cX5_great 126 = .ok (.ireturn, 1) := by decide +kernel
theorem dX5_noise_0 : decode cX5_noise 0 = .ok (.aload_n 0, 1) := by decide +kernel
theorem dX5_noise_1 : decode cX5_noise 1 = .ok (.getfield 12, 3) := by decide +kernel
theorem dX5_noise_4 : decode cX5_noise 4 = .ok (.iload_n 1, 1) := by decide +kernel
theorem dX5_noise_5 : decode cX5_noise 5 = .ok (.invokevirtual 78, 3) := by decide +kernel
theorem dX5_noise_8 : decode cX5_noise 8 = .ok (.ifCond .ne 11, 3) := by decide +kernel
theorem dX5_noise_11 : decode cX5_noise 11 = .ok (.aload_n 0, 1) := by decide +kernel
theorem dX5_noise_12 : decode cX5_noise 12 = .ok (.ldc 58, 2) := by decide +kernel
theorem dX5_noise_14 : decode cX5_noise 14 = .ok (.invokevirtual 59, 3) := by decide +kernel
theorem dX5_noise_17 : decode cX5_noise 17 = .ok (.i2l, 1) := by decide +kernel
theorem dX5_noise_18 : decode cX5_noise 18 = .ok (.lreturn, 1) := by decide +kernel
theorem dX5_noise_19 : decode cX5_noise 19 = .ok (.lconst 0, 1) := by decide +kernel
theorem dX5_noise_20 : decode cX5_noise 20 = .ok (.lstore_n 2, 1) := by decide +kernel
theorem dX5_noise_21 : decode cX5_noise 21 = .ok (.iconst 0, 1) := by decide +kernel
theorem dX5_noise_22 : decode cX5_noise 22 = .ok (.istore 4, 2) := by decide +kernel
theorem dX5_noise_24 : decode cX5_noise 24 = .ok (.iload 4, 2) := by decide +kernel
theorem dX5_noise_26 : decode cX5_noise 26 = .ok (.aload_n 0, 1) := by decide +kernel
theorem dX5_noise_27 : decode cX5_noise 27 = .ok (.getfield 25, 3) := by decide +kernel
theorem dX5_noise_30 : decode cX5_noise 30 = .ok (.getfield 139, 3) := by decide +kernel
theorem dX5_noise_33 : decode cX5_noise 33 = .ok (.if_icmp .ge 52, 3) := by decide +kernel
theorem dX5_noise_36 : decode cX5_noise 36 = .ok (.aload_n 0, 1) := by decide +kernel
theorem dX5_noise_37 : decode cX5_noise 37 = .ok (.getfield 25, 3) := by decide +kernel
theorem dX5_noise_40 : decode cX5_noise 40 = .ok (.iload 4, 2) := by decide +kernel
theorem dX5_noise_42 : decode cX5_noise 42 = .ok (.invokevirtual 143, 3) := by decide +kernel
theorem dX5_noise_45 : decode cX5_noise 45 = .ok (.istore 5, 2) := by decide +kernel
theorem dX5_noise_47 : decode cX5_noise 47 = .ok (.aload_n 0, 1) := by decide +kernel
theorem dX5_noise_48 : decode cX5_noise 48 = .ok (.getfield 25, 3) := by decide +kernel
theorem dX5_noise_51 : decode cX5_noise 51 = .ok (.getfield 146, 3) := by decide +kernel
theorem dX5_noise_54 : decode cX5_noise 54 = .ok (.iload 5, 2) := by decide +kernel
theorem dX5_noise_56 : decode cX5_noise 56 = .ok (.iaload, 1) := by decide +kernel
theorem dX5_noise_57 : decode cX5_noise 57 = .ok (.iload_n 1, 1) := by decide +kernel
theorem dX5_noise_58 : decode cX5_noise 58 = .ok (.ishr, 1) := by decide +kernel
theorem dX5_noise_59 : decode cX5_noise 59 = .ok (.iconst 1, 1) := by decide +kernel
theorem dX5_noise_60 : decode cX5_noise 60 = .ok (.iand, 1) := by decide +kernel
theorem dX5_noise_61 : decode cX5_noise 61 = .ok (.iconst 1, 1) := by decide +kernel
theorem dX5_noise_62 : decode cX5_noise 62 = .ok (.if_icmp .ne 17, 3) := by decide +kernel
theorem dX5_noise_65 : decode cX5_noise 65 = .ok (.lload_n 2, 1) := by decide +kernel
theorem dX5_noise_66 : decode cX5_noise 66 = .ok (.aload_n 0, 1) := by decide +kernel
theorem dX5_noise_67 : decode cX5_noise 67 = .ok (.getfield 25, 3) := by decide +kernel
theorem dX5_noise_70 : decode cX5_noise 70 = .ok (.getfield 149, 3) := by decide +kernel
theorem dX5_noise_73 : decode cX5_noise 73 = .ok (.iload 5, 2) := by decide +kernel
theorem dX5_noise_75 : decode cX5_noise 75 = .ok (.iaload, 1) := by decide +kernel
theorem dX5_noise_76 : decode cX5_noise 76 = .ok (.i2l, 1) := by decide +kernel
theorem dX5_noise_77 : decode cX5_noise 77 = .ok (.ladd, 1) := by decide +kernel
theorem dX5_noise_78 : decode cX5_noise 78 = .ok (.lstore_n 2, 1) := by decide +kernel
theorem dX5_noise_79 : decode cX5_noise 79 = .ok (.iinc 4 1, 3) := by decide +kernel
theorem dX5_noise_82 : decode cX5_noise 82 = .ok (.goto (-58), 3) := by decide +kernel
theorem dX5_noise_85 : decode cX5_noise 85 = .ok (.lload_n 2, 1) := by decide +kernel
theorem dX5_noise_86 : decode cX5_noise 86 = .ok (.lreturn, 1) := by decide +kernel
theorem dX5_ahead_0 : decode cX5_ahead 0 = .ok (.iload_n 1, 1) := by decide +kernel
theorem dX5_ahead_1 : decode cX5_ahead 1 = .ok (.iconst 1, 1) := by decide +kernel
theorem dX5_ahead_2 : decode cX5_ahead 2 = .ok (.bipush 60, 2) := by decide +kernel
theorem dX5_ahead_4 : decode cX5_ahead 4 = .ok (.invokestatic 54, 3) := by decide +kernel
theorem dX5_ahead_7 : decode cX5_ahead 7 = .ok (.ifCond .eq 20, 3) := by decide +kernel
theorem dX5_ahead_10 : decode cX5_ahead 10 = .ok (.iload_n 2, 1) := by decide +kernel
theorem dX5_ahead_11 : decode cX5_ahead 11 = .ok (.iconst 0, 1) := by decide +kernel
theorem dX5_ahead_12 : decode cX5_ahead 12 = .ok (.iconst 3, 1) := by decide +kernel
theorem dX5_ahead_13 : decode cX5_ahead 13 = .ok (.aload_n 0, 1) := by decide +kernel
theorem dX5_ahead_14 : decode cX5_ahead 14 = .ok (.getfield 12, 3) := by decide +kernel
theorem dX5_ahead_17 : decode cX5_ahead 17 = .ok (.getfield 63, 3) := by decide +kernel
theorem dX5_ahead_20 : decode cX5_ahead 20 = .ok (.iadd, 1) := by decide +kernel
theorem dX5_ahead_21 : decode cX5_ahead 21 = .ok (.invokestatic 54, 3) := by decide +kernel
theorem dX5_ahead_24 : decode cX5_ahead 24 = .ok (.ifCond .ne 10, 3) := by decide +kernel
theorem dX5_ahead_27 : decode cX5_ahead 27 = .ok (.aload_n 0, 1) := by decide +kernel
theorem dX5_ahead_28 : decode cX5_ahead 28 = .ok (.ldc 58, 2) := by decide +kernel
theorem dX5_ahead_30 : decode cX5_ahead 30 = .ok (.invokevirtual 59, 3) := by decide +kernel
theorem dX5_ahead_33 : decode cX5_ahead 33 = .ok (.ireturn, 1) := by decide +kernel
theorem dX5_ahead_34 : decode cX5_ahead 34 = .ok (.iconst 0, 1) := by decide +kernel
theorem dX5_ahead_35 : decode cX5_ahead 35 = .ok (.istore_n 3, 1) := by decide +kernel
theorem dX5_ahead_36 : decode cX5_ahead 36 = .ok (.iconst 0, 1) := by decide +kernel
theorem dX5_ahead_37 : decode cX5_ahead 37 = .ok (.istore 4, 2) := by decide +kernel
theorem dX5_ahead_39 : decode cX5_ahead 39 = .ok (.iconst 0, 1) := by decide +kernel
theorem dX5_ahead_40 : decode cX5_ahead 40 = .ok (.istore 5, 2) := by decide +kernel
theorem dX5_ahead_42 : decode cX5_ahead 42 = .ok (.aload_n 0, 1) := by decide +kernel
theorem dX5_ahead_43 : decode cX5_ahead 43 = .ok (.getfield 19, 3) := by decide +kernel
theorem dX5_ahead_46 : decode cX5_ahead 46 = .ok (.aload_n 0, 1) := by decide +kernel
theorem dX5_ahead_47 : decode cX5_ahead 47 = .ok (.getfield 12, 3) := by decide +kernel
theorem dX5_ahead_50 : decode cX5_ahead 50 = .ok (.invokevirtual 156, 3) := by decide +kernel
theorem dX5_ahead_53 : decode cX5_ahead 53 = .ok (.iconst 0, 1) := by decide +kernel
theorem dX5_ahead_54 : decode cX5_ahead 54 = .ok (.istore 6, 2) := by decide +kernel
theorem dX5_ahead_56 : decode cX5_ahead 56 = .ok (.iload 6, 2) := by decide +kernel
theorem dX5_ahead_58 : decode cX5_ahead 58 = .ok (.iload_n 1, 1) := by decide +kernel
theorem dX5_ahead_59 : decode cX5_ahead 59 = .ok (.if_icmp .ge 60, 3) := by decide +kernel
theorem dX5_ahead_62 : decode cX5_ahead 62 = .ok (.aload_n 0, 1) := by decide +kernel
theorem dX5_ahead_63 : decode cX5_ahead 63 = .ok (.getfield 19, 3) := by decide +kernel
theorem dX5_ahead_66 : decode cX5_ahead 66 = .ok (.invokevirtual 129, 3) := by decide +kernel
theorem dX5_ahead_69 : decode cX5_ahead 69 = .ok (.iload_n 3, 1) := by decide +kernel
theorem dX5_ahead_70 : decode cX5_ahead 70 = .ok (.aload_n 0, 1) := by decide +kernel
theorem dX5_ahead_71 : decode cX5_ahead 71 = .ok (.getfield 19, 3) := by decide +kernel
theorem dX5_ahead_74 : decode cX5_ahead 74 = .ok (.getfield 136, 3) := by decide +kernel
theorem dX5_ahead_77 : decode cX5_ahead 77 = .ok (.ifCond .le 7, 3) := by decide +kernel
theorem dX5_ahead_80 : decode cX5_ahead 80 = .ok (.iconst 1, 1) := by decide +kernel
theorem dX5_ahead_81 : decode cX5_ahead 81 = .ok (.goto 4, 3) := by decide +kernel
theorem dX5_ahead_84 : decode cX5_ahead 84 = .ok (.iconst 0, 1) := by decide +kernel
theorem dX5_ahead_85 : decode cX5_ahead 85 = .ok (.iadd, 1) := by decide +kernel
theorem dX5_ahead_86 : decode cX5_ahead 86 = .ok (.istore_n 3, 1) := by decide +kernel
theorem dX5_ahead_87 : decode cX5_ahead 87 = .ok (.iload 4, 2) := by decide +kernel
theorem dX5_ahead_89 : decode cX5_ahead 89 = .ok (.aload_n 0, 1) := by decide +kernel
theorem dX5_ahead_90 : decode cX5_ahead 90 = .ok (.getfield 19, 3) := by decide +kernel
theorem dX5_ahead_93 : decode cX5_ahead 93 = .ok (.getfield 136, 3) := by decide +kernel
theorem dX5_ahead_96 : decode cX5_ahead 96 = .ok (.invokestatic 159, 3) := by decide +kernel
theorem dX5_ahead_99 : decode cX5_ahead 99 = .ok (.istore 4, 2) := by decide +kernel
theorem dX5_ahead_101 : decode cX5_ahead 101 = .ok (.iload 5, 2) := by decide +kernel
theorem dX5_ahead_103 : decode cX5_ahead 103 = .ok (.aload_n 0, 1) := by decide +kernel
theorem dX5_ahead_104 : decode cX5_ahead 104 = .ok (.getfield 19, 3) := by decide +kernel
theorem dX5_ahead_107 : decode cX5_ahead 107 = .ok (.getfield 162, 3) := by decide +kernel
theorem dX5_ahead_110 : decode cX5_ahead 110 = .ok (.iadd, 1) := by decide +kernel
theorem dX5_ahead_111 : decode cX5_ahead 111 = .ok (.istore 5, 2) := by decide +kernel
theorem dX5_ahead_113 : decode cX5_ahead 113 = .ok (.iinc 6 1, 3) := by decide +kernel
theorem dX5_ahead_116 : decode cX5_ahead 116 = .ok (.goto (-60), 3) := by decide +kernel
theorem dX5_ahead_119 : decode cX5_ahead 119 = .ok (.iload_n 2, 1) := by decide +kernel
theorem dX5_ahead_120 : decode cX5_ahead 120 = .ok (.tableswitch 51 0 3 #[32, 34, 45, 48], 32) := by decide +kernel
theorem dX5_ahead_152 : decode cX5_ahead 152 = .ok (.iload_n 3, 1) := by decide +kernel
theorem dX5_ahead_153 : decode cX5_ahead 153 = .ok (.ireturn, 1) := by decide +kernel
theorem dX5_ahead_154 : decode cX5_ahead 154 = .ok (.iload_n 3, 1) := by decide +kernel
theorem dX5_ahead_155 : decode cX5_ahead 155 = .ok (.iload_n 1, 1) := by decide +kernel
theorem dX5_ahead_156 : decode cX5_ahead 156 = .ok (.if_icmp .ne 7, 3) := by decide +kernel
theorem dX5_ahead_159 : decode cX5_ahead 159 = .ok (.iconst 1, 1) := by decide +kernel
theorem dX5_ahead_160 : decode cX5_ahead 160 = .ok (.goto 4, 3) := by decide +kernel
theorem dX5_ahead_163 : decode cX5_ahead 163 = .ok (.iconst 0, 1) := by decide +kernel
theorem dX5_ahead_164 : decode cX5_ahead 164 = .ok (.ireturn, 1) := by decide +kernel
theorem dX5_ahead_165 : decode cX5_ahead 165 = .ok (.iload 4, 2) := by decide +kernel
theorem dX5_ahead_167 : decode cX5_ahead 167 = .ok (.ireturn, 1) := by decide +kernel
theorem dX5_ahead_168 : decode cX5_ahead 168 = .ok (.iload 5, 2) := by decide +kernel
theorem dX5_ahead_170 : decode cX5_ahead 170 = .ok (.ireturn, 1) := by decide +kernel
theorem dX5_ahead_171 : decode cX5_ahead 171 = .ok (.aload_n 0, 1) := by decide +kernel
theorem dX5_ahead_172 : decode cX5_ahead 172 = .ok (.getfield 19, 3) := by decide +kernel
theorem dX5_ahead_175 : decode cX5_ahead 175 = .ok (.getfield 68, 3) := by decide +kernel
theorem dX5_ahead_178 : decode cX5_ahead 178 = .ok (.iload_n 2, 1) := by decide +kernel
theorem dX5_ahead_179 : decode cX5_ahead 179 = .ok (.iconst 4, 1) := by decide +kernel
theorem dX5_ahead_180 : decode cX5_ahead 180 = .ok (.isub, 1) := by decide +kernel
theorem dX5_ahead_181 : decode cX5_ahead 181 = .ok (.aaload, 1) := by decide +kernel
theorem dX5_ahead_182 : decode cX5_ahead 182 = .ok (.getfield 97, 3) := by decide +kernel
theorem dX5_ahead_185 : decode cX5_ahead 185 = .ok (.ireturn, 1) := by decide +kernel
theorem dX5_from_0 : decode cX5_from 0 = .ok (.iload_n 1, 1) := by decide +kernel
theorem dX5_from_1 : decode cX5_from 1 = .ok (.iconst 1, 1) := by decide +kernel
theorem dX5_from_2 : decode cX5_from 2 = .ok (.bipush 60, 2) := by decide +kernel
theorem dX5_from_4 : decode cX5_from 4 = .ok (.invokestatic 54, 3) := by decide +kernel
theorem dX5_from_7 : decode cX5_from 7 = .ok (.ifCond .ne 10, 3) := by decide +kernel
theorem dX5_from_10 : decode cX5_from 10 = .ok (.aload_n 0, 1) := by decide +kernel
theorem dX5_from_11 : decode cX5_from 11 = .ok (.ldc 58, 2) := by decide +kernel
theorem dX5_from_13 : decode cX5_from 13 = .ok (.invokevirtual 59, 3) := by decide +kernel
theorem dX5_from_16 : decode cX5_from 16 = .ok (.ireturn, 1) := by decide +kernel
theorem dX5_from_17 : decode cX5_from 17 = .ok (.iconst 0, 1) := by decide +kernel
theorem dX5_from_18 : decode cX5_from 18 = .ok (.istore_n 2, 1) := by decide +kernel
theorem dX5_from_19 : decode cX5_from 19 = .ok (.iload_n 2, 1) := by decide +kernel
theorem dX5_from_20 : decode cX5_from 20 = .ok (.bipush 99, 2) := by decide +kernel
theorem dX5_from_22 : decode cX5_from 22 = .ok (.if_icmp .gt 78, 3) := by decide +kernel
theorem dX5_from_25 : decode cX5_from 25 = .ok (.aload_n 0, 1) := by decide +kernel
theorem dX5_from_26 : decode cX5_from 26 = .ok (.getfield 19, 3) := by decide +kernel
theorem dX5_from_29 : decode cX5_from 29 = .ok (.aload_n 0, 1) := by decide +kernel
theorem dX5_from_30 : decode cX5_from 30 = .ok (.getfield 12, 3) := by decide +kernel
theorem dX5_from_33 : decode cX5_from 33 = .ok (.invokevirtual 156, 3) := by decide +kernel
theorem dX5_from_36 : decode cX5_from 36 = .ok (.aload_n 0, 1) := by decide +kernel
theorem dX5_from_37 : decode cX5_from 37 = .ok (.getfield 19, 3) := by decide +kernel
theorem dX5_from_40 : decode cX5_from 40 = .ok (.iload_n 2, 1) := by decide +kernel
theorem dX5_from_41 : decode cX5_from 41 = .ok (.putfield 126, 3) := by decide +kernel
theorem dX5_from_44 : decode cX5_from 44 = .ok (.iconst 1, 1) := by decide +kernel
theorem dX5_from_45 : decode cX5_from 45 = .ok (.istore_n 3, 1) := by decide +kernel
theorem dX5_from_46 : decode cX5_from 46 = .ok (.iconst 0, 1) := by decide +kernel
theorem dX5_from_47 : decode cX5_from 47 = .ok (.istore 4, 2) := by decide +kernel
theorem dX5_from_49 : decode cX5_from 49 = .ok (.iload 4, 2) := by decide +kernel
theorem dX5_from_51 : decode cX5_from 51 = .ok (.iload_n 1, 1) := by decide +kernel
theorem dX5_from_52 : decode cX5_from 52 = .ok (.if_icmp .ge 36, 3) := by decide +kernel
theorem dX5_from_55 : decode cX5_from 55 = .ok (.iload_n 3, 1) := by decide +kernel
theorem dX5_from_56 : decode cX5_from 56 = .ok (.ifCond .eq 32, 3) := by decide +kernel
theorem dX5_from_59 : decode cX5_from 59 = .ok (.aload_n 0, 1) := by decide +kernel
theorem dX5_from_60 : decode cX5_from 60 = .ok (.getfield 19, 3) := by decide +kernel
theorem dX5_from_63 : decode cX5_from 63 = .ok (.invokevirtual 129, 3) := by decide +kernel
theorem dX5_from_66 : decode cX5_from 66 = .ok (.aload_n 0, 1) := by decide +kernel
theorem dX5_from_67 : decode cX5_from 67 = .ok (.getfield 19, 3) := by decide +kernel
theorem dX5_from_70 : decode cX5_from 70 = .ok (.getfield 136, 3) := by decide +kernel
theorem dX5_from_73 : decode cX5_from 73 = .ok (.ifCond .le 7, 3) := by decide +kernel
theorem dX5_from_76 : decode cX5_from 76 = .ok (.iconst 1, 1) := by decide +kernel
theorem dX5_from_77 : decode cX5_from 77 = .ok (.goto 4, 3) := by decide +kernel
theorem dX5_from_80 : decode cX5_from 80 = .ok (.iconst 0, 1) := by decide +kernel
theorem dX5_from_81 : decode cX5_from 81 = .ok (.istore_n 3, 1) := by decide +kernel
theorem dX5_from_82 : decode cX5_from 82 = .ok (.iinc 4 1, 3) := by decide +kernel
theorem dX5_from_85 : decode cX5_from 85 = .ok (.goto (-36), 3) := by decide +kernel
theorem dX5_from_88 : decode cX5_from 88 = .ok (.iload_n 3, 1) := by decide +kernel
theorem dX5_from_89 : decode cX5_from 89 = .ok (.ifCond .eq 5, 3) := by decide +kernel
theorem dX5_from_92 : decode cX5_from 92 = .ok (.iload_n 2, 1) := by decide +kernel
theorem dX5_from_93 : decode cX5_from 93 = .ok (.ireturn, 1) := by decide +kernel
theorem dX5_from_94 : decode cX5_from 94 = .ok (.iinc 2 1, 3) := by decide +kernel
theorem dX5_from_97 : decode cX5_from 97 = .ok (.goto (-78), 3) := by decide +kernel
theorem dX5_from_100 : decode cX5_from 100 = .ok (.aload_n 0, 1) := by decide +kernel
theorem dX5_from_101 : decode cX5_from 101 = .ok (.ldc 155, 2) := by decide +kernel
theorem dX5_from_103 : decode cX5_from 103 = .ok (.invokevirtual 59, 3) := by decide +kernel
theorem dX5_from_106 : decode cX5_from 106 = .ok (.ireturn, 1) := by decide +kernel
theorem dX5_still_0 : decode cX5_still 0 = .ok (.aload_n 0, 1) := by decide +kernel
theorem dX5_still_1 : decode cX5_still 1 = .ok (.getfield 12, 3) := by decide +kernel
theorem dX5_still_4 : decode cX5_still 4 = .ok (.iload_n 1, 1) := by decide +kernel
theorem dX5_still_5 : decode cX5_still 5 = .ok (.invokevirtual 78, 3) := by decide +kernel
theorem dX5_still_8 : decode cX5_still 8 = .ok (.ifCond .eq 24, 3) := by decide +kernel
theorem dX5_still_11 : decode cX5_still 11 = .ok (.iload_n 2, 1) := by decide +kernel
theorem dX5_still_12 : decode cX5_still 12 = .ok (.iconst 1, 1) := by decide +kernel
theorem dX5_still_13 : decode cX5_still 13 = .ok (.bipush 60, 2) := by decide +kernel
theorem dX5_still_15 : decode cX5_still 15 = .ok (.invokestatic 54, 3) := by decide +kernel
theorem dX5_still_18 : decode cX5_still 18 = .ok (.ifCond .eq 14, 3) := by decide +kernel
theorem dX5_still_21 : decode cX5_still 21 = .ok (.iload_n 3, 1) := by decide +kernel
theorem dX5_still_22 : decode cX5_still 22 = .ok (.iconst 0, 1) := by decide +kernel
theorem dX5_still_23 : decode cX5_still 23 = .ok (.sipush 400, 3) := by decide +kernel
theorem dX5_still_26 : decode cX5_still 26 = .ok (.invokestatic 54, 3) := by decide +kernel
theorem dX5_still_29 : decode cX5_still 29 = .ok (.ifCond .ne 10, 3) := by decide +kernel
theorem dX5_still_32 : decode cX5_still 32 = .ok (.aload_n 0, 1) := by decide +kernel
theorem dX5_still_33 : decode cX5_still 33 = .ok (.ldc 58, 2) := by decide +kernel
theorem dX5_still_35 : decode cX5_still 35 = .ok (.invokevirtual 59, 3) := by decide +kernel
theorem dX5_still_38 : decode cX5_still 38 = .ok (.ireturn, 1) := by decide +kernel
theorem dX5_still_39 : decode cX5_still 39 = .ok (.iconst 0, 1) := by decide +kernel
theorem dX5_still_40 : decode cX5_still 40 = .ok (.istore 4, 2) := by decide +kernel
theorem dX5_still_42 : decode cX5_still 42 = .ok (.iload 4, 2) := by decide +kernel
theorem dX5_still_44 : decode cX5_still 44 = .ok (.bipush 99, 2) := by decide +kernel
theorem dX5_still_46 : decode cX5_still 46 = .ok (.if_icmp .gt 90, 3) := by decide +kernel
theorem dX5_still_49 : decode cX5_still 49 = .ok (.aload_n 0, 1) := by decide +kernel
theorem dX5_still_50 : decode cX5_still 50 = .ok (.getfield 19, 3) := by decide +kernel
theorem dX5_still_53 : decode cX5_still 53 = .ok (.aload_n 0, 1) := by decide +kernel
theorem dX5_still_54 : decode cX5_still 54 = .ok (.getfield 12, 3) := by decide +kernel
theorem dX5_still_57 : decode cX5_still 57 = .ok (.invokevirtual 156, 3) := by decide +kernel
theorem dX5_still_60 : decode cX5_still 60 = .ok (.aload_n 0, 1) := by decide +kernel
theorem dX5_still_61 : decode cX5_still 61 = .ok (.getfield 19, 3) := by decide +kernel
theorem dX5_still_64 : decode cX5_still 64 = .ok (.getfield 68, 3) := by decide +kernel
theorem dX5_still_67 : decode cX5_still 67 = .ok (.iload_n 1, 1) := by decide +kernel
theorem dX5_still_68 : decode cX5_still 68 = .ok (.aaload, 1) := by decide +kernel
theorem dX5_still_69 : decode cX5_still 69 = .ok (.iload 4, 2) := by decide +kernel
end
section
theorem dX5_still_71 : decode cX5_still 71 = .ok (.putfield 94, 3) := by decide +kernel
theorem dX5_still_74 : decode cX5_still 74 = .ok (.iconst 1, 1) := by decide +kernel
theorem dX5_still_75 : decode cX5_still 75 = .ok (.istore 5, 2) := by decide +kernel
theorem dX5_still_77 : decode cX5_still 77 = .ok (.iconst 0, 1) := by decide +kernel
theorem dX5_still_78 : decode cX5_still 78 = .ok (.istore 6, 2) := by decide +kernel
theorem dX5_still_80 : decode cX5_still 80 = .ok (.iload 6, 2) := by decide +kernel
theorem dX5_still_82 : decode cX5_still 82 = .ok (.iload_n 2, 1) := by decide +kernel
theorem dX5_still_83 : decode cX5_still 83 = .ok (.if_icmp .ge 39, 3) := by decide +kernel
theorem dX5_still_86 : decode cX5_still 86 = .ok (.iload 5, 2) := by decide +kernel
theorem dX5_still_88 : decode cX5_still 88 = .ok (.ifCond .eq 34, 3) := by decide +kernel
theorem dX5_still_91 : decode cX5_still 91 = .ok (.aload_n 0, 1) := by decide +kernel
theorem dX5_still_92 : decode cX5_still 92 = .ok (.getfield 19, 3) := by decide +kernel
theorem dX5_still_95 : decode cX5_still 95 = .ok (.invokevirtual 129, 3) := by decide +kernel
theorem dX5_still_98 : decode cX5_still 98 = .ok (.aload_n 0, 1) := by decide +kernel
theorem dX5_still_99 : decode cX5_still 99 = .ok (.getfield 19, 3) := by decide +kernel
theorem dX5_still_102 : decode cX5_still 102 = .ok (.getfield 136, 3) := by decide +kernel
theorem dX5_still_105 : decode cX5_still 105 = .ok (.iload_n 3, 1) := by decide +kernel
theorem dX5_still_106 : decode cX5_still 106 = .ok (.if_icmp .gt 7, 3) := by decide +kernel
theorem dX5_still_109 : decode cX5_still 109 = .ok (.iconst 1, 1) := by decide +kernel
theorem dX5_still_110 : decode cX5_still 110 = .ok (.goto 4, 3) := by decide +kernel
theorem dX5_still_113 : decode cX5_still 113 = .ok (.iconst 0, 1) := by decide +kernel
theorem dX5_still_114 : decode cX5_still 114 = .ok (.istore 5, 2) := by decide +kernel
theorem dX5_still_116 : decode cX5_still 116 = .ok (.iinc 6 1, 3) := by decide +kernel
theorem dX5_still_119 : decode cX5_still 119 = .ok (.goto (-39), 3) := by decide +kernel
theorem dX5_still_122 : decode cX5_still 122 = .ok (.iload 5, 2) := by decide +kernel
theorem dX5_still_124 : decode cX5_still 124 = .ok (.ifCond .eq 6, 3) := by decide +kernel
theorem dX5_still_127 : decode cX5_still 127 = .ok (.iload 4, 2) := by decide +kernel
theorem dX5_still_129 : decode cX5_still 129 = .ok (.ireturn, 1) := by decide +kernel
theorem dX5_still_130 : decode cX5_still 130 = .ok (.iinc 4 1, 3) := by decide +kernel
theorem dX5_still_133 : decode cX5_still 133 = .ok (.goto (-91), 3) := by decide +kernel
theorem dX5_still_136 : decode cX5_still 136 = .ok (.aload_n 0, 1) := by decide +kernel
theorem dX5_still_137 : decode cX5_still 137 = .ok (.ldc 155, 2) := by decide +kernel
theorem dX5_still_139 : decode cX5_still 139 = .ok (.invokevirtual 59, 3) := by decide +kernel
theorem dX5_still_142 : decode cX5_still 142 = .ok (.ireturn, 1) := by decide +kernel
theorem dX5_which_0 : decode cX5_which 0 = .ok (.aload_n 0, 1) := by decide +kernel
theorem dX5_which_1 : decode cX5_which 1 = .ok (.getfield 12, 3) := by decide +kernel
theorem dX5_which_4 : decode cX5_which 4 = .ok (.iload_n 1, 1) := by decide +kernel
theorem dX5_which_5 : decode cX5_which 5 = .ok (.invokevirtual 78, 3) := by decide +kernel
theorem dX5_which_8 : decode cX5_which 8 = .ok (.ifCond .eq 12, 3) := by decide +kernel
theorem dX5_which_11 : decode cX5_which 11 = .ok (.iload_n 2, 1) := by decide +kernel
theorem dX5_which_12 : decode cX5_which 12 = .ok (.iconst 0, 1) := by decide +kernel
theorem dX5_which_13 : decode cX5_which 13 = .ok (.iconst 3, 1) := by decide +kernel
theorem dX5_which_14 : decode cX5_which 14 = .ok (.invokestatic 54, 3) := by decide +kernel
theorem dX5_which_17 : decode cX5_which 17 = .ok (.ifCond .ne 10, 3) := by decide +kernel
theorem dX5_which_20 : decode cX5_which 20 = .ok (.aload_n 0, 1) := by decide +kernel
theorem dX5_which_21 : decode cX5_which 21 = .ok (.ldc 58, 2) := by decide +kernel
theorem dX5_which_23 : decode cX5_which 23 = .ok (.invokevirtual 59, 3) := by decide +kernel
theorem dX5_which_26 : decode cX5_which 26 = .ok (.ireturn, 1) := by decide +kernel
theorem dX5_which_27 : decode cX5_which 27 = .ok (.aload_n 0, 1) := by decide +kernel
theorem dX5_which_28 : decode cX5_which 28 = .ok (.getfield 45, 3) := by decide +kernel
theorem dX5_which_31 : decode cX5_which 31 = .ok (.iload_n 2, 1) := by decide +kernel
theorem dX5_which_32 : decode cX5_which 32 = .ok (.aaload, 1) := by decide +kernel
theorem dX5_which_33 : decode cX5_which 33 = .ok (.astore_n 3, 1) := by decide +kernel
theorem dX5_which_34 : decode cX5_which 34 = .ok (.aload_n 3, 1) := by decide +kernel
theorem dX5_which_35 : decode cX5_which 35 = .ok (.invokevirtual 165, 3) := by decide +kernel
theorem dX5_which_38 : decode cX5_which 38 = .ok (.ifCond .eq 10, 3) := by decide +kernel
theorem dX5_which_41 : decode cX5_which 41 = .ok (.aload_n 0, 1) := by decide +kernel
theorem dX5_which_42 : decode cX5_which 42 = .ok (.ldc 169, 2) := by decide +kernel
theorem dX5_which_44 : decode cX5_which 44 = .ok (.invokevirtual 59, 3) := by decide +kernel
theorem dX5_which_47 : decode cX5_which 47 = .ok (.ireturn, 1) := by decide +kernel
theorem dX5_which_48 : decode cX5_which 48 = .ok (.aload_n 3, 1) := by decide +kernel
theorem dX5_which_49 : decode cX5_which 49 = .ok (.getfield 170, 3) := by decide +kernel
theorem dX5_which_52 : decode cX5_which 52 = .ok (.ifCond .ne 10, 3) := by decide +kernel
theorem dX5_which_55 : decode cX5_which 55 = .ok (.aload_n 0, 1) := by decide +kernel
theorem dX5_which_56 : decode cX5_which 56 = .ok (.ldc 171, 2) := by decide +kernel
theorem dX5_which_58 : decode cX5_which 58 = .ok (.invokevirtual 59, 3) := by decide +kernel
theorem dX5_which_61 : decode cX5_which 61 = .ok (.ireturn, 1) := by decide +kernel
theorem dX5_which_62 : decode cX5_which 62 = .ok (.iconst 0, 1) := by decide +kernel
theorem dX5_which_63 : decode cX5_which 63 = .ok (.istore 4, 2) := by decide +kernel
theorem dX5_which_65 : decode cX5_which 65 = .ok (.iconst 0, 1) := by decide +kernel
theorem dX5_which_66 : decode cX5_which 66 = .ok (.istore 5, 2) := by decide +kernel
theorem dX5_which_68 : decode cX5_which 68 = .ok (.iload 5, 2) := by decide +kernel
theorem dX5_which_70 : decode cX5_which 70 = .ok (.bipush 6, 2) := by decide +kernel
theorem dX5_which_72 : decode cX5_which 72 = .ok (.if_icmp .ge 111, 3) := by decide +kernel
theorem dX5_which_75 : decode cX5_which 75 = .ok (.aload_n 0, 1) := by decide +kernel
theorem dX5_which_76 : decode cX5_which 76 = .ok (.getfield 19, 3) := by decide +kernel
theorem dX5_which_79 : decode cX5_which 79 = .ok (.aload_n 0, 1) := by decide +kernel
theorem dX5_which_80 : decode cX5_which 80 = .ok (.getfield 12, 3) := by decide +kernel
theorem dX5_which_83 : decode cX5_which 83 = .ok (.invokevirtual 156, 3) := by decide +kernel
theorem dX5_which_86 : decode cX5_which 86 = .ok (.aload_n 0, 1) := by decide +kernel
theorem dX5_which_87 : decode cX5_which 87 = .ok (.getfield 19, 3) := by decide +kernel
theorem dX5_which_90 : decode cX5_which 90 = .ok (.getfield 68, 3) := by decide +kernel
theorem dX5_which_93 : decode cX5_which 93 = .ok (.iload_n 1, 1) := by decide +kernel
theorem dX5_which_94 : decode cX5_which 94 = .ok (.aaload, 1) := by decide +kernel
theorem dX5_which_95 : decode cX5_which 95 = .ok (.iload 5, 2) := by decide +kernel
theorem dX5_which_97 : decode cX5_which 97 = .ok (.putfield 82, 3) := by decide +kernel
theorem dX5_which_100 : decode cX5_which 100 = .ok (.iconst 1, 1) := by decide +kernel
theorem dX5_which_101 : decode cX5_which 101 = .ok (.istore 6, 2) := by decide +kernel
theorem dX5_which_103 : decode cX5_which 103 = .ok (.iconst 0, 1) := by decide +kernel
theorem dX5_which_104 : decode cX5_which 104 = .ok (.istore 7, 2) := by decide +kernel
theorem dX5_which_106 : decode cX5_which 106 = .ok (.iload 7, 2) := by decide +kernel
theorem dX5_which_108 : decode cX5_which 108 = .ok (.aload_n 3, 1) := by decide +kernel
theorem dX5_which_109 : decode cX5_which 109 = .ok (.getfield 170, 3) := by decide +kernel
theorem dX5_which_112 : decode cX5_which 112 = .ok (.if_icmp .ge 47, 3) := by decide +kernel
theorem dX5_which_115 : decode cX5_which 115 = .ok (.iload 6, 2) := by decide +kernel
theorem dX5_which_117 : decode cX5_which 117 = .ok (.ifCond .eq 42, 3) := by decide +kernel
theorem dX5_which_120 : decode cX5_which 120 = .ok (.aload_n 0, 1) := by decide +kernel
theorem dX5_which_121 : decode cX5_which 121 = .ok (.getfield 19, 3) := by decide +kernel
theorem dX5_which_124 : decode cX5_which 124 = .ok (.invokevirtual 129, 3) := by decide +kernel
theorem dX5_which_127 : decode cX5_which 127 = .ok (.aload_n 0, 1) := by decide +kernel
theorem dX5_which_128 : decode cX5_which 128 = .ok (.getfield 19, 3) := by decide +kernel
theorem dX5_which_131 : decode cX5_which 131 = .ok (.getfield 136, 3) := by decide +kernel
theorem dX5_which_134 : decode cX5_which 134 = .ok (.i2l, 1) := by decide +kernel
theorem dX5_which_135 : decode cX5_which 135 = .ok (.aload_n 3, 1) := by decide +kernel
theorem dX5_which_136 : decode cX5_which 136 = .ok (.getfield 172, 3) := by decide +kernel
theorem dX5_which_139 : decode cX5_which 139 = .ok (.iload 7, 2) := by decide +kernel
theorem dX5_which_141 : decode cX5_which 141 = .ok (.laload, 1) := by decide +kernel
theorem dX5_which_142 : decode cX5_which 142 = .ok (.lcmp, 1) := by decide +kernel
theorem dX5_which_143 : decode cX5_which 143 = .ok (.ifCond .ne 7, 3) := by decide +kernel
theorem dX5_which_146 : decode cX5_which 146 = .ok (.iconst 1, 1) := by decide +kernel
theorem dX5_which_147 : decode cX5_which 147 = .ok (.goto 4, 3) := by decide +kernel
theorem dX5_which_150 : decode cX5_which 150 = .ok (.iconst 0, 1) := by decide +kernel
theorem dX5_which_151 : decode cX5_which 151 = .ok (.istore 6, 2) := by decide +kernel
theorem dX5_which_153 : decode cX5_which 153 = .ok (.iinc 7 1, 3) := by decide +kernel
theorem dX5_which_156 : decode cX5_which 156 = .ok (.goto (-50), 3) := by decide +kernel
theorem dX5_which_159 : decode cX5_which 159 = .ok (.iload 4, 2) := by decide +kernel
theorem dX5_which_161 : decode cX5_which 161 = .ok (.iload 6, 2) := by decide +kernel
theorem dX5_which_163 : decode cX5_which 163 = .ok (.ifCond .eq 10, 3) := by decide +kernel
theorem dX5_which_166 : decode cX5_which 166 = .ok (.iconst 1, 1) := by decide +kernel
theorem dX5_which_167 : decode cX5_which 167 = .ok (.iload 5, 2) := by decide +kernel
theorem dX5_which_169 : decode cX5_which 169 = .ok (.ishl, 1) := by decide +kernel
theorem dX5_which_170 : decode cX5_which 170 = .ok (.goto 4, 3) := by decide +kernel
theorem dX5_which_173 : decode cX5_which 173 = .ok (.iconst 0, 1) := by decide +kernel
theorem dX5_which_174 : decode cX5_which 174 = .ok (.ior, 1) := by decide +kernel
theorem dX5_which_175 : decode cX5_which 175 = .ok (.istore 4, 2) := by decide +kernel
theorem dX5_which_177 : decode cX5_which 177 = .ok (.iinc 5 1, 3) := by decide +kernel
theorem dX5_which_180 : decode cX5_which 180 = .ok (.goto (-112), 3) := by decide +kernel
theorem dX5_which_183 : decode cX5_which 183 = .ok (.iload 4, 2) := by decide +kernel
theorem dX5_which_185 : decode cX5_which 185 = .ok (.ireturn, 1) := by decide +kernel
theorem dX5_together_0 : decode cX5_together 0 = .ok (.aload_n 0, 1) := by decide +kernel
theorem dX5_together_1 : decode cX5_together 1 = .ok (.getfield 12, 3) := by decide +kernel
theorem dX5_together_4 : decode cX5_together 4 = .ok (.iload_n 1, 1) := by decide +kernel
theorem dX5_together_5 : decode cX5_together 5 = .ok (.invokevirtual 78, 3) := by decide +kernel
theorem dX5_together_8 : decode cX5_together 8 = .ok (.ifCond .eq 29, 3) := by decide +kernel
theorem dX5_together_11 : decode cX5_together 11 = .ok (.aload_n 0, 1) := by decide +kernel
theorem dX5_together_12 : decode cX5_together 12 = .ok (.getfield 12, 3) := by decide +kernel
theorem dX5_together_15 : decode cX5_together 15 = .ok (.iload_n 2, 1) := by decide +kernel
theorem dX5_together_16 : decode cX5_together 16 = .ok (.invokevirtual 78, 3) := by decide +kernel
theorem dX5_together_19 : decode cX5_together 19 = .ok (.ifCond .eq 18, 3) := by decide +kernel
theorem dX5_together_22 : decode cX5_together 22 = .ok (.iload_n 1, 1) := by decide +kernel
theorem dX5_together_23 : decode cX5_together 23 = .ok (.iload_n 2, 1) := by decide +kernel
theorem dX5_together_24 : decode cX5_together 24 = .ok (.if_icmp .eq 13, 3) := by decide +kernel
theorem dX5_together_27 : decode cX5_together 27 = .ok (.iload_n 3, 1) := by decide +kernel
theorem dX5_together_28 : decode cX5_together 28 = .ok (.iconst 1, 1) := by decide +kernel
theorem dX5_together_29 : decode cX5_together 29 = .ok (.bipush 60, 2) := by decide +kernel
theorem dX5_together_31 : decode cX5_together 31 = .ok (.invokestatic 54, 3) := by decide +kernel
theorem dX5_together_34 : decode cX5_together 34 = .ok (.ifCond .ne 10, 3) := by decide +kernel
theorem dX5_together_37 : decode cX5_together 37 = .ok (.aload_n 0, 1) := by decide +kernel
theorem dX5_together_38 : decode cX5_together 38 = .ok (.ldc 58, 2) := by decide +kernel
theorem dX5_together_40 : decode cX5_together 40 = .ok (.invokevirtual 59, 3) := by decide +kernel
theorem dX5_together_43 : decode cX5_together 43 = .ok (.ireturn, 1) := by decide +kernel
theorem dX5_together_44 : decode cX5_together 44 = .ok (.iconst 0, 1) := by decide +kernel
theorem dX5_together_45 : decode cX5_together 45 = .ok (.istore 4, 2) := by decide +kernel
theorem dX5_together_47 : decode cX5_together 47 = .ok (.aload_n 0, 1) := by decide +kernel
theorem dX5_together_48 : decode cX5_together 48 = .ok (.getfield 19, 3) := by decide +kernel
theorem dX5_together_51 : decode cX5_together 51 = .ok (.aload_n 0, 1) := by decide +kernel
theorem dX5_together_52 : decode cX5_together 52 = .ok (.getfield 12, 3) := by decide +kernel
theorem dX5_together_55 : decode cX5_together 55 = .ok (.invokevirtual 156, 3) := by decide +kernel
theorem dX5_together_58 : decode cX5_together 58 = .ok (.iconst 0, 1) := by decide +kernel
theorem dX5_together_59 : decode cX5_together 59 = .ok (.istore 5, 2) := by decide +kernel
theorem dX5_together_61 : decode cX5_together 61 = .ok (.iload 5, 2) := by decide +kernel
theorem dX5_together_63 : decode cX5_together 63 = .ok (.iload_n 3, 1) := by decide +kernel
theorem dX5_together_64 : decode cX5_together 64 = .ok (.if_icmp .ge 42, 3) := by decide +kernel
theorem dX5_together_67 : decode cX5_together 67 = .ok (.aload_n 0, 1) := by decide +kernel
theorem dX5_together_68 : decode cX5_together 68 = .ok (.getfield 19, 3) := by decide +kernel
theorem dX5_together_71 : decode cX5_together 71 = .ok (.invokevirtual 129, 3) := by decide +kernel
theorem dX5_together_74 : decode cX5_together 74 = .ok (.iload 4, 2) := by decide +kernel
theorem dX5_together_76 : decode cX5_together 76 = .ok (.aload_n 0, 1) := by decide +kernel
theorem dX5_together_77 : decode cX5_together 77 = .ok (.getfield 19, 3) := by decide +kernel
theorem dX5_together_80 : decode cX5_together 80 = .ok (.getfield 176, 3) := by decide +kernel
theorem dX5_together_83 : decode cX5_together 83 = .ok (.iload_n 1, 1) := by decide +kernel
theorem dX5_together_84 : decode cX5_together 84 = .ok (.ishr, 1) := by decide +kernel
theorem dX5_together_85 : decode cX5_together 85 = .ok (.aload_n 0, 1) := by decide +kernel
theorem dX5_together_86 : decode cX5_together 86 = .ok (.getfield 19, 3) := by decide +kernel
theorem dX5_together_89 : decode cX5_together 89 = .ok (.getfield 176, 3) := by decide +kernel
theorem dX5_together_92 : decode cX5_together 92 = .ok (.iload_n 2, 1) := by decide +kernel
theorem dX5_together_93 : decode cX5_together 93 = .ok (.ishr, 1) := by decide +kernel
theorem dX5_together_94 : decode cX5_together 94 = .ok (.iand, 1) := by decide +kernel
theorem dX5_together_95 : decode cX5_together 95 = .ok (.iconst 1, 1) := by decide +kernel
theorem dX5_together_96 : decode cX5_together 96 = .ok (.iand, 1) := by decide +kernel
theorem dX5_together_97 : decode cX5_together 97 = .ok (.iadd, 1) := by decide +kernel
theorem dX5_together_98 : decode cX5_together 98 = .ok (.istore 4, 2) := by decide +kernel
theorem dX5_together_100 : decode cX5_together 100 = .ok (.iinc 5 1, 3) := by decide +kernel
theorem dX5_together_103 : decode cX5_together 103 = .ok (.goto (-42), 3) := by decide +kernel
theorem dX5_together_106 : decode cX5_together 106 = .ok (.iload 4, 2) := by decide +kernel
theorem dX5_together_108 : decode cX5_together 108 = .ok (.ireturn, 1) := by decide +kernel
theorem dX5_feed_0 : decode cX5_feed 0 = .ok (.iload_n 2, 1) := by decide +kernel
theorem dX5_feed_1 : decode cX5_feed 1 = .ok (.iconst 1, 1) := by decide +kernel
theorem dX5_feed_2 : decode cX5_feed 2 = .ok (.iconst 4, 1) := by decide +kernel
theorem dX5_feed_3 : decode cX5_feed 3 = .ok (.invokestatic 54, 3) := by decide +kernel
theorem dX5_feed_6 : decode cX5_feed 6 = .ok (.ifCond .ne 10, 3) := by decide +kernel
theorem dX5_feed_9 : decode cX5_feed 9 = .ok (.aload_n 0, 1) := by decide +kernel
theorem dX5_feed_10 : decode cX5_feed 10 = .ok (.ldc 58, 2) := by decide +kernel
theorem dX5_feed_12 : decode cX5_feed 12 = .ok (.invokevirtual 59, 3) := by decide +kernel
theorem dX5_feed_15 : decode cX5_feed 15 = .ok (.ireturn, 1) := by decide +kernel
theorem dX5_feed_16 : decode cX5_feed 16 = .ok (.aload_n 0, 1) := by decide +kernel
theorem dX5_feed_17 : decode cX5_feed 17 = .ok (.getfield 39, 3) := by decide +kernel
theorem dX5_feed_20 : decode cX5_feed 20 = .ok (.getfield 179, 3) := by decide +kernel
theorem dX5_feed_23 : decode cX5_feed 23 = .ok (.iload_n 2, 1) := by decide +kernel
theorem dX5_feed_24 : decode cX5_feed 24 = .ok (.iadd, 1) := by decide +kernel
theorem dX5_feed_25 : decode cX5_feed 25 = .ok (.bipush 60, 2) := by decide +kernel
theorem dX5_feed_27 : decode cX5_feed 27 = .ok (.if_icmp .le 10, 3) := by decide +kernel
theorem dX5_feed_30 : decode cX5_feed 30 = .ok (.aload_n 0, 1) := by decide +kernel
theorem dX5_feed_31 : decode cX5_feed 31 = .ok (.ldc 67, 2) := by decide +kernel
theorem dX5_feed_33 : decode cX5_feed 33 = .ok (.invokevirtual 59, 3) := by decide +kernel
theorem dX5_feed_36 : decode cX5_feed 36 = .ok (.ireturn, 1) := by decide +kernel
theorem dX5_feed_37 : decode cX5_feed 37 = .ok (.iload_n 2, 1) := by decide +kernel
theorem dX5_feed_38 : decode cX5_feed 38 = .ok (.iconst 1, 1) := by decide +kernel
theorem dX5_feed_39 : decode cX5_feed 39 = .ok (.isub, 1) := by decide +kernel
theorem dX5_feed_40 : decode cX5_feed 40 = .ok (.istore_n 3, 1) := by decide +kernel
theorem dX5_feed_41 : decode cX5_feed 41 = .ok (.iload_n 3, 1) := by decide +kernel
theorem dX5_feed_42 : decode cX5_feed 42 = .ok (.ifCond .lt 47, 3) := by decide +kernel
theorem dX5_feed_45 : decode cX5_feed 45 = .ok (.aload_n 0, 1) := by decide +kernel
theorem dX5_feed_46 : decode cX5_feed 46 = .ok (.getfield 39, 3) := by decide +kernel
theorem dX5_feed_49 : decode cX5_feed 49 = .ok (.getfield 180, 3) := by decide +kernel
theorem dX5_feed_52 : decode cX5_feed 52 = .ok (.aload_n 0, 1) := by decide +kernel
theorem dX5_feed_53 : decode cX5_feed 53 = .ok (.getfield 39, 3) := by decide +kernel
theorem dX5_feed_56 : decode cX5_feed 56 = .ok (.getfield 179, 3) := by decide +kernel
theorem dX5_feed_59 : decode cX5_feed 59 = .ok (.iload_n 1, 1) := by decide +kernel
theorem dX5_feed_60 : decode cX5_feed 60 = .ok (.bipush 8, 2) := by decide +kernel
theorem dX5_feed_62 : decode cX5_feed 62 = .ok (.iload_n 3, 1) := by decide +kernel
theorem dX5_feed_63 : decode cX5_feed 63 = .ok (.imul, 1) := by decide +kernel
theorem dX5_feed_64 : decode cX5_feed 64 = .ok (.iushr, 1) := by decide +kernel
theorem dX5_feed_65 : decode cX5_feed 65 = .ok (.sipush 255, 3) := by decide +kernel
theorem dX5_feed_68 : decode cX5_feed 68 = .ok (.iand, 1) := by decide +kernel
theorem dX5_feed_69 : decode cX5_feed 69 = .ok (.iastore, 1) := by decide +kernel
theorem dX5_feed_70 : decode cX5_feed 70 = .ok (.aload_n 0, 1) := by decide +kernel
theorem dX5_feed_71 : decode cX5_feed 71 = .ok (.getfield 39, 3) := by decide +kernel
theorem dX5_feed_74 : decode cX5_feed 74 = .ok (.dup, 1) := by decide +kernel
theorem dX5_feed_75 : decode cX5_feed 75 = .ok (.getfield 179, 3) := by decide +kernel
theorem dX5_feed_78 : decode cX5_feed 78 = .ok (.iconst 1, 1) := by decide +kernel
theorem dX5_feed_79 : decode cX5_feed 79 = .ok (.iadd, 1) := by decide +kernel
theorem dX5_feed_80 : decode cX5_feed 80 = .ok (.putfield 179, 3) := by decide +kernel
theorem dX5_feed_83 : decode cX5_feed 83 = .ok (.iinc 3 (-1), 3) := by decide +kernel
theorem dX5_feed_86 : decode cX5_feed 86 = .ok (.goto (-45), 3) := by decide +kernel
theorem dX5_feed_89 : decode cX5_feed 89 = .ok (.aload_n 0, 1) := by decide +kernel
theorem dX5_feed_90 : decode cX5_feed 90 = .ok (.getfield 39, 3) := by decide +kernel
theorem dX5_feed_93 : decode cX5_feed 93 = .ok (.getfield 179, 3) := by decide +kernel
theorem dX5_feed_96 : decode cX5_feed 96 = .ok (.ireturn, 1) := by decide +kernel
theorem dX5_wipe_0 : decode cX5_wipe 0 = .ok (.aload_n 0, 1) := by decide +kernel
theorem dX5_wipe_1 : decode cX5_wipe 1 = .ok (.getfield 39, 3) := by decide +kernel
theorem dX5_wipe_4 : decode cX5_wipe 4 = .ok (.getfield 179, 3) := by decide +kernel
theorem dX5_wipe_7 : decode cX5_wipe 7 = .ok (.istore_n 1, 1) := by decide +kernel
theorem dX5_wipe_8 : decode cX5_wipe 8 = .ok (.aload_n 0, 1) := by decide +kernel
theorem dX5_wipe_9 : decode cX5_wipe 9 = .ok (.getfield 39, 3) := by decide +kernel
theorem dX5_wipe_12 : decode cX5_wipe 12 = .ok (.iconst 0, 1) := by decide +kernel
theorem dX5_wipe_13 : decode cX5_wipe 13 = .ok (.putfield 179, 3) := by decide +kernel
theorem dX5_wipe_16 : decode cX5_wipe 16 = .ok (.iload_n 1, 1) := by decide +kernel
theorem dX5_wipe_17 : decode cX5_wipe 17 = .ok (.ireturn, 1) := by decide +kernel
theorem dX5_law_0 : decode cX5_law 0 = .ok (.aload_n 0, 1) := by decide +kernel
theorem dX5_law_1 : decode cX5_law 1 = .ok (.getfield 39, 3) := by decide +kernel
theorem dX5_law_4 : decode cX5_law 4 = .ok (.invokevirtual 183, 3) := by decide +kernel
theorem dX5_law_7 : decode cX5_law 7 = .ok (.istore_n 1, 1) := by decide +kernel
theorem dX5_law_8 : decode cX5_law 8 = .ok (.iload_n 1, 1) := by decide +kernel
theorem dX5_law_9 : decode cX5_law 9 = .ok (.ifCond .lt 7, 3) := by decide +kernel
theorem dX5_law_12 : decode cX5_law 12 = .ok (.iconst (-1), 1) := by decide +kernel
theorem dX5_law_13 : decode cX5_law 13 = .ok (.iload_n 1, 1) := by decide +kernel
theorem dX5_law_14 : decode cX5_law 14 = .ok (.isub, 1) := by decide +kernel
theorem dX5_law_15 : decode cX5_law 15 = .ok (.ireturn, 1) := by decide +kernel
theorem dX5_law_16 : decode cX5_law 16 = .ok (.aload_n 0, 1) := by decide +kernel
theorem dX5_law_17 : decode cX5_law 17 = .ok (.getfield 12, 3) := by decide +kernel
theorem dX5_law_20 : decode cX5_law 20 = .ok (.getfield 187, 3) := by decide +kernel
theorem dX5_law_23 : decode cX5_law 23 = .ok (.aload_n 0, 1) := by decide +kernel
theorem dX5_law_24 : decode cX5_law 24 = .ok (.getfield 39, 3) := by decide +kernel
theorem dX5_law_27 : decode cX5_law 27 = .ok (.invokevirtual 190, 3) := by decide +kernel
theorem dX5_law_30 : decode cX5_law 30 = .ok (.aload_n 0, 1) := by decide +kernel
theorem dX5_law_31 : decode cX5_law 31 = .ok (.getfield 39, 3) := by decide +kernel
theorem dX5_law_34 : decode cX5_law 34 = .ok (.iconst 0, 1) := by decide +kernel
theorem dX5_law_35 : decode cX5_law 35 = .ok (.putfield 179, 3) := by decide +kernel
theorem dX5_law_38 : decode cX5_law 38 = .ok (.iconst 0, 1) := by decide +kernel
theorem dX5_law_39 : decode cX5_law 39 = .ok (.ireturn, 1) := by decide +kernel
theorem dX5_plain_0 : decode cX5_plain 0 = .ok (.aload_n 0, 1) := by decide +kernel
theorem dX5_plain_1 : decode cX5_plain 1 = .ok (.getfield 12, 3) := by decide +kernel
theorem dX5_plain_4 : decode cX5_plain 4 = .ok (.getfield 187, 3) := by decide +kernel
theorem dX5_plain_7 : decode cX5_plain 7 = .ok (.getfield 179, 3) := by decide +kernel
theorem dX5_plain_10 : decode cX5_plain 10 = .ok (.ifCond .le 7, 3) := by decide +kernel
theorem dX5_plain_13 : decode cX5_plain 13 = .ok (.iconst 1, 1) := by decide +kernel
theorem dX5_plain_14 : decode cX5_plain 14 = .ok (.goto 4, 3) := by decide +kernel
theorem dX5_plain_17 : decode cX5_plain 17 = .ok (.iconst 0, 1) := by decide +kernel
theorem dX5_plain_18 : decode cX5_plain 18 = .ok (.istore_n 1, 1) := by decide +kernel
theorem dX5_plain_19 : decode cX5_plain 19 = .ok (.aload_n 0, 1) := by decide +kernel
theorem dX5_plain_20 : decode cX5_plain 20 = .ok (.getfield 12, 3) := by decide +kernel
theorem dX5_plain_23 : decode cX5_plain 23 = .ok (.getfield 187, 3) := by decide +kernel
theorem dX5_plain_26 : decode cX5_plain 26 = .ok (.iconst 0, 1) := by decide +kernel
theorem dX5_plain_27 : decode cX5_plain 27 = .ok (.putfield 179, 3) := by decide +kernel
theorem dX5_plain_30 : decode cX5_plain 30 = .ok (.iload_n 1, 1) := by decide +kernel
theorem dX5_plain_31 : decode cX5_plain 31 = .ok (.ireturn, 1) := by decide +kernel
theorem dX5_says_0 : decode cX5_says 0 = .ok (.aload_n 0, 1) := by decide +kernel
theorem dX5_says_1 : decode cX5_says 1 = .ok (.getfield 12, 3) := by decide +kernel
theorem dX5_says_4 : decode cX5_says 4 = .ok (.iload_n 1, 1) := by decide +kernel
theorem dX5_says_5 : decode cX5_says 5 = .ok (.invokevirtual 78, 3) := by decide +kernel
theorem dX5_says_8 : decode cX5_says 8 = .ok (.ifCond .ne 10, 3) := by decide +kernel
theorem dX5_says_11 : decode cX5_says 11 = .ok (.aload_n 0, 1) := by decide +kernel
theorem dX5_says_12 : decode cX5_says 12 = .ok (.ldc 58, 2) := by decide +kernel
theorem dX5_says_14 : decode cX5_says 14 = .ok (.invokevirtual 59, 3) := by decide +kernel
theorem dX5_says_17 : decode cX5_says 17 = .ok (.ireturn, 1) := by decide +kernel
theorem dX5_says_18 : decode cX5_says 18 = .ok (.aload_n 0, 1) := by decide +kernel
theorem dX5_says_19 : decode cX5_says 19 = .ok (.getfield 12, 3) := by decide +kernel
theorem dX5_says_22 : decode cX5_says 22 = .ok (.getfield 187, 3) := by decide +kernel
theorem dX5_says_25 : decode cX5_says 25 = .ok (.getfield 179, 3) := by decide +kernel
theorem dX5_says_28 : decode cX5_says 28 = .ok (.ifCond .ne 10, 3) := by decide +kernel
theorem dX5_says_31 : decode cX5_says 31 = .ok (.aload_n 0, 1) := by decide +kernel
theorem dX5_says_32 : decode cX5_says 32 = .ok (.ldc 155, 2) := by decide +kernel
theorem dX5_says_34 : decode cX5_says 34 = .ok (.invokevirtual 59, 3) := by decide +kernel
theorem dX5_says_37 : decode cX5_says 37 = .ok (.ireturn, 1) := by decide +kernel
theorem dX5_says_38 : decode cX5_says 38 = .ok (.aload_n 0, 1) := by decide +kernel
theorem dX5_says_39 : decode cX5_says 39 = .ok (.getfield 12, 3) := by decide +kernel
theorem dX5_says_42 : decode cX5_says 42 = .ok (.getfield 68, 3) := by decide +kernel
theorem dX5_says_45 : decode cX5_says 45 = .ok (.iload_n 1, 1) := by decide +kernel
theorem dX5_says_46 : decode cX5_says 46 = .ok (.aaload, 1) := by decide +kernel
theorem dX5_says_47 : decode cX5_says 47 = .ok (.astore_n 2, 1) := by decide +kernel
theorem dX5_says_48 : decode cX5_says 48 = .ok (.aload_n 0, 1) := by decide +kernel
theorem dX5_says_49 : decode cX5_says 49 = .ok (.getfield 12, 3) := by decide +kernel
theorem dX5_says_52 : decode cX5_says 52 = .ok (.getfield 187, 3) := by decide +kernel
theorem dX5_says_55 : decode cX5_says 55 = .ok (.aload_n 2, 1) := by decide +kernel
theorem dX5_says_56 : decode cX5_says 56 = .ok (.iload_n 1, 1) := by decide +kernel
theorem dX5_says_57 : decode cX5_says 57 = .ok (.aload_n 0, 1) := by decide +kernel
theorem dX5_says_58 : decode cX5_says 58 = .ok (.getfield 12, 3) := by decide +kernel
theorem dX5_says_61 : decode cX5_says 61 = .ok (.getfield 126, 3) := by decide +kernel
theorem dX5_says_64 : decode cX5_says 64 = .ok (.aload_n 2, 1) := by decide +kernel
theorem dX5_says_65 : decode cX5_says 65 = .ok (.getfield 100, 3) := by decide +kernel
theorem dX5_says_68 : decode cX5_says 68 = .ok (.invokevirtual 193, 3) := by decide +kernel
theorem dX5_says_71 : decode cX5_says 71 = .ok (.ireturn, 1) := by decide +kernel
theorem dX5_sheet_0 : decode cX5_sheet 0 = .ok (.iload_n 1, 1) := by decide +kernel
theorem dX5_sheet_1 : decode cX5_sheet 1 = .ok (.iconst 0, 1) := by decide +kernel
theorem dX5_sheet_2 : decode cX5_sheet 2 = .ok (.iconst 3, 1) := by decide +kernel
theorem dX5_sheet_3 : decode cX5_sheet 3 = .ok (.invokestatic 54, 3) := by decide +kernel
theorem dX5_sheet_6 : decode cX5_sheet 6 = .ok (.ifCond .eq 25, 3) := by decide +kernel
theorem dX5_sheet_9 : decode cX5_sheet 9 = .ok (.iload_n 2, 1) := by decide +kernel
theorem dX5_sheet_10 : decode cX5_sheet 10 = .ok (.ifCond .eq 28, 3) := by decide +kernel
theorem dX5_sheet_13 : decode cX5_sheet 13 = .ok (.iload_n 2, 1) := by decide +kernel
theorem dX5_sheet_14 : decode cX5_sheet 14 = .ok (.bipush 8, 2) := by decide +kernel
theorem dX5_sheet_16 : decode cX5_sheet 16 = .ok (.if_icmp .eq 22, 3) := by decide +kernel
theorem dX5_sheet_19 : decode cX5_sheet 19 = .ok (.iload_n 2, 1) := by decide +kernel
theorem dX5_sheet_20 : decode cX5_sheet 20 = .ok (.bipush 16, 2) := by decide +kernel
theorem dX5_sheet_22 : decode cX5_sheet 22 = .ok (.if_icmp .eq 16, 3) := by decide +kernel
theorem dX5_sheet_25 : decode cX5_sheet 25 = .ok (.iload_n 2, 1) := by decide +kernel
theorem dX5_sheet_26 : decode cX5_sheet 26 = .ok (.bipush 64, 2) := by decide +kernel
theorem dX5_sheet_28 : decode cX5_sheet 28 = .ok (.if_icmp .eq 10, 3) := by decide +kernel
theorem dX5_sheet_31 : decode cX5_sheet 31 = .ok (.aload_n 0, 1) := by decide +kernel
theorem dX5_sheet_32 : decode cX5_sheet 32 = .ok (.ldc 58, 2) := by decide +kernel
theorem dX5_sheet_34 : decode cX5_sheet 34 = .ok (.invokevirtual 59, 3) := by decide +kernel
theorem dX5_sheet_37 : decode cX5_sheet 37 = .ok (.ireturn, 1) := by decide +kernel
theorem dX5_sheet_38 : decode cX5_sheet 38 = .ok (.iload_n 3, 1) := by decide +kernel
theorem dX5_sheet_39 : decode cX5_sheet 39 = .ok (.ifCond .ge 10, 3) := by decide +kernel
theorem dX5_sheet_42 : decode cX5_sheet 42 = .ok (.aload_n 0, 1) := by decide +kernel
theorem dX5_sheet_43 : decode cX5_sheet 43 = .ok (.ldc 171, 2) := by decide +kernel
theorem dX5_sheet_45 : decode cX5_sheet 45 = .ok (.invokevirtual 59, 3) := by decide +kernel
theorem dX5_sheet_48 : decode cX5_sheet 48 = .ok (.ireturn, 1) := by decide +kernel
theorem dX5_sheet_49 : decode cX5_sheet 49 = .ok (.iload_n 3, 1) := by decide +kernel
theorem dX5_sheet_50 : decode cX5_sheet 50 = .ok (.bipush 40, 2) := by decide +kernel
theorem dX5_sheet_52 : decode cX5_sheet 52 = .ok (.if_icmp .le 10, 3) := by decide +kernel
theorem dX5_sheet_55 : decode cX5_sheet 55 = .ok (.aload_n 0, 1) := by decide +kernel
theorem dX5_sheet_56 : decode cX5_sheet 56 = .ok (.ldc 58, 2) := by decide +kernel
theorem dX5_sheet_58 : decode cX5_sheet 58 = .ok (.invokevirtual 59, 3) := by decide +kernel
theorem dX5_sheet_61 : decode cX5_sheet 61 = .ok (.ireturn, 1) := by decide +kernel
theorem dX5_sheet_62 : decode cX5_sheet 62 = .ok (.aload_n 0, 1) := by decide +kernel
theorem dX5_sheet_63 : decode cX5_sheet 63 = .ok (.getfield 45, 3) := by decide +kernel
theorem dX5_sheet_66 : decode cX5_sheet 66 = .ok (.iload_n 1, 1) := by decide +kernel
theorem dX5_sheet_67 : decode cX5_sheet 67 = .ok (.aaload, 1) := by decide +kernel
theorem dX5_sheet_68 : decode cX5_sheet 68 = .ok (.iload_n 2, 1) := by decide +kernel
theorem dX5_sheet_69 : decode cX5_sheet 69 = .ok (.iload_n 3, 1) := by decide +kernel
theorem dX5_sheet_70 : decode cX5_sheet 70 = .ok (.invokevirtual 197, 3) := by decide +kernel
theorem dX5_sheet_73 : decode cX5_sheet 73 = .ok (.aload_n 0, 1) := by decide +kernel
theorem dX5_sheet_74 : decode cX5_sheet 74 = .ok (.getfield 45, 3) := by decide +kernel
theorem dX5_sheet_77 : decode cX5_sheet 77 = .ok (.iload_n 1, 1) := by decide +kernel
theorem dX5_sheet_78 : decode cX5_sheet 78 = .ok (.aaload, 1) := by decide +kernel
theorem dX5_sheet_79 : decode cX5_sheet 79 = .ok (.getfield 170, 3) := by decide +kernel
theorem dX5_sheet_82 : decode cX5_sheet 82 = .ok (.ireturn, 1) := by decide +kernel
theorem dX5_write_0 : decode cX5_write 0 = .ok (.iload_n 1, 1) := by decide +kernel
theorem dX5_write_1 : decode cX5_write 1 = .ok (.iconst 0, 1) := by decide +kernel
theorem dX5_write_2 : decode cX5_write 2 = .ok (.iconst 3, 1) := by decide +kernel
theorem dX5_write_3 : decode cX5_write 3 = .ok (.invokestatic 54, 3) := by decide +kernel
theorem dX5_write_6 : decode cX5_write 6 = .ok (.ifCond .ne 11, 3) := by decide +kernel
theorem dX5_write_9 : decode cX5_write 9 = .ok (.aload_n 0, 1) := by decide +kernel
theorem dX5_write_10 : decode cX5_write 10 = .ok (.ldc 58, 2) := by decide +kernel
theorem dX5_write_12 : decode cX5_write 12 = .ok (.invokevirtual 59, 3) := by decide +kernel
theorem dX5_write_15 : decode cX5_write 15 = .ok (.i2l, 1) := by decide +kernel
theorem dX5_write_16 : decode cX5_write 16 = .ok (.lreturn, 1) := by decide +kernel
theorem dX5_write_17 : decode cX5_write 17 = .ok (.aload_n 0, 1) := by decide +kernel
theorem dX5_write_18 : decode cX5_write 18 = .ok (.getfield 45, 3) := by decide +kernel
theorem dX5_write_21 : decode cX5_write 21 = .ok (.iload_n 1, 1) := by decide +kernel
theorem dX5_write_22 : decode cX5_write 22 = .ok (.aaload, 1) := by decide +kernel
theorem dX5_write_23 : decode cX5_write 23 = .ok (.astore 5, 2) := by decide +kernel
theorem dX5_write_25 : decode cX5_write 25 = .ok (.aload 5, 2) := by decide +kernel
theorem dX5_write_27 : decode cX5_write 27 = .ok (.invokevirtual 165, 3) := by decide +kernel
theorem dX5_write_30 : decode cX5_write 30 = .ok (.ifCond .eq 11, 3) := by decide +kernel
theorem dX5_write_33 : decode cX5_write 33 = .ok (.aload_n 0, 1) := by decide +kernel
theorem dX5_write_34 : decode cX5_write 34 = .ok (.ldc 169, 2) := by decide +kernel
theorem dX5_write_36 : decode cX5_write 36 = .ok (.invokevirtual 59, 3) := by decide +kernel
theorem dX5_write_39 : decode cX5_write 39 = .ok (.i2l, 1) := by decide +kernel
theorem dX5_write_40 : decode cX5_write 40 = .ok (.lreturn, 1) := by decide +kernel
theorem dX5_write_41 : decode cX5_write 41 = .ok (.iload_n 2, 1) := by decide +kernel
theorem dX5_write_42 : decode cX5_write 42 = .ok (.iconst 0, 1) := by decide +kernel
theorem dX5_write_43 : decode cX5_write 43 = .ok (.aload 5, 2) := by decide +kernel
theorem dX5_write_45 : decode cX5_write 45 = .ok (.getfield 170, 3) := by decide +kernel
theorem dX5_write_48 : decode cX5_write 48 = .ok (.iconst 1, 1) := by decide +kernel
theorem dX5_write_49 : decode cX5_write 49 = .ok (.isub, 1) := by decide +kernel
theorem dX5_write_50 : decode cX5_write 50 = .ok (.invokestatic 54, 3) := by decide +kernel
theorem dX5_write_53 : decode cX5_write 53 = .ok (.ifCond .ne 11, 3) := by decide +kernel
theorem dX5_write_56 : decode cX5_write 56 = .ok (.aload_n 0, 1) := by decide +kernel
theorem dX5_write_57 : decode cX5_write 57 = .ok (.ldc 58, 2) := by decide +kernel
theorem dX5_write_59 : decode cX5_write 59 = .ok (.invokevirtual 59, 3) := by decide +kernel
theorem dX5_write_62 : decode cX5_write 62 = .ok (.i2l, 1) := by decide +kernel
theorem dX5_write_63 : decode cX5_write 63 = .ok (.lreturn, 1) := by decide +kernel
theorem dX5_write_64 : decode cX5_write 64 = .ok (.aload 5, 2) := by decide +kernel
theorem dX5_write_66 : decode cX5_write 66 = .ok (.getfield 172, 3) := by decide +kernel
theorem dX5_write_69 : decode cX5_write 69 = .ok (.iload_n 2, 1) := by decide +kernel
theorem dX5_write_70 : decode cX5_write 70 = .ok (.laload, 1) := by decide +kernel
theorem dX5_write_71 : decode cX5_write 71 = .ok (.lstore 6, 2) := by decide +kernel
theorem dX5_write_73 : decode cX5_write 73 = .ok (.aload 5, 2) := by decide +kernel
theorem dX5_write_75 : decode cX5_write 75 = .ok (.getfield 172, 3) := by decide +kernel
theorem dX5_write_78 : decode cX5_write 78 = .ok (.iload_n 2, 1) := by decide +kernel
theorem dX5_write_79 : decode cX5_write 79 = .ok (.aload 5, 2) := by decide +kernel
theorem dX5_write_81 : decode cX5_write 81 = .ok (.lload_n 3, 1) := by decide +kernel
theorem dX5_write_82 : decode cX5_write 82 = .ok (.invokevirtual 200, 3) := by decide +kernel
theorem dX5_write_85 : decode cX5_write 85 = .ok (.lastore, 1) := by decide +kernel
theorem dX5_write_86 : decode cX5_write 86 = .ok (.lload 6, 2) := by decide +kernel
theorem dX5_write_88 : decode cX5_write 88 = .ok (.lreturn, 1) := by decide +kernel
theorem dX5_copy_0 : decode cX5_copy 0 = .ok (.iload_n 1, 1) := by decide +kernel
theorem dX5_copy_1 : decode cX5_copy 1 = .ok (.iconst 0, 1) := by decide +kernel
theorem dX5_copy_2 : decode cX5_copy 2 = .ok (.iconst 3, 1) := by decide +kernel
theorem dX5_copy_3 : decode cX5_copy 3 = .ok (.invokestatic 54, 3) := by decide +kernel
theorem dX5_copy_6 : decode cX5_copy 6 = .ok (.ifCond .eq 12, 3) := by decide +kernel
theorem dX5_copy_9 : decode cX5_copy 9 = .ok (.iload_n 3, 1) := by decide +kernel
theorem dX5_copy_10 : decode cX5_copy 10 = .ok (.iconst 0, 1) := by decide +kernel
theorem dX5_copy_11 : decode cX5_copy 11 = .ok (.iconst 3, 1) := by decide +kernel
theorem dX5_copy_12 : decode cX5_copy 12 = .ok (.invokestatic 54, 3) := by decide +kernel
theorem dX5_copy_15 : decode cX5_copy 15 = .ok (.ifCond .ne 10, 3) := by decide +kernel
theorem dX5_copy_18 : decode cX5_copy 18 = .ok (.aload_n 0, 1) := by decide +kernel
theorem dX5_copy_19 : decode cX5_copy 19 = .ok (.ldc 58, 2) := by decide +kernel
theorem dX5_copy_21 : decode cX5_copy 21 = .ok (.invokevirtual 59, 3) := by decide +kernel
theorem dX5_copy_24 : decode cX5_copy 24 = .ok (.ireturn, 1) := by decide +kernel
theorem dX5_copy_25 : decode cX5_copy 25 = .ok (.aload_n 0, 1) := by decide +kernel
theorem dX5_copy_26 : decode cX5_copy 26 = .ok (.getfield 45, 3) := by decide +kernel
theorem dX5_copy_29 : decode cX5_copy 29 = .ok (.iload_n 1, 1) := by decide +kernel
theorem dX5_copy_30 : decode cX5_copy 30 = .ok (.aaload, 1) := by decide +kernel
theorem dX5_copy_31 : decode cX5_copy 31 = .ok (.astore 6, 2) := by decide +kernel
theorem dX5_copy_33 : decode cX5_copy 33 = .ok (.aload_n 0, 1) := by decide +kernel
theorem dX5_copy_34 : decode cX5_copy 34 = .ok (.getfield 45, 3) := by decide +kernel
theorem dX5_copy_37 : decode cX5_copy 37 = .ok (.iload_n 3, 1) := by decide +kernel
theorem dX5_copy_38 : decode cX5_copy 38 = .ok (.aaload, 1) := by decide +kernel
theorem dX5_copy_39 : decode cX5_copy 39 = .ok (.astore 7, 2) := by decide +kernel
theorem dX5_copy_41 : decode cX5_copy 41 = .ok (.aload 6, 2) := by decide +kernel
theorem dX5_copy_43 : decode cX5_copy 43 = .ok (.invokevirtual 165, 3) := by decide +kernel
theorem dX5_copy_46 : decode cX5_copy 46 = .ok (.ifCond .ne 11, 3) := by decide +kernel
theorem dX5_copy_49 : decode cX5_copy 49 = .ok (.aload 7, 2) := by decide +kernel
theorem dX5_copy_51 : decode cX5_copy 51 = .ok (.invokevirtual 165, 3) := by decide +kernel
theorem dX5_copy_54 : decode cX5_copy 54 = .ok (.ifCond .eq 10, 3) := by decide +kernel
theorem dX5_copy_57 : decode cX5_copy 57 = .ok (.aload_n 0, 1) := by decide +kernel
theorem dX5_copy_58 : decode cX5_copy 58 = .ok (.ldc 169, 2) := by decide +kernel
theorem dX5_copy_60 : decode cX5_copy 60 = .ok (.invokevirtual 59, 3) := by decide +kernel
theorem dX5_copy_63 : decode cX5_copy 63 = .ok (.ireturn, 1) := by decide +kernel
theorem dX5_copy_64 : decode cX5_copy 64 = .ok (.aload 6, 2) := by decide +kernel
theorem dX5_copy_66 : decode cX5_copy 66 = .ok (.getfield 204, 3) := by decide +kernel
theorem dX5_copy_69 : decode cX5_copy 69 = .ok (.aload 7, 2) := by decide +kernel
theorem dX5_copy_71 : decode cX5_copy 71 = .ok (.getfield 204, 3) := by decide +kernel
theorem dX5_copy_74 : decode cX5_copy 74 = .ok (.if_icmp .eq 10, 3) := by decide +kernel
theorem dX5_copy_77 : decode cX5_copy 77 = .ok (.aload_n 0, 1) := by decide +kernel
theorem dX5_copy_78 : decode cX5_copy 78 = .ok (.ldc 117, 2) := by decide +kernel
theorem dX5_copy_80 : decode cX5_copy 80 = .ok (.invokevirtual 59, 3) := by decide +kernel
theorem dX5_copy_83 : decode cX5_copy 83 = .ok (.ireturn, 1) := by decide +kernel
theorem dX5_copy_84 : decode cX5_copy 84 = .ok (.aload 6, 2) := by decide +kernel
theorem dX5_copy_86 : decode cX5_copy 86 = .ok (.iload_n 2, 1) := by decide +kernel
theorem dX5_copy_87 : decode cX5_copy 87 = .ok (.iload 5, 2) := by decide +kernel
theorem dX5_copy_89 : decode cX5_copy 89 = .ok (.invokevirtual 207, 3) := by decide +kernel
theorem dX5_copy_92 : decode cX5_copy 92 = .ok (.ifCond .eq 15, 3) := by decide +kernel
theorem dX5_copy_95 : decode cX5_copy 95 = .ok (.aload 7, 2) := by decide +kernel
theorem dX5_copy_97 : decode cX5_copy 97 = .ok (.iload 4, 2) := by decide +kernel
theorem dX5_copy_99 : decode cX5_copy 99 = .ok (.iload 5, 2) := by decide +kernel
theorem dX5_copy_101 : decode cX5_copy 101 = .ok (.invokevirtual 207, 3) := by decide +kernel
theorem dX5_copy_104 : decode cX5_copy 104 = .ok (.ifCond .ne 10, 3) := by decide +kernel
theorem dX5_copy_107 : decode cX5_copy 107 = .ok (.aload_n 0, 1) := by decide +kernel
theorem dX5_copy_108 : decode cX5_copy 108 = .ok (.ldc 58, 2) := by decide +kernel
theorem dX5_copy_110 : decode cX5_copy 110 = .ok (.invokevirtual 59, 3) := by decide +kernel
theorem dX5_copy_113 : decode cX5_copy 113 = .ok (.ireturn, 1) := by decide +kernel
theorem dX5_copy_114 : decode cX5_copy 114 = .ok (.aload 6, 2) := by decide +kernel
theorem dX5_copy_116 : decode cX5_copy 116 = .ok (.getfield 172, 3) := by decide +kernel
theorem dX5_copy_119 : decode cX5_copy 119 = .ok (.iload_n 2, 1) := by decide +kernel
theorem dX5_copy_120 : decode cX5_copy 120 = .ok (.aload 7, 2) := by decide +kernel
theorem dX5_copy_122 : decode cX5_copy 122 = .ok (.getfield 172, 3) := by decide +kernel
theorem dX5_copy_125 : decode cX5_copy 125 = .ok (.iload 4, 2) := by decide +kernel
theorem dX5_copy_127 : decode cX5_copy 127 = .ok (.iload 5, 2) := by decide +kernel
theorem dX5_copy_129 : decode cX5_copy 129 = .ok (.invokestatic 210, 3) := by decide +kernel
theorem dX5_copy_132 : decode cX5_copy 132 = .ok (.iload 5, 2) := by decide +kernel
theorem dX5_copy_134 : decode cX5_copy 134 = .ok (.ireturn, 1) := by decide +kernel
theorem dX5_draws_0 : decode cX5_draws 0 = .ok (.iload_n 1, 1) := by decide +kernel
theorem dX5_draws_1 : decode cX5_draws 1 = .ok (.iconst 0, 1) := by decide +kernel
theorem dX5_draws_2 : decode cX5_draws 2 = .ok (.iconst 3, 1) := by decide +kernel
theorem dX5_draws_3 : decode cX5_draws 3 = .ok (.invokestatic 54, 3) := by decide +kernel
theorem dX5_draws_6 : decode cX5_draws 6 = .ok (.ifCond .ne 10, 3) := by decide +kernel
theorem dX5_draws_9 : decode cX5_draws 9 = .ok (.aload_n 0, 1) := by decide +kernel
theorem dX5_draws_10 : decode cX5_draws 10 = .ok (.ldc 58, 2) := by decide +kernel
theorem dX5_draws_12 : decode cX5_draws 12 = .ok (.invokevirtual 59, 3) := by decide +kernel
theorem dX5_draws_15 : decode cX5_draws 15 = .ok (.ireturn, 1) := by decide +kernel
theorem dX5_draws_16 : decode cX5_draws 16 = .ok (.aload_n 0, 1) := by decide +kernel
theorem dX5_draws_17 : decode cX5_draws 17 = .ok (.getfield 45, 3) := by decide +kernel
theorem dX5_draws_20 : decode cX5_draws 20 = .ok (.iload_n 1, 1) := by decide +kernel
theorem dX5_draws_21 : decode cX5_draws 21 = .ok (.aaload, 1) := by decide +kernel
theorem dX5_draws_22 : decode cX5_draws 22 = .ok (.astore_n 2, 1) := by decide +kernel
theorem dX5_draws_23 : decode cX5_draws 23 = .ok (.aload_n 2, 1) := by decide +kernel
theorem dX5_draws_24 : decode cX5_draws 24 = .ok (.invokevirtual 165, 3) := by decide +kernel
theorem dX5_draws_27 : decode cX5_draws 27 = .ok (.ifCond .eq 10, 3) := by decide +kernel
theorem dX5_draws_30 : decode cX5_draws 30 = .ok (.aload_n 0, 1) := by decide +kernel
theorem dX5_draws_31 : decode cX5_draws 31 = .ok (.ldc 169, 2) := by decide +kernel
theorem dX5_draws_33 : decode cX5_draws 33 = .ok (.invokevirtual 59, 3) := by decide +kernel
theorem dX5_draws_36 : decode cX5_draws 36 = .ok (.ireturn, 1) := by decide +kernel
theorem dX5_draws_37 : decode cX5_draws 37 = .ok (.aload_n 0, 1) := by decide +kernel
theorem dX5_draws_38 : decode cX5_draws 38 = .ok (.getfield 12, 3) := by decide +kernel
theorem dX5_draws_41 : decode cX5_draws 41 = .ok (.getfield 126, 3) := by decide +kernel
theorem dX5_draws_44 : decode cX5_draws 44 = .ok (.istore_n 3, 1) := by decide +kernel
theorem dX5_draws_45 : decode cX5_draws 45 = .ok (.iconst 0, 1) := by decide +kernel
theorem dX5_draws_46 : decode cX5_draws 46 = .ok (.istore 4, 2) := by decide +kernel
theorem dX5_draws_48 : decode cX5_draws 48 = .ok (.iconst 0, 1) := by decide +kernel
theorem dX5_draws_49 : decode cX5_draws 49 = .ok (.istore 5, 2) := by decide +kernel
theorem dX5_draws_51 : decode cX5_draws 51 = .ok (.iload 5, 2) := by decide +kernel
theorem dX5_draws_53 : decode cX5_draws 53 = .ok (.aload_n 2, 1) := by decide +kernel
theorem dX5_draws_54 : decode cX5_draws 54 = .ok (.getfield 170, 3) := by decide +kernel
theorem dX5_draws_57 : decode cX5_draws 57 = .ok (.if_icmp .ge 67, 3) := by decide +kernel
theorem dX5_draws_60 : decode cX5_draws 60 = .ok (.aload_n 2, 1) := by decide +kernel
theorem dX5_draws_61 : decode cX5_draws 61 = .ok (.getfield 172, 3) := by decide +kernel
theorem dX5_draws_64 : decode cX5_draws 64 = .ok (.iload 5, 2) := by decide +kernel
theorem dX5_draws_66 : decode cX5_draws 66 = .ok (.laload, 1) := by decide +kernel
theorem dX5_draws_67 : decode cX5_draws 67 = .ok (.lstore 6, 2) := by decide +kernel
theorem dX5_draws_69 : decode cX5_draws 69 = .ok (.lload 6, 2) := by decide +kernel
theorem dX5_draws_71 : decode cX5_draws 71 = .ok (.ldc2_w 216, 3) := by decide +kernel
theorem dX5_draws_74 : decode cX5_draws 74 = .ok (.lcmp, 1) := by decide +kernel
theorem dX5_draws_75 : decode cX5_draws 75 = .ok (.ifCond .lt 43, 3) := by decide +kernel
theorem dX5_draws_78 : decode cX5_draws 78 = .ok (.lload 6, 2) := by decide +kernel
theorem dX5_draws_80 : decode cX5_draws 80 = .ok (.ldc2_w 218, 3) := by decide +kernel
theorem dX5_draws_83 : decode cX5_draws 83 = .ok (.lcmp, 1) := by decide +kernel
theorem dX5_draws_84 : decode cX5_draws 84 = .ok (.ifCond .gt 34, 3) := by decide +kernel
theorem dX5_draws_87 : decode cX5_draws 87 = .ok (.aload_n 0, 1) := by decide +kernel
theorem dX5_draws_88 : decode cX5_draws 88 = .ok (.getfield 12, 3) := by decide +kernel
theorem dX5_draws_91 : decode cX5_draws 91 = .ok (.lload 6, 2) := by decide +kernel
theorem dX5_draws_93 : decode cX5_draws 93 = .ok (.l2i, 1) := by decide +kernel
theorem dX5_draws_94 : decode cX5_draws 94 = .ok (.putfield 126, 3) := by decide +kernel
theorem dX5_draws_97 : decode cX5_draws 97 = .ok (.aload_n 0, 1) := by decide +kernel
theorem dX5_draws_98 : decode cX5_draws 98 = .ok (.getfield 12, 3) := by decide +kernel
theorem dX5_draws_101 : decode cX5_draws 101 = .ok (.invokevirtual 129, 3) := by decide +kernel
theorem dX5_draws_104 : decode cX5_draws 104 = .ok (.aload_n 0, 1) := by decide +kernel
theorem dX5_draws_105 : decode cX5_draws 105 = .ok (.getfield 25, 3) := by decide +kernel
theorem dX5_draws_108 : decode cX5_draws 108 = .ok (.aload_n 0, 1) := by decide +kernel
theorem dX5_draws_109 : decode cX5_draws 109 = .ok (.getfield 12, 3) := by decide +kernel
theorem dX5_draws_112 : decode cX5_draws 112 = .ok (.invokevirtual 132, 3) := by decide +kernel
theorem dX5_draws_115 : decode cX5_draws 115 = .ok (.iinc 4 1, 3) := by decide +kernel
theorem dX5_draws_118 : decode cX5_draws 118 = .ok (.iinc 5 1, 3) := by decide +kernel
theorem dX5_draws_121 : decode cX5_draws 121 = .ok (.goto (-70), 3) := by decide +kernel
theorem dX5_draws_124 : decode cX5_draws 124 = .ok (.aload_n 0, 1) := by decide +kernel
theorem dX5_draws_125 : decode cX5_draws 125 = .ok (.getfield 12, 3) := by decide +kernel
theorem dX5_draws_128 : decode cX5_draws 128 = .ok (.iload_n 3, 1) := by decide +kernel
theorem dX5_draws_129 : decode cX5_draws 129 = .ok (.putfield 126, 3) := by decide +kernel
theorem dX5_draws_132 : decode cX5_draws 132 = .ok (.iload 4, 2) := by decide +kernel
theorem dX5_draws_134 : decode cX5_draws 134 = .ok (.ireturn, 1) := by decide +kernel
theorem dX5_read_0 : decode cX5_read 0 = .ok (.iload_n 1, 1) := by decide +kernel
theorem dX5_read_1 : decode cX5_read 1 = .ok (.iconst 0, 1) := by decide +kernel
theorem dX5_read_2 : decode cX5_read 2 = .ok (.iconst 3, 1) := by decide +kernel
theorem dX5_read_3 : decode cX5_read 3 = .ok (.invokestatic 54, 3) := by decide +kernel
theorem dX5_read_6 : decode cX5_read 6 = .ok (.ifCond .ne 10, 3) := by decide +kernel
theorem dX5_read_9 : decode cX5_read 9 = .ok (.aload_n 0, 1) := by decide +kernel
theorem dX5_read_10 : decode cX5_read 10 = .ok (.ldc 58, 2) := by decide +kernel
theorem dX5_read_12 : decode cX5_read 12 = .ok (.invokevirtual 59, 3) := by decide +kernel
theorem dX5_read_15 : decode cX5_read 15 = .ok (.ireturn, 1) := by decide +kernel
theorem dX5_read_16 : decode cX5_read 16 = .ok (.aload_n 0, 1) := by decide +kernel
theorem dX5_read_17 : decode cX5_read 17 = .ok (.getfield 45, 3) := by decide +kernel
theorem dX5_read_20 : decode cX5_read 20 = .ok (.iload_n 1, 1) := by decide +kernel
theorem dX5_read_21 : decode cX5_read 21 = .ok (.aaload, 1) := by decide +kernel
theorem dX5_read_22 : decode cX5_read 22 = .ok (.astore_n 2, 1) := by decide +kernel
theorem dX5_read_23 : decode cX5_read 23 = .ok (.aload_n 2, 1) := by decide +kernel
theorem dX5_read_24 : decode cX5_read 24 = .ok (.invokevirtual 165, 3) := by decide +kernel
theorem dX5_read_27 : decode cX5_read 27 = .ok (.ifCond .eq 10, 3) := by decide +kernel
theorem dX5_read_30 : decode cX5_read 30 = .ok (.aload_n 0, 1) := by decide +kernel
theorem dX5_read_31 : decode cX5_read 31 = .ok (.ldc 169, 2) := by decide +kernel
theorem dX5_read_33 : decode cX5_read 33 = .ok (.invokevirtual 59, 3) := by decide +kernel
theorem dX5_read_36 : decode cX5_read 36 = .ok (.ireturn, 1) := by decide +kernel
theorem dX5_read_37 : decode cX5_read 37 = .ok (.iconst 0, 1) := by decide +kernel
theorem dX5_read_38 : decode cX5_read 38 = .ok (.istore_n 3, 1) := by decide +kernel
theorem dX5_read_39 : decode cX5_read 39 = .ok (.iload_n 3, 1) := by decide +kernel
theorem dX5_read_40 : decode cX5_read 40 = .ok (.aload_n 2, 1) := by decide +kernel
theorem dX5_read_41 : decode cX5_read 41 = .ok (.getfield 170, 3) := by decide +kernel
theorem dX5_read_44 : decode cX5_read 44 = .ok (.if_icmp .ge 47, 3) := by decide +kernel
theorem dX5_read_47 : decode cX5_read 47 = .ok (.aload_n 0, 1) := by decide +kernel
theorem dX5_read_48 : decode cX5_read 48 = .ok (.getfield 12, 3) := by decide +kernel
theorem dX5_read_51 : decode cX5_read 51 = .ok (.iload_n 3, 1) := by decide +kernel
theorem dX5_read_52 : decode cX5_read 52 = .ok (.invokevirtual 78, 3) := by decide +kernel
theorem dX5_read_55 : decode cX5_read 55 = .ok (.ifCond .eq 26, 3) := by decide +kernel
theorem dX5_read_58 : decode cX5_read 58 = .ok (.aload_n 0, 1) := by decide +kernel
theorem dX5_read_59 : decode cX5_read 59 = .ok (.getfield 12, 3) := by decide +kernel
theorem dX5_read_62 : decode cX5_read 62 = .ok (.getfield 68, 3) := by decide +kernel
theorem dX5_read_65 : decode cX5_read 65 = .ok (.iload_n 3, 1) := by decide +kernel
theorem dX5_read_66 : decode cX5_read 66 = .ok (.aaload, 1) := by decide +kernel
theorem dX5_read_67 : decode cX5_read 67 = .ok (.getfield 97, 3) := by decide +kernel
theorem dX5_read_70 : decode cX5_read 70 = .ok (.i2l, 1) := by decide +kernel
theorem dX5_read_71 : decode cX5_read 71 = .ok (.aload_n 2, 1) := by decide +kernel
theorem dX5_read_72 : decode cX5_read 72 = .ok (.getfield 172, 3) := by decide +kernel
theorem dX5_read_75 : decode cX5_read 75 = .ok (.iload_n 3, 1) := by decide +kernel
theorem dX5_read_76 : decode cX5_read 76 = .ok (.laload, 1) := by decide +kernel
theorem dX5_read_77 : decode cX5_read 77 = .ok (.lcmp, 1) := by decide +kernel
theorem dX5_read_78 : decode cX5_read 78 = .ok (.ifCond .eq 7, 3) := by decide +kernel
theorem dX5_read_81 : decode cX5_read 81 = .ok (.iconst 1, 1) := by decide +kernel
theorem dX5_read_82 : decode cX5_read 82 = .ok (.iload_n 3, 1) := by decide +kernel
theorem dX5_read_83 : decode cX5_read 83 = .ok (.iadd, 1) := by decide +kernel
theorem dX5_read_84 : decode cX5_read 84 = .ok (.ireturn, 1) := by decide +kernel
theorem dX5_read_85 : decode cX5_read 85 = .ok (.iinc 3 1, 3) := by decide +kernel
theorem dX5_read_88 : decode cX5_read 88 = .ok (.goto (-49), 3) := by decide +kernel
theorem dX5_read_91 : decode cX5_read 91 = .ok (.iconst 0, 1) := by decide +kernel
theorem dX5_read_92 : decode cX5_read 92 = .ok (.ireturn, 1) := by decide +kernel
theorem dX5_image_0 : decode cX5_image 0 = .ok (.aload_n 0, 1) := by decide +kernel
theorem dX5_image_1 : decode cX5_image 1 = .ok (.getfield 16, 3) := by decide +kernel
theorem dX5_image_4 : decode cX5_image 4 = .ok (.aload_n 0, 1) := by decide +kernel
theorem dX5_image_5 : decode cX5_image 5 = .ok (.getfield 12, 3) := by decide +kernel
theorem dX5_image_8 : decode cX5_image 8 = .ok (.invokevirtual 156, 3) := by decide +kernel
theorem dX5_image_11 : decode cX5_image 11 = .ok (.aload_n 0, 1) := by decide +kernel
theorem dX5_image_12 : decode cX5_image 12 = .ok (.getfield 29, 3) := by decide +kernel
theorem dX5_image_15 : decode cX5_image 15 = .ok (.aload_n 0, 1) := by decide +kernel
theorem dX5_image_16 : decode cX5_image 16 = .ok (.getfield 25, 3) := by decide +kernel
theorem dX5_image_19 : decode cX5_image 19 = .ok (.invokevirtual 220, 3) := by decide +kernel
theorem dX5_image_22 : decode cX5_image 22 = .ok (.aload_n 0, 1) := by decide +kernel
theorem dX5_image_23 : decode cX5_image 23 = .ok (.iconst 1, 1) := by decide +kernel
theorem dX5_image_24 : decode cX5_image 24 = .ok (.putfield 32, 3) := by decide +kernel
theorem dX5_image_27 : decode cX5_image 27 = .ok (.iconst 1, 1) := by decide +kernel
theorem dX5_image_28 : decode cX5_image 28 = .ok (.ireturn, 1) := by decide +kernel
theorem dX5_undo_0 : decode cX5_undo 0 = .ok (.aload_n 0, 1) := by decide +kernel
theorem dX5_undo_1 : decode cX5_undo 1 = .ok (.getfield 32, 3) := by decide +kernel
theorem dX5_undo_4 : decode cX5_undo 4 = .ok (.ifCond .ne 10, 3) := by decide +kernel
theorem dX5_undo_7 : decode cX5_undo 7 = .ok (.aload_n 0, 1) := by decide +kernel
theorem dX5_undo_8 : decode cX5_undo 8 = .ok (.ldc 155, 2) := by decide +kernel
theorem dX5_undo_10 : decode cX5_undo 10 = .ok (.invokevirtual 59, 3) := by decide +kernel
theorem dX5_undo_13 : decode cX5_undo 13 = .ok (.ireturn, 1) := by decide +kernel
theorem dX5_undo_14 : decode cX5_undo 14 = .ok (.aload_n 0, 1) := by decide +kernel
theorem dX5_undo_15 : decode cX5_undo 15 = .ok (.getfield 12, 3) := by decide +kernel
theorem dX5_undo_18 : decode cX5_undo 18 = .ok (.aload_n 0, 1) := by decide +kernel
theorem dX5_undo_19 : decode cX5_undo 19 = .ok (.getfield 16, 3) := by decide +kernel
theorem dX5_undo_22 : decode cX5_undo 22 = .ok (.invokevirtual 156, 3) := by decide +kernel
theorem dX5_undo_25 : decode cX5_undo 25 = .ok (.aload_n 0, 1) := by decide +kernel
theorem dX5_undo_26 : decode cX5_undo 26 = .ok (.getfield 25, 3) := by decide +kernel
theorem dX5_undo_29 : decode cX5_undo 29 = .ok (.aload_n 0, 1) := by decide +kernel
theorem dX5_undo_30 : decode cX5_undo 30 = .ok (.getfield 29, 3) := by decide +kernel
theorem dX5_undo_33 : decode cX5_undo 33 = .ok (.invokevirtual 220, 3) := by decide +kernel
theorem dX5_undo_36 : decode cX5_undo 36 = .ok (.aload_n 0, 1) := by decide +kernel
theorem dX5_undo_37 : decode cX5_undo 37 = .ok (.getfield 12, 3) := by decide +kernel
theorem dX5_undo_40 : decode cX5_undo 40 = .ok (.getfield 63, 3) := by decide +kernel
theorem dX5_undo_43 : decode cX5_undo 43 = .ok (.ireturn, 1) := by decide +kernel
theorem dX5_tear_0 : decode cX5_tear 0 = .ok (.aload_n 0, 1) := by decide +kernel
theorem dX5_tear_1 : decode cX5_tear 1 = .ok (.getfield 32, 3) := by decide +kernel
theorem dX5_tear_4 : decode cX5_tear 4 = .ok (.ifCond .eq 7, 3) := by decide +kernel
theorem dX5_tear_7 : decode cX5_tear 7 = .ok (.iconst 1, 1) := by decide +kernel
theorem dX5_tear_8 : decode cX5_tear 8 = .ok (.goto 4, 3) := by decide +kernel
theorem dX5_tear_11 : decode cX5_tear 11 = .ok (.iconst 0, 1) := by decide +kernel
theorem dX5_tear_12 : decode cX5_tear 12 = .ok (.istore_n 1, 1) := by decide +kernel
theorem dX5_tear_13 : decode cX5_tear 13 = .ok (.aload_n 0, 1) := by decide +kernel
theorem dX5_tear_14 : decode cX5_tear 14 = .ok (.iconst 0, 1) := by decide +kernel
theorem dX5_tear_15 : decode cX5_tear 15 = .ok (.putfield 32, 3) := by decide +kernel
theorem dX5_tear_18 : decode cX5_tear 18 = .ok (.iload_n 1, 1) := by decide +kernel
theorem dX5_tear_19 : decode cX5_tear 19 = .ok (.ireturn, 1) := by decide +kernel
theorem dX5_count_0 : decode cX5_count 0 = .ok (.iload_n 1, 1) := by decide +kernel
theorem dX5_count_1 : decode cX5_count 1 = .ok (.tableswitch 122 0 7 #[47, 55, 63, 71, 90, 98, 106, 114], 47) := by decide +kernel
theorem dX5_count_48 : decode cX5_count 48 = .ok (.aload_n 0, 1) := by decide +kernel
theorem dX5_count_49 : decode cX5_count 49 = .ok (.getfield 12, 3) := by decide +kernel
theorem dX5_count_52 : decode cX5_count 52 = .ok (.getfield 63, 3) := by decide +kernel
theorem dX5_count_55 : decode cX5_count 55 = .ok (.ireturn, 1) := by decide +kernel
theorem dX5_count_56 : decode cX5_count 56 = .ok (.aload_n 0, 1) := by decide +kernel
theorem dX5_count_57 : decode cX5_count 57 = .ok (.getfield 25, 3) := by decide +kernel
theorem dX5_count_60 : decode cX5_count 60 = .ok (.getfield 223, 3) := by decide +kernel
theorem dX5_count_63 : decode cX5_count 63 = .ok (.ireturn, 1) := by decide +kernel
theorem dX5_count_64 : decode cX5_count 64 = .ok (.aload_n 0, 1) := by decide +kernel
theorem dX5_count_65 : decode cX5_count 65 = .ok (.getfield 25, 3) := by decide +kernel
theorem dX5_count_68 : decode cX5_count 68 = .ok (.getfield 226, 3) := by decide +kernel
theorem dX5_count_71 : decode cX5_count 71 = .ok (.ireturn, 1) := by decide +kernel
theorem dX5_count_72 : decode cX5_count 72 = .ok (.aload_n 0, 1) := by decide +kernel
theorem dX5_count_73 : decode cX5_count 73 = .ok (.getfield 12, 3) := by decide +kernel
theorem dX5_count_76 : decode cX5_count 76 = .ok (.getfield 187, 3) := by decide +kernel
theorem dX5_count_79 : decode cX5_count 79 = .ok (.getfield 179, 3) := by decide +kernel
theorem dX5_count_82 : decode cX5_count 82 = .ok (.ifCond .le 7, 3) := by decide +kernel
theorem dX5_count_85 : decode cX5_count 85 = .ok (.iconst 1, 1) := by decide +kernel
theorem dX5_count_86 : decode cX5_count 86 = .ok (.goto 4, 3) := by decide +kernel
theorem dX5_count_89 : decode cX5_count 89 = .ok (.iconst 0, 1) := by decide +kernel
theorem dX5_count_90 : decode cX5_count 90 = .ok (.ireturn, 1) := by decide +kernel
theorem dX5_count_91 : decode cX5_count 91 = .ok (.aload_n 0, 1) := by decide +kernel
theorem dX5_count_92 : decode cX5_count 92 = .ok (.getfield 39, 3) := by decide +kernel
theorem dX5_count_95 : decode cX5_count 95 = .ok (.getfield 179, 3) := by decide +kernel
theorem dX5_count_98 : decode cX5_count 98 = .ok (.ireturn, 1) := by decide +kernel
theorem dX5_count_99 : decode cX5_count 99 = .ok (.aload_n 0, 1) := by decide +kernel
theorem dX5_count_100 : decode cX5_count 100 = .ok (.getfield 12, 3) := by decide +kernel
theorem dX5_count_103 : decode cX5_count 103 = .ok (.getfield 126, 3) := by decide +kernel
theorem dX5_count_106 : decode cX5_count 106 = .ok (.ireturn, 1) := by decide +kernel
theorem dX5_count_107 : decode cX5_count 107 = .ok (.aload_n 0, 1) := by decide +kernel
theorem dX5_count_108 : decode cX5_count 108 = .ok (.getfield 12, 3) := by decide +kernel
theorem dX5_count_111 : decode cX5_count 111 = .ok (.getfield 229, 3) := by decide +kernel
theorem dX5_count_114 : decode cX5_count 114 = .ok (.ireturn, 1) := by decide +kernel
theorem dX5_count_115 : decode cX5_count 115 = .ok (.aload_n 0, 1) := by decide +kernel
theorem dX5_count_116 : decode cX5_count 116 = .ok (.getfield 25, 3) := by decide +kernel
theorem dX5_count_119 : decode cX5_count 119 = .ok (.getfield 139, 3) := by decide +kernel
theorem dX5_count_122 : decode cX5_count 122 = .ok (.ireturn, 1) := by decide +kernel
theorem dX5_count_123 : decode cX5_count 123 = .ok (.aload_n 0, 1) := by decide +kernel
theorem dX5_count_124 : decode cX5_count 124 = .ok (.ldc 58, 2) := by decide +kernel
theorem dX5_count_126 : decode cX5_count 126 = .ok (.invokevirtual 59, 3) := by decide +kernel
theorem dX5_count_129 : decode cX5_count 129 = .ok (.ireturn, 1) := by decide +kernel
theorem dX5_status_0 : decode cX5_status 0 = .ok (.iload_n 1, 1) := by decide +kernel
theorem dX5_status_1 : decode cX5_status 1 = .ok (.iconst (-1), 1) := by decide +kernel
theorem dX5_status_2 : decode cX5_status 2 = .ok (.bipush 6, 2) := by decide +kernel
theorem dX5_status_4 : decode cX5_status 4 = .ok (.invokestatic 54, 3) := by decide +kernel
theorem dX5_status_7 : decode cX5_status 7 = .ok (.ifCond .ne 10, 3) := by decide +kernel
theorem dX5_status_10 : decode cX5_status 10 = .ok (.aload_n 0, 1) := by decide +kernel
theorem dX5_status_11 : decode cX5_status 11 = .ok (.ldc 58, 2) := by decide +kernel
theorem dX5_status_13 : decode cX5_status 13 = .ok (.invokevirtual 59, 3) := by decide +kernel
theorem dX5_status_16 : decode cX5_status 16 = .ok (.ireturn, 1) := by decide +kernel
theorem dX5_status_17 : decode cX5_status 17 = .ok (.iload_n 1, 1) := by decide +kernel
theorem dX5_status_18 : decode cX5_status 18 = .ok (.ifCond .lt 10, 3) := by decide +kernel
theorem dX5_status_21 : decode cX5_status 21 = .ok (.aload_n 0, 1) := by decide +kernel
theorem dX5_status_22 : decode cX5_status 22 = .ok (.getfield 49, 3) := by decide +kernel
theorem dX5_status_25 : decode cX5_status 25 = .ok (.iload_n 1, 1) := by decide +kernel
theorem dX5_status_26 : decode cX5_status 26 = .ok (.iaload, 1) := by decide +kernel
theorem dX5_status_27 : decode cX5_status 27 = .ok (.ireturn, 1) := by decide +kernel
theorem dX5_status_28 : decode cX5_status 28 = .ok (.iconst 0, 1) := by decide +kernel
theorem dX5_status_29 : decode cX5_status 29 = .ok (.istore_n 2, 1) := by decide +kernel
theorem dX5_status_30 : decode cX5_status 30 = .ok (.iconst 0, 1) := by decide +kernel
theorem dX5_status_31 : decode cX5_status 31 = .ok (.istore_n 3, 1) := by decide +kernel
theorem dX5_status_32 : decode cX5_status 32 = .ok (.iload_n 3, 1) := by decide +kernel
theorem dX5_status_33 : decode cX5_status 33 = .ok (.bipush 7, 2) := by decide +kernel
theorem dX5_status_35 : decode cX5_status 35 = .ok (.if_icmp .ge 18, 3) := by decide +kernel
theorem dX5_status_38 : decode cX5_status 38 = .ok (.iload_n 2, 1) := by decide +kernel
theorem dX5_status_39 : decode cX5_status 39 = .ok (.aload_n 0, 1) := by decide +kernel
theorem dX5_status_40 : decode cX5_status 40 = .ok (.getfield 49, 3) := by decide +kernel
theorem dX5_status_43 : decode cX5_status 43 = .ok (.iload_n 3, 1) := by decide +kernel
theorem dX5_status_44 : decode cX5_status 44 = .ok (.iaload, 1) := by decide +kernel
theorem dX5_status_45 : decode cX5_status 45 = .ok (.iadd, 1) := by decide +kernel
theorem dX5_status_46 : decode cX5_status 46 = .ok (.istore_n 2, 1) := by decide +kernel
theorem dX5_status_47 : decode cX5_status 47 = .ok (.iinc 3 1, 3) := by decide +kernel
theorem dX5_status_50 : decode cX5_status 50 = .ok (.goto (-18), 3) := by decide +kernel
theorem dX5_status_53 : decode cX5_status 53 = .ok (.iload_n 2, 1) := by decide +kernel
theorem dX5_status_54 : decode cX5_status 54 = .ok (.ireturn, 1) := by decide +kernel
theorem dX5_finding_0 : decode cX5_finding 0 = .ok (.ldc 58, 2) := by decide +kernel
theorem dX5_finding_2 : decode cX5_finding 2 = .ok (.iload_n 1, 1) := by decide +kernel
theorem dX5_finding_3 : decode cX5_finding 3 = .ok (.isub, 1) := by decide +kernel
theorem dX5_finding_4 : decode cX5_finding 4 = .ok (.istore_n 2, 1) := by decide +kernel
theorem dX5_finding_5 : decode cX5_finding 5 = .ok (.iload_n 2, 1) := by decide +kernel
theorem dX5_finding_6 : decode cX5_finding 6 = .ok (.iconst 0, 1) := by decide +kernel
theorem dX5_finding_7 : decode cX5_finding 7 = .ok (.bipush 6, 2) := by decide +kernel
theorem dX5_finding_9 : decode cX5_finding 9 = .ok (.invokestatic 54, 3) := by decide +kernel
theorem dX5_finding_12 : decode cX5_finding 12 = .ok (.ifCond .eq 13, 3) := by decide +kernel
theorem dX5_finding_15 : decode cX5_finding 15 = .ok (.aload_n 0, 1) := by decide +kernel
theorem dX5_finding_16 : decode cX5_finding 16 = .ok (.getfield 49, 3) := by decide +kernel
theorem dX5_finding_19 : decode cX5_finding 19 = .ok (.iload_n 2, 1) := by decide +kernel
theorem dX5_finding_20 : decode cX5_finding 20 = .ok (.dup2, 1) := by decide +kernel
theorem dX5_finding_21 : decode cX5_finding 21 = .ok (.iaload, 1) := by decide +kernel
theorem dX5_finding_22 : decode cX5_finding 22 = .ok (.iconst 1, 1) := by decide +kernel
theorem dX5_finding_23 : decode cX5_finding 23 = .ok (.iadd, 1) := by decide +kernel
theorem dX5_finding_24 : decode cX5_finding 24 = .ok (.iastore, 1) := by decide +kernel
theorem dX5_finding_25 : decode cX5_finding 25 = .ok (.iload_n 1, 1) := by decide +kernel
theorem dX5_finding_26 : decode cX5_finding 26 = .ok (.ireturn, 1) := by decide +kernel
theorem dX5_within_0 : decode cX5_within 0 = .ok (.iload_n 0, 1) := by decide +kernel
theorem dX5_within_1 : decode cX5_within 1 = .ok (.iload_n 1, 1) := by decide +kernel
theorem dX5_within_2 : decode cX5_within 2 = .ok (.if_icmp .lt 12, 3) := by decide +kernel
theorem dX5_within_5 : decode cX5_within 5 = .ok (.iload_n 0, 1) := by decide +kernel
theorem dX5_within_6 : decode cX5_within 6 = .ok (.iload_n 2, 1) := by decide +kernel
theorem dX5_within_7 : decode cX5_within 7 = .ok (.if_icmp .gt 7, 3) := by decide +kernel
theorem dX5_within_10 : decode cX5_within 10 = .ok (.iconst 1, 1) := by decide +kernel
theorem dX5_within_11 : decode cX5_within 11 = .ok (.goto 4, 3) := by decide +kernel
theorem dX5_within_14 : decode cX5_within 14 = .ok (.iconst 0, 1) := by decide +kernel
theorem dX5_within_15 : decode cX5_within 15 = .ok (.ireturn, 1) := by decide +kernel
theorem dX5_canBecome_0 : decode cX5_canBecome 0 = .ok (.iload_n 0, 1) := by decide +kernel
theorem dX5_canBecome_1 : decode cX5_canBecome 1 = .ok (.tableswitch 65 1 4 #[31, 40, 49, 57], 31) := by decide +kernel
theorem dX5_canBecome_32 : decode cX5_canBecome 32 = .ok (.iload_n 1, 1) := by decide +kernel
theorem dX5_canBecome_33 : decode cX5_canBecome 33 = .ok (.iconst 1, 1) := by decide +kernel
theorem dX5_canBecome_34 : decode cX5_canBecome 34 = .ok (.sipush 999, 3) := by decide +kernel
theorem dX5_canBecome_37 : decode cX5_canBecome 37 = .ok (.invokestatic 54, 3) := by decide +kernel
theorem dX5_canBecome_40 : decode cX5_canBecome 40 = .ok (.ireturn, 1) := by decide +kernel
theorem dX5_canBecome_41 : decode cX5_canBecome 41 = .ok (.iload_n 1, 1) := by decide +kernel
theorem dX5_canBecome_42 : decode cX5_canBecome 42 = .ok (.iconst 0, 1) := by decide +kernel
theorem dX5_canBecome_43 : decode cX5_canBecome 43 = .ok (.sipush 999, 3) := by decide +kernel
theorem dX5_canBecome_46 : decode cX5_canBecome 46 = .ok (.invokestatic 54, 3) := by decide +kernel
theorem dX5_canBecome_49 : decode cX5_canBecome 49 = .ok (.ireturn, 1) := by decide +kernel
theorem dX5_canBecome_50 : decode cX5_canBecome 50 = .ok (.iload_n 1, 1) := by decide +kernel
theorem dX5_canBecome_51 : decode cX5_canBecome 51 = .ok (.iconst 0, 1) := by decide +kernel
theorem dX5_canBecome_52 : decode cX5_canBecome 52 = .ok (.bipush 99, 2) := by decide +kernel
theorem dX5_canBecome_54 : decode cX5_canBecome 54 = .ok (.invokestatic 54, 3) := by decide +kernel
theorem dX5_canBecome_57 : decode cX5_canBecome 57 = .ok (.ireturn, 1) := by decide +kernel
theorem dX5_canBecome_58 : decode cX5_canBecome 58 = .ok (.iload_n 1, 1) := by decide +kernel
theorem dX5_canBecome_59 : decode cX5_canBecome 59 = .ok (.iconst 0, 1) := by decide +kernel
theorem dX5_canBecome_60 : decode cX5_canBecome 60 = .ok (.bipush 99, 2) := by decide +kernel
theorem dX5_canBecome_62 : decode cX5_canBecome 62 = .ok (.invokestatic 54, 3) := by decide +kernel
theorem dX5_canBecome_65 : decode cX5_canBecome 65 = .ok (.ireturn, 1) := by decide +kernel
theorem dX5_canBecome_66 : decode cX5_canBecome 66 = .ok (.iconst 0, 1) := by decide +kernel
theorem dX5_canBecome_67 : decode cX5_canBecome 67 = .ok (.ireturn, 1) := by decide +kernel
theorem dX5_isOf_0 : decode cX5_isOf 0 = .ok (.iload_n 0, 1) := by decide +kernel
theorem dX5_isOf_1 : decode cX5_isOf 1 = .ok (.istore_n 2, 1) := by decide +kernel
theorem dX5_isOf_2 : decode cX5_isOf 2 = .ok (.iconst 0, 1) := by decide +kernel
theorem dX5_isOf_3 : decode cX5_isOf 3 = .ok (.istore_n 3, 1) := by decide +kernel
theorem dX5_isOf_4 : decode cX5_isOf 4 = .ok (.iload_n 3, 1) := by decide +kernel
theorem dX5_isOf_5 : decode cX5_isOf 5 = .ok (.bipush 6, 2) := by decide +kernel
theorem dX5_isOf_7 : decode cX5_isOf 7 = .ok (.if_icmp .ge 31, 3) := by decide +kernel
theorem dX5_isOf_10 : decode cX5_isOf 10 = .ok (.iload_n 2, 1) := by decide +kernel
theorem dX5_isOf_11 : decode cX5_isOf 11 = .ok (.iconst 0, 1) := by decide +kernel
theorem dX5_isOf_12 : decode cX5_isOf 12 = .ok (.iconst 5, 1) := by decide +kernel
theorem dX5_isOf_13 : decode cX5_isOf 13 = .ok (.invokestatic 54, 3) := by decide +kernel
theorem dX5_isOf_16 : decode cX5_isOf 16 = .ok (.ifCond .eq 22, 3) := by decide +kernel
theorem dX5_isOf_19 : decode cX5_isOf 19 = .ok (.iload_n 2, 1) := by decide +kernel
theorem dX5_isOf_20 : decode cX5_isOf 20 = .ok (.iload_n 1, 1) := by decide +kernel
theorem dX5_isOf_21 : decode cX5_isOf 21 = .ok (.if_icmp .ne 5, 3) := by decide +kernel
theorem dX5_isOf_24 : decode cX5_isOf 24 = .ok (.iconst 1, 1) := by decide +kernel
theorem dX5_isOf_25 : decode cX5_isOf 25 = .ok (.ireturn, 1) := by decide +kernel
theorem dX5_isOf_26 : decode cX5_isOf 26 = .ok (.getstatic 232, 3) := by decide +kernel
theorem dX5_isOf_29 : decode cX5_isOf 29 = .ok (.iload_n 2, 1) := by decide +kernel
theorem dX5_isOf_30 : decode cX5_isOf 30 = .ok (.iaload, 1) := by decide +kernel
theorem dX5_isOf_31 : decode cX5_isOf 31 = .ok (.istore_n 2, 1) := by decide +kernel
theorem dX5_isOf_32 : decode cX5_isOf 32 = .ok (.iinc 3 1, 3) := by decide +kernel
theorem dX5_isOf_35 : decode cX5_isOf 35 = .ok (.goto (-31), 3) := by decide +kernel
theorem dX5_isOf_38 : decode cX5_isOf 38 = .ok (.iconst 0, 1) := by decide +kernel
theorem dX5_isOf_39 : decode cX5_isOf 39 = .ok (.ireturn, 1) := by decide +kernel
end
section
theorem dX6_init_0 : decode cX6_init 0 = .ok (.aload_n 0, 1) := by decide +kernel
theorem dX6_init_1 : decode cX6_init 1 = .ok (.invokespecial 1, 3) := by decide +kernel
theorem dX6_init_4 : decode cX6_init 4 = .ok (.aload_n 0, 1) := by decide +kernel
theorem dX6_init_5 : decode cX6_init 5 = .ok (.sipush 448, 3) := by decide +kernel
theorem dX6_init_8 : decode cX6_init 8 = .ok (.newarray .int, 2) := by decide +kernel
theorem dX6_init_10 : decode cX6_init 10 = .ok (.putfield 9, 3) := by decide +kernel
theorem dX6_init_13 : decode cX6_init 13 = .ok (.aload_n 0, 1) := by decide +kernel
theorem dX6_init_14 : decode cX6_init 14 = .ok (.sipush 448, 3) := by decide +kernel
theorem dX6_init_17 : decode cX6_init 17 = .ok (.newarray .int, 2) := by decide +kernel
theorem dX6_init_19 : decode cX6_init 19 = .ok (.putfield 13, 3) := by decide +kernel
theorem dX6_init_22 : decode cX6_init 22 = .ok (.aload_n 0, 1) := by decide +kernel
theorem dX6_init_23 : decode cX6_init 23 = .ok (.sipush 448, 3) := by decide +kernel
theorem dX6_init_26 : decode cX6_init 26 = .ok (.newarray .int, 2) := by decide +kernel
theorem dX6_init_28 : decode cX6_init 28 = .ok (.putfield 16, 3) := by decide +kernel
theorem dX6_init_31 : decode cX6_init 31 = .ok (.aload_n 0, 1) := by decide +kernel
theorem dX6_init_32 : decode cX6_init 32 = .ok (.bipush 60, 2) := by decide +kernel
theorem dX6_init_34 : decode cX6_init 34 = .ok (.newarray .int, 2) := by decide +kernel
theorem dX6_init_36 : decode cX6_init 36 = .ok (.putfield 19, 3) := by decide +kernel
theorem dX6_init_39 : decode cX6_init 39 = .ok (.aload_n 0, 1) := by decide +kernel
theorem dX6_init_40 : decode cX6_init 40 = .ok (.bipush 7, 2) := by decide +kernel
theorem dX6_init_42 : decode cX6_init 42 = .ok (.newarray .int, 2) := by decide +kernel
theorem dX6_init_44 : decode cX6_init 44 = .ok (.putfield 22, 3) := by decide +kernel
theorem dX6_init_47 : decode cX6_init 47 = .ok (.aload_n 0, 1) := by decide +kernel
theorem dX6_init_48 : decode cX6_init 48 = .ok (.bipush 10, 2) := by decide +kernel
theorem dX6_init_50 : decode cX6_init 50 = .ok (.newarray .int, 2) := by decide +kernel
theorem dX6_init_52 : decode cX6_init 52 = .ok (.putfield 25, 3) := by decide +kernel
theorem dX6_init_55 : decode cX6_init 55 = .ok (.aload_n 0, 1) := by decide +kernel
theorem dX6_init_56 : decode cX6_init 56 = .ok (.bipush 10, 2) := by decide +kernel
theorem dX6_init_58 : decode cX6_init 58 = .ok (.newarray .int, 2) := by decide +kernel
theorem dX6_init_60 : decode cX6_init 60 = .ok (.putfield 28, 3) := by decide +kernel
theorem dX6_init_63 : decode cX6_init 63 = .ok (.aload_n 0, 1) := by decide +kernel
theorem dX6_init_64 : decode cX6_init 64 = .ok (.bipush 60, 2) := by decide +kernel
theorem dX6_init_66 : decode cX6_init 66 = .ok (.newarray .int, 2) := by decide +kernel
theorem dX6_init_68 : decode cX6_init 68 = .ok (.putfield 31, 3) := by decide +kernel
theorem dX6_init_71 : decode cX6_init 71 = .ok (.aload_n 0, 1) := by decide +kernel
theorem dX6_init_72 : decode cX6_init 72 = .ok (.bipush 60, 2) := by decide +kernel
theorem dX6_init_74 : decode cX6_init 74 = .ok (.newarray .int, 2) := by decide +kernel
theorem dX6_init_76 : decode cX6_init 76 = .ok (.putfield 34, 3) := by decide +kernel
theorem dX6_init_79 : decode cX6_init 79 = .ok (.aload_n 0, 1) := by decide +kernel
theorem dX6_init_80 : decode cX6_init 80 = .ok (.bipush 64, 2) := by decide +kernel
theorem dX6_init_82 : decode cX6_init 82 = .ok (.newarray .int, 2) := by decide +kernel
theorem dX6_init_84 : decode cX6_init 84 = .ok (.putfield 37, 3) := by decide +kernel
theorem dX6_init_87 : decode cX6_init 87 = .ok (.aload_n 0, 1) := by decide +kernel
theorem dX6_init_88 : decode cX6_init 88 = .ok (.bipush 64, 2) := by decide +kernel
theorem dX6_init_90 : decode cX6_init 90 = .ok (.newarray .int, 2) := by decide +kernel
theorem dX6_init_92 : decode cX6_init 92 = .ok (.putfield 40, 3) := by decide +kernel
theorem dX6_init_95 : decode cX6_init 95 = .ok (.aload_n 0, 1) := by decide +kernel
theorem dX6_init_96 : decode cX6_init 96 = .ok (.iconst 4, 1) := by decide +kernel
theorem dX6_init_97 : decode cX6_init 97 = .ok (.newarray .int, 2) := by decide +kernel
theorem dX6_init_99 : decode cX6_init 99 = .ok (.putfield 43, 3) := by decide +kernel
theorem dX6_init_102 : decode cX6_init 102 = .ok (.aload_n 0, 1) := by decide +kernel
theorem dX6_init_103 : decode cX6_init 103 = .ok (.iconst 4, 1) := by decide +kernel
theorem dX6_init_104 : decode cX6_init 104 = .ok (.newarray .int, 2) := by decide +kernel
theorem dX6_init_106 : decode cX6_init 106 = .ok (.putfield 46, 3) := by decide +kernel
theorem dX6_init_109 : decode cX6_init 109 = .ok (.aload_n 0, 1) := by decide +kernel
theorem dX6_init_110 : decode cX6_init 110 = .ok (.sipush 160, 3) := by decide +kernel
theorem dX6_init_113 : decode cX6_init 113 = .ok (.newarray .long, 2) := by decide +kernel
theorem dX6_init_115 : decode cX6_init 115 = .ok (.putfield 49, 3) := by decide +kernel
theorem dX6_init_118 : decode cX6_init 118 = .ok (.aload_n 0, 1) := by decide +kernel
theorem dX6_init_119 : decode cX6_init 119 = .ok (.bipush 40, 2) := by decide +kernel
theorem dX6_init_121 : decode cX6_init 121 = .ok (.newarray .long, 2) := by decide +kernel
theorem dX6_init_123 : decode cX6_init 123 = .ok (.putfield 53, 3) := by decide +kernel
theorem dX6_init_126 : decode cX6_init 126 = .ok (.aload_n 0, 1) := by decide +kernel
theorem dX6_init_127 : decode cX6_init 127 = .ok (.getfield 9, 3) := by decide +kernel
theorem dX6_init_130 : decode cX6_init 130 = .ok (.iconst 2, 1) := by decide +kernel
theorem dX6_init_131 : decode cX6_init 131 = .ok (.iconst 1, 1) := by decide +kernel
theorem dX6_init_132 : decode cX6_init 132 = .ok (.iastore, 1) := by decide +kernel
theorem dX6_init_133 : decode cX6_init 133 = .ok (.aload_n 0, 1) := by decide +kernel
theorem dX6_init_134 : decode cX6_init 134 = .ok (.getfield 9, 3) := by decide +kernel
theorem dX6_init_137 : decode cX6_init 137 = .ok (.iconst 5, 1) := by decide +kernel
theorem dX6_init_138 : decode cX6_init 138 = .ok (.iconst (-1), 1) := by decide +kernel
theorem dX6_init_139 : decode cX6_init 139 = .ok (.iastore, 1) := by decide +kernel
theorem dX6_init_140 : decode cX6_init 140 = .ok (.iconst 0, 1) := by decide +kernel
theorem dX6_init_141 : decode cX6_init 141 = .ok (.istore_n 1, 1) := by decide +kernel
theorem dX6_init_142 : decode cX6_init 142 = .ok (.iload_n 1, 1) := by decide +kernel
theorem dX6_init_143 : decode cX6_init 143 = .ok (.iconst 4, 1) := by decide +kernel
theorem dX6_init_144 : decode cX6_init 144 = .ok (.if_icmp .ge 16, 3) := by decide +kernel
theorem dX6_init_147 : decode cX6_init 147 = .ok (.aload_n 0, 1) := by decide +kernel
theorem dX6_init_148 : decode cX6_init 148 = .ok (.getfield 43, 3) := by decide +kernel
theorem dX6_init_151 : decode cX6_init 151 = .ok (.iload_n 1, 1) := by decide +kernel
theorem dX6_init_152 : decode cX6_init 152 = .ok (.iconst 0, 1) := by decide +kernel
theorem dX6_init_153 : decode cX6_init 153 = .ok (.iastore, 1) := by decide +kernel
theorem dX6_init_154 : decode cX6_init 154 = .ok (.iinc 1 1, 3) := by decide +kernel
theorem dX6_init_157 : decode cX6_init 157 = .ok (.goto (-15), 3) := by decide +kernel
theorem dX6_init_160 : decode cX6_init 160 = .ok (.return_, 1) := by decide +kernel
theorem dX6_in_0 : decode cX6_in 0 = .ok (.iload_n 0, 1) := by decide +kernel
theorem dX6_in_1 : decode cX6_in 1 = .ok (.iload_n 1, 1) := by decide +kernel
theorem dX6_in_2 : decode cX6_in 2 = .ok (.if_icmp .lt 12, 3) := by decide +kernel
theorem dX6_in_5 : decode cX6_in 5 = .ok (.iload_n 0, 1) := by decide +kernel
theorem dX6_in_6 : decode cX6_in 6 = .ok (.iload_n 2, 1) := by decide +kernel
theorem dX6_in_7 : decode cX6_in 7 = .ok (.if_icmp .gt 7, 3) := by decide +kernel
theorem dX6_in_10 : decode cX6_in 10 = .ok (.iconst 1, 1) := by decide +kernel
theorem dX6_in_11 : decode cX6_in 11 = .ok (.goto 4, 3) := by decide +kernel
theorem dX6_in_14 : decode cX6_in 14 = .ok (.iconst 0, 1) := by decide +kernel
theorem dX6_in_15 : decode cX6_in 15 = .ok (.ireturn, 1) := by decide +kernel
theorem dX6_lesser_0 : decode cX6_lesser 0 = .ok (.iload_n 0, 1) := by decide +kernel
theorem dX6_lesser_1 : decode cX6_lesser 1 = .ok (.iload_n 1, 1) := by decide +kernel
theorem dX6_lesser_2 : decode cX6_lesser 2 = .ok (.if_icmp .ge 7, 3) := by decide +kernel
theorem dX6_lesser_5 : decode cX6_lesser 5 = .ok (.iload_n 0, 1) := by decide +kernel
theorem dX6_lesser_6 : decode cX6_lesser 6 = .ok (.goto 4, 3) := by decide +kernel
theorem dX6_lesser_9 : decode cX6_lesser 9 = .ok (.iload_n 1, 1) := by decide +kernel
theorem dX6_lesser_10 : decode cX6_lesser 10 = .ok (.ireturn, 1) := by decide +kernel
theorem dX6_greater_0 : decode cX6_greater 0 = .ok (.iload_n 0, 1) := by decide +kernel
theorem dX6_greater_1 : decode cX6_greater 1 = .ok (.iload_n 1, 1) := by decide +kernel
theorem dX6_greater_2 : decode cX6_greater 2 = .ok (.if_icmp .le 7, 3) := by decide +kernel
theorem dX6_greater_5 : decode cX6_greater 5 = .ok (.iload_n 0, 1) := by decide +kernel
theorem dX6_greater_6 : decode cX6_greater 6 = .ok (.goto 4, 3) := by decide +kernel
theorem dX6_greater_9 : decode cX6_greater 9 = .ok (.iload_n 1, 1) := by decide +kernel
theorem dX6_greater_10 : decode cX6_greater 10 = .ok (.ireturn, 1) := by decide +kernel
theorem dX6_without_0 : decode cX6_without 0 = .ok (.iload_n 0, 1) := by decide +kernel
theorem dX6_without_1 : decode cX6_without 1 = .ok (.ifCond .ge 9, 3) := by decide +kernel
theorem dX6_without_4 : decode cX6_without 4 = .ok (.iload_n 0, 1) := by decide +kernel
theorem dX6_without_5 : decode cX6_without 5 = .ok (.i2l, 1) := by decide +kernel
theorem dX6_without_6 : decode cX6_without 6 = .ok (.lneg, 1) := by decide +kernel
theorem dX6_without_7 : decode cX6_without 7 = .ok (.goto 5, 3) := by decide +kernel
theorem dX6_without_10 : decode cX6_without 10 = .ok (.iload_n 0, 1) := by decide +kernel
theorem dX6_without_11 : decode cX6_without 11 = .ok (.i2l, 1) := by decide +kernel
theorem dX6_without_12 : decode cX6_without 12 = .ok (.lreturn, 1) := by decide +kernel
theorem dX6_no_0 : decode cX6_no 0 = .ok (.aload_n 0, 1) := by decide +kernel
theorem dX6_no_1 : decode cX6_no 1 = .ok (.getfield 22, 3) := by decide +kernel
theorem dX6_no_4 : decode cX6_no 4 = .ok (.iload_n 1, 1) := by decide +kernel
theorem dX6_no_5 : decode cX6_no 5 = .ok (.dup2, 1) := by decide +kernel
theorem dX6_no_6 : decode cX6_no 6 = .ok (.iaload, 1) := by decide +kernel
theorem dX6_no_7 : decode cX6_no 7 = .ok (.iconst 1, 1) := by decide +kernel
theorem dX6_no_8 : decode cX6_no 8 = .ok (.iadd, 1) := by decide +kernel
theorem dX6_no_9 : decode cX6_no 9 = .ok (.iastore, 1) := by decide +kernel
theorem dX6_no_10 : decode cX6_no 10 = .ok (.ldc 56, 2) := by decide +kernel
theorem dX6_no_12 : decode cX6_no 12 = .ok (.iload_n 1, 1) := by decide +kernel
theorem dX6_no_13 : decode cX6_no 13 = .ok (.isub, 1) := by decide +kernel
theorem dX6_no_14 : decode cX6_no 14 = .ok (.ireturn, 1) := by decide +kernel
theorem dX6_isBlock_0 : decode cX6_isBlock 0 = .ok (.iload_n 1, 1) := by decide +kernel
theorem dX6_isBlock_1 : decode cX6_isBlock 1 = .ok (.iconst 0, 1) := by decide +kernel
theorem dX6_isBlock_2 : decode cX6_isBlock 2 = .ok (.aload_n 0, 1) := by decide +kernel
theorem dX6_isBlock_3 : decode cX6_isBlock 3 = .ok (.getfield 9, 3) := by decide +kernel
theorem dX6_isBlock_6 : decode cX6_isBlock 6 = .ok (.iconst 0, 1) := by decide +kernel
theorem dX6_isBlock_7 : decode cX6_isBlock 7 = .ok (.iaload, 1) := by decide +kernel
theorem dX6_isBlock_8 : decode cX6_isBlock 8 = .ok (.iconst 1, 1) := by decide +kernel
theorem dX6_isBlock_9 : decode cX6_isBlock 9 = .ok (.isub, 1) := by decide +kernel
theorem dX6_isBlock_10 : decode cX6_isBlock 10 = .ok (.invokestatic 57, 3) := by decide +kernel
theorem dX6_isBlock_13 : decode cX6_isBlock 13 = .ok (.ireturn, 1) := by decide +kernel
theorem dX6_at_0 : decode cX6_at 0 = .ok (.aload_n 0, 1) := by decide +kernel
theorem dX6_at_1 : decode cX6_at 1 = .ok (.getfield 9, 3) := by decide +kernel
theorem dX6_at_4 : decode cX6_at 4 = .ok (.bipush 78, 2) := by decide +kernel
theorem dX6_at_6 : decode cX6_at 6 = .ok (.bipush 7, 2) := by decide +kernel
theorem dX6_at_8 : decode cX6_at 8 = .ok (.iload_n 1, 1) := by decide +kernel
theorem dX6_at_9 : decode cX6_at 9 = .ok (.imul, 1) := by decide +kernel
theorem dX6_at_10 : decode cX6_at 10 = .ok (.iadd, 1) := by decide +kernel
theorem dX6_at_11 : decode cX6_at 11 = .ok (.iload_n 2, 1) := by decide +kernel
theorem dX6_at_12 : decode cX6_at 12 = .ok (.iadd, 1) := by decide +kernel
theorem dX6_at_13 : decode cX6_at 13 = .ok (.iaload, 1) := by decide +kernel
theorem dX6_at_14 : decode cX6_at 14 = .ok (.ireturn, 1) := by decide +kernel
theorem dX6_become_0 : decode cX6_become 0 = .ok (.aload_n 0, 1) := by decide +kernel
theorem dX6_become_1 : decode cX6_become 1 = .ok (.iload_n 1, 1) := by decide +kernel
theorem dX6_become_2 : decode cX6_become 2 = .ok (.iload_n 2, 1) := by decide +kernel
theorem dX6_become_3 : decode cX6_become 3 = .ok (.invokevirtual 61, 3) := by decide +kernel
theorem dX6_become_6 : decode cX6_become 6 = .ok (.istore 4, 2) := by decide +kernel
theorem dX6_become_8 : decode cX6_become 8 = .ok (.aload_n 0, 1) := by decide +kernel
theorem dX6_become_9 : decode cX6_become 9 = .ok (.getfield 9, 3) := by decide +kernel
theorem dX6_become_12 : decode cX6_become 12 = .ok (.bipush 78, 2) := by decide +kernel
theorem dX6_become_14 : decode cX6_become 14 = .ok (.bipush 7, 2) := by decide +kernel
theorem dX6_become_16 : decode cX6_become 16 = .ok (.iload_n 1, 1) := by decide +kernel
theorem dX6_become_17 : decode cX6_become 17 = .ok (.imul, 1) := by decide +kernel
theorem dX6_become_18 : decode cX6_become 18 = .ok (.iadd, 1) := by decide +kernel
theorem dX6_become_19 : decode cX6_become 19 = .ok (.iload_n 2, 1) := by decide +kernel
theorem dX6_become_20 : decode cX6_become 20 = .ok (.iadd, 1) := by decide +kernel
theorem dX6_become_21 : decode cX6_become 21 = .ok (.iload_n 3, 1) := by decide +kernel
theorem dX6_become_22 : decode cX6_become 22 = .ok (.iastore, 1) := by decide +kernel
theorem dX6_become_23 : decode cX6_become 23 = .ok (.iload 4, 2) := by decide +kernel
theorem dX6_become_25 : decode cX6_become 25 = .ok (.ireturn, 1) := by decide +kernel
theorem dX6_plainHolds_0 : decode cX6_plainHolds 0 = .ok (.aload_n 0, 1) := by decide +kernel
theorem dX6_plainHolds_1 : decode cX6_plainHolds 1 = .ok (.iload_n 1, 1) := by decide +kernel
theorem dX6_plainHolds_2 : decode cX6_plainHolds 2 = .ok (.iconst 1, 1) := by decide +kernel
theorem dX6_plainHolds_3 : decode cX6_plainHolds 3 = .ok (.invokevirtual 61, 3) := by decide +kernel
theorem dX6_plainHolds_6 : decode cX6_plainHolds 6 = .ok (.iload_n 2, 1) := by decide +kernel
theorem dX6_plainHolds_7 : decode cX6_plainHolds 7 = .ok (.iconst 4, 1) := by decide +kernel
theorem dX6_plainHolds_8 : decode cX6_plainHolds 8 = .ok (.idiv, 1) := by decide +kernel
theorem dX6_plainHolds_9 : decode cX6_plainHolds 9 = .ok (.bipush 50, 2) := by decide +kernel
theorem dX6_plainHolds_11 : decode cX6_plainHolds 11 = .ok (.invokestatic 65, 3) := by decide +kernel
theorem dX6_plainHolds_14 : decode cX6_plainHolds 14 = .ok (.iadd, 1) := by decide +kernel
theorem dX6_plainHolds_15 : decode cX6_plainHolds 15 = .ok (.ireturn, 1) := by decide +kernel
theorem dX6_holdsOf_0 : decode cX6_holdsOf 0 = .ok (.aload_n 0, 1) := by decide +kernel
theorem dX6_holdsOf_1 : decode cX6_holdsOf 1 = .ok (.iload_n 1, 1) := by decide +kernel
theorem dX6_holdsOf_2 : decode cX6_holdsOf 2 = .ok (.iload_n 2, 1) := by decide +kernel
theorem dX6_holdsOf_3 : decode cX6_holdsOf 3 = .ok (.invokevirtual 68, 3) := by decide +kernel
theorem dX6_holdsOf_6 : decode cX6_holdsOf 6 = .ok (.istore_n 3, 1) := by decide +kernel
theorem dX6_holdsOf_7 : decode cX6_holdsOf 7 = .ok (.aload_n 0, 1) := by decide +kernel
theorem dX6_holdsOf_8 : decode cX6_holdsOf 8 = .ok (.iload_n 1, 1) := by decide +kernel
theorem dX6_holdsOf_9 : decode cX6_holdsOf 9 = .ok (.iconst 0, 1) := by decide +kernel
theorem dX6_holdsOf_10 : decode cX6_holdsOf 10 = .ok (.invokevirtual 61, 3) := by decide +kernel
theorem dX6_holdsOf_13 : decode cX6_holdsOf 13 = .ok (.tableswitch 131 1 5 #[35, 39, 54, 89, 105], 35) := by decide +kernel
theorem dX6_holdsOf_48 : decode cX6_holdsOf 48 = .ok (.iload_n 3, 1) := by decide +kernel
theorem dX6_holdsOf_49 : decode cX6_holdsOf 49 = .ok (.iload_n 2, 1) := by decide +kernel
theorem dX6_holdsOf_50 : decode cX6_holdsOf 50 = .ok (.iadd, 1) := by decide +kernel
theorem dX6_holdsOf_51 : decode cX6_holdsOf 51 = .ok (.ireturn, 1) := by decide +kernel
theorem dX6_holdsOf_52 : decode cX6_holdsOf 52 = .ok (.iconst 0, 1) := by decide +kernel
theorem dX6_holdsOf_53 : decode cX6_holdsOf 53 = .ok (.iload_n 3, 1) := by decide +kernel
theorem dX6_holdsOf_54 : decode cX6_holdsOf 54 = .ok (.iconst 2, 1) := by decide +kernel
theorem dX6_holdsOf_55 : decode cX6_holdsOf 55 = .ok (.idiv, 1) := by decide +kernel
theorem dX6_holdsOf_56 : decode cX6_holdsOf 56 = .ok (.aload_n 0, 1) := by decide +kernel
theorem dX6_holdsOf_57 : decode cX6_holdsOf 57 = .ok (.iload_n 1, 1) := by decide +kernel
theorem dX6_holdsOf_58 : decode cX6_holdsOf 58 = .ok (.iconst 4, 1) := by decide +kernel
theorem dX6_holdsOf_59 : decode cX6_holdsOf 59 = .ok (.invokevirtual 61, 3) := by decide +kernel
theorem dX6_holdsOf_62 : decode cX6_holdsOf 62 = .ok (.isub, 1) := by decide +kernel
theorem dX6_holdsOf_63 : decode cX6_holdsOf 63 = .ok (.invokestatic 71, 3) := by decide +kernel
theorem dX6_holdsOf_66 : decode cX6_holdsOf 66 = .ok (.ireturn, 1) := by decide +kernel
theorem dX6_holdsOf_67 : decode cX6_holdsOf 67 = .ok (.aload_n 0, 1) := by decide +kernel
theorem dX6_holdsOf_68 : decode cX6_holdsOf 68 = .ok (.getfield 9, 3) := by decide +kernel
theorem dX6_holdsOf_71 : decode cX6_holdsOf 71 = .ok (.iconst 5, 1) := by decide +kernel
theorem dX6_holdsOf_72 : decode cX6_holdsOf 72 = .ok (.iaload, 1) := by decide +kernel
theorem dX6_holdsOf_73 : decode cX6_holdsOf 73 = .ok (.ifCond .ge 12, 3) := by decide +kernel
theorem dX6_holdsOf_76 : decode cX6_holdsOf 76 = .ok (.aload_n 0, 1) := by decide +kernel
theorem dX6_holdsOf_77 : decode cX6_holdsOf 77 = .ok (.iload_n 1, 1) := by decide +kernel
theorem dX6_holdsOf_78 : decode cX6_holdsOf 78 = .ok (.iconst 1, 1) := by decide +kernel
theorem dX6_holdsOf_79 : decode cX6_holdsOf 79 = .ok (.invokevirtual 61, 3) := by decide +kernel
theorem dX6_holdsOf_82 : decode cX6_holdsOf 82 = .ok (.goto 19, 3) := by decide +kernel
theorem dX6_holdsOf_85 : decode cX6_holdsOf 85 = .ok (.iconst 0, 1) := by decide +kernel
theorem dX6_holdsOf_86 : decode cX6_holdsOf 86 = .ok (.sipush 9999, 3) := by decide +kernel
theorem dX6_holdsOf_89 : decode cX6_holdsOf 89 = .ok (.aload_n 0, 1) := by decide +kernel
theorem dX6_holdsOf_90 : decode cX6_holdsOf 90 = .ok (.iload_n 1, 1) := by decide +kernel
theorem dX6_holdsOf_91 : decode cX6_holdsOf 91 = .ok (.iload_n 2, 1) := by decide +kernel
theorem dX6_holdsOf_92 : decode cX6_holdsOf 92 = .ok (.invokevirtual 74, 3) := by decide +kernel
theorem dX6_holdsOf_95 : decode cX6_holdsOf 95 = .ok (.invokestatic 65, 3) := by decide +kernel
theorem dX6_holdsOf_98 : decode cX6_holdsOf 98 = .ok (.invokestatic 71, 3) := by decide +kernel
theorem dX6_holdsOf_101 : decode cX6_holdsOf 101 = .ok (.ireturn, 1) := by decide +kernel
theorem dX6_holdsOf_102 : decode cX6_holdsOf 102 = .ok (.iload_n 3, 1) := by decide +kernel
theorem dX6_holdsOf_103 : decode cX6_holdsOf 103 = .ok (.iload_n 2, 1) := by decide +kernel
theorem dX6_holdsOf_104 : decode cX6_holdsOf 104 = .ok (.iadd, 1) := by decide +kernel
theorem dX6_holdsOf_105 : decode cX6_holdsOf 105 = .ok (.iload_n 2, 1) := by decide +kernel
theorem dX6_holdsOf_106 : decode cX6_holdsOf 106 = .ok (.bipush 40, 2) := by decide +kernel
theorem dX6_holdsOf_108 : decode cX6_holdsOf 108 = .ok (.if_icmp .lt 7, 3) := by decide +kernel
theorem dX6_holdsOf_111 : decode cX6_holdsOf 111 = .ok (.iconst 3, 1) := by decide +kernel
theorem dX6_holdsOf_112 : decode cX6_holdsOf 112 = .ok (.goto 4, 3) := by decide +kernel
theorem dX6_holdsOf_115 : decode cX6_holdsOf 115 = .ok (.iconst 1, 1) := by decide +kernel
theorem dX6_holdsOf_116 : decode cX6_holdsOf 116 = .ok (.imul, 1) := by decide +kernel
theorem dX6_holdsOf_117 : decode cX6_holdsOf 117 = .ok (.ireturn, 1) := by decide +kernel
theorem dX6_holdsOf_118 : decode cX6_holdsOf 118 = .ok (.iconst 0, 1) := by decide +kernel
theorem dX6_holdsOf_119 : decode cX6_holdsOf 119 = .ok (.iconst 0, 1) := by decide +kernel
theorem dX6_holdsOf_120 : decode cX6_holdsOf 120 = .ok (.iload_n 3, 1) := by decide +kernel
theorem dX6_holdsOf_121 : decode cX6_holdsOf 121 = .ok (.iconst 2, 1) := by decide +kernel
theorem dX6_holdsOf_122 : decode cX6_holdsOf 122 = .ok (.idiv, 1) := by decide +kernel
theorem dX6_holdsOf_123 : decode cX6_holdsOf 123 = .ok (.aload_n 0, 1) := by decide +kernel
theorem dX6_holdsOf_124 : decode cX6_holdsOf 124 = .ok (.iload_n 1, 1) := by decide +kernel
theorem dX6_holdsOf_125 : decode cX6_holdsOf 125 = .ok (.iconst 4, 1) := by decide +kernel
theorem dX6_holdsOf_126 : decode cX6_holdsOf 126 = .ok (.invokevirtual 61, 3) := by decide +kernel
theorem dX6_holdsOf_129 : decode cX6_holdsOf 129 = .ok (.isub, 1) := by decide +kernel
theorem dX6_holdsOf_130 : decode cX6_holdsOf 130 = .ok (.invokestatic 71, 3) := by decide +kernel
theorem dX6_holdsOf_133 : decode cX6_holdsOf 133 = .ok (.aload_n 0, 1) := by decide +kernel
theorem dX6_holdsOf_134 : decode cX6_holdsOf 134 = .ok (.iload_n 1, 1) := by decide +kernel
theorem dX6_holdsOf_135 : decode cX6_holdsOf 135 = .ok (.iconst 4, 1) := by decide +kernel
theorem dX6_holdsOf_136 : decode cX6_holdsOf 136 = .ok (.invokevirtual 61, 3) := by decide +kernel
theorem dX6_holdsOf_139 : decode cX6_holdsOf 139 = .ok (.isub, 1) := by decide +kernel
theorem dX6_holdsOf_140 : decode cX6_holdsOf 140 = .ok (.invokestatic 71, 3) := by decide +kernel
theorem dX6_holdsOf_143 : decode cX6_holdsOf 143 = .ok (.ireturn, 1) := by decide +kernel
theorem dX6_holdsOf_144 : decode cX6_holdsOf 144 = .ok (.iload_n 3, 1) := by decide +kernel
theorem dX6_holdsOf_145 : decode cX6_holdsOf 145 = .ok (.ireturn, 1) := by decide +kernel
theorem dX6_rubsOf_0 : decode cX6_rubsOf 0 = .ok (.aload_n 0, 1) := by decide +kernel
theorem dX6_rubsOf_1 : decode cX6_rubsOf 1 = .ok (.iload_n 1, 1) := by decide +kernel
theorem dX6_rubsOf_2 : decode cX6_rubsOf 2 = .ok (.iconst 2, 1) := by decide +kernel
theorem dX6_rubsOf_3 : decode cX6_rubsOf 3 = .ok (.invokevirtual 61, 3) := by decide +kernel
theorem dX6_rubsOf_6 : decode cX6_rubsOf 6 = .ok (.istore_n 3, 1) := by decide +kernel
theorem dX6_rubsOf_7 : decode cX6_rubsOf 7 = .ok (.aload_n 0, 1) := by decide +kernel
theorem dX6_rubsOf_8 : decode cX6_rubsOf 8 = .ok (.iload_n 1, 1) := by decide +kernel
theorem dX6_rubsOf_9 : decode cX6_rubsOf 9 = .ok (.iconst 0, 1) := by decide +kernel
theorem dX6_rubsOf_10 : decode cX6_rubsOf 10 = .ok (.invokevirtual 61, 3) := by decide +kernel
theorem dX6_rubsOf_13 : decode cX6_rubsOf 13 = .ok (.tableswitch 49 1 5 #[35, 37, 49, 35, 37], 35) := by decide +kernel
theorem dX6_rubsOf_48 : decode cX6_rubsOf 48 = .ok (.iload_n 3, 1) := by decide +kernel
theorem dX6_rubsOf_49 : decode cX6_rubsOf 49 = .ok (.ireturn, 1) := by decide +kernel
theorem dX6_rubsOf_50 : decode cX6_rubsOf 50 = .ok (.sipush 999, 3) := by decide +kernel
theorem dX6_rubsOf_53 : decode cX6_rubsOf 53 = .ok (.iload_n 3, 1) := by decide +kernel
theorem dX6_rubsOf_54 : decode cX6_rubsOf 54 = .ok (.iconst 2, 1) := by decide +kernel
theorem dX6_rubsOf_55 : decode cX6_rubsOf 55 = .ok (.idiv, 1) := by decide +kernel
theorem dX6_rubsOf_56 : decode cX6_rubsOf 56 = .ok (.iload_n 2, 1) := by decide +kernel
theorem dX6_rubsOf_57 : decode cX6_rubsOf 57 = .ok (.iadd, 1) := by decide +kernel
theorem dX6_rubsOf_58 : decode cX6_rubsOf 58 = .ok (.invokestatic 65, 3) := by decide +kernel
theorem dX6_rubsOf_61 : decode cX6_rubsOf 61 = .ok (.ireturn, 1) := by decide +kernel
theorem dX6_rubsOf_62 : decode cX6_rubsOf 62 = .ok (.iconst 0, 1) := by decide +kernel
theorem dX6_rubsOf_63 : decode cX6_rubsOf 63 = .ok (.iload_n 3, 1) := by decide +kernel
theorem dX6_rubsOf_64 : decode cX6_rubsOf 64 = .ok (.iload_n 2, 1) := by decide +kernel
theorem dX6_rubsOf_65 : decode cX6_rubsOf 65 = .ok (.isub, 1) := by decide +kernel
theorem dX6_rubsOf_66 : decode cX6_rubsOf 66 = .ok (.invokestatic 71, 3) := by decide +kernel
theorem dX6_rubsOf_69 : decode cX6_rubsOf 69 = .ok (.ireturn, 1) := by decide +kernel
theorem dX6_placeOf_0 : decode cX6_placeOf 0 = .ok (.iload_n 1, 1) := by decide +kernel
theorem dX6_placeOf_1 : decode cX6_placeOf 1 = .ok (.ifCond .ge 12, 3) := by decide +kernel
theorem dX6_placeOf_4 : decode cX6_placeOf 4 = .ok (.aload_n 0, 1) := by decide +kernel
theorem dX6_placeOf_5 : decode cX6_placeOf 5 = .ok (.getfield 9, 3) := by decide +kernel
theorem dX6_placeOf_8 : decode cX6_placeOf 8 = .ok (.iconst 1, 1) := by decide +kernel
theorem dX6_placeOf_9 : decode cX6_placeOf 9 = .ok (.iaload, 1) := by decide +kernel
theorem dX6_placeOf_10 : decode cX6_placeOf 10 = .ok (.goto 9, 3) := by decide +kernel
theorem dX6_placeOf_13 : decode cX6_placeOf 13 = .ok (.aload_n 0, 1) := by decide +kernel
theorem dX6_placeOf_14 : decode cX6_placeOf 14 = .ok (.iload_n 1, 1) := by decide +kernel
theorem dX6_placeOf_15 : decode cX6_placeOf 15 = .ok (.iconst 5, 1) := by decide +kernel
theorem dX6_placeOf_16 : decode cX6_placeOf 16 = .ok (.invokevirtual 61, 3) := by decide +kernel
theorem dX6_placeOf_19 : decode cX6_placeOf 19 = .ok (.ireturn, 1) := by decide +kernel
theorem dX6_isLast_0 : decode cX6_isLast 0 = .ok (.iload_n 1, 1) := by decide +kernel
theorem dX6_isLast_1 : decode cX6_isLast 1 = .ok (.aload_n 0, 1) := by decide +kernel
theorem dX6_isLast_2 : decode cX6_isLast 2 = .ok (.getfield 9, 3) := by decide +kernel
theorem dX6_isLast_5 : decode cX6_isLast 5 = .ok (.iconst 0, 1) := by decide +kernel
theorem dX6_isLast_6 : decode cX6_isLast 6 = .ok (.iaload, 1) := by decide +kernel
theorem dX6_isLast_7 : decode cX6_isLast 7 = .ok (.iconst 1, 1) := by decide +kernel
theorem dX6_isLast_8 : decode cX6_isLast 8 = .ok (.isub, 1) := by decide +kernel
theorem dX6_isLast_9 : decode cX6_isLast 9 = .ok (.if_icmp .ne 7, 3) := by decide +kernel
theorem dX6_isLast_12 : decode cX6_isLast 12 = .ok (.iconst 1, 1) := by decide +kernel
theorem dX6_isLast_13 : decode cX6_isLast 13 = .ok (.goto 4, 3) := by decide +kernel
theorem dX6_isLast_16 : decode cX6_isLast 16 = .ok (.iconst 0, 1) := by decide +kernel
theorem dX6_isLast_17 : decode cX6_isLast 17 = .ok (.ireturn, 1) := by decide +kernel
theorem dX6_pull_0 : decode cX6_pull 0 = .ok (.aload_n 0, 1) := by decide +kernel
theorem dX6_pull_1 : decode cX6_pull 1 = .ok (.iload_n 1, 1) := by decide +kernel
theorem dX6_pull_2 : decode cX6_pull 2 = .ok (.iconst 3, 1) := by decide +kernel
theorem dX6_pull_3 : decode cX6_pull 3 = .ok (.invokevirtual 61, 3) := by decide +kernel
theorem dX6_pull_6 : decode cX6_pull 6 = .ok (.aload_n 0, 1) := by decide +kernel
theorem dX6_pull_7 : decode cX6_pull 7 = .ok (.iload_n 1, 1) := by decide +kernel
theorem dX6_pull_8 : decode cX6_pull 8 = .ok (.iconst 1, 1) := by decide +kernel
theorem dX6_pull_9 : decode cX6_pull 9 = .ok (.isub, 1) := by decide +kernel
theorem dX6_pull_10 : decode cX6_pull 10 = .ok (.invokevirtual 77, 3) := by decide +kernel
theorem dX6_pull_13 : decode cX6_pull 13 = .ok (.aload_n 0, 1) := by decide +kernel
theorem dX6_pull_14 : decode cX6_pull 14 = .ok (.iload_n 1, 1) := by decide +kernel
theorem dX6_pull_15 : decode cX6_pull 15 = .ok (.invokevirtual 77, 3) := by decide +kernel
theorem dX6_pull_18 : decode cX6_pull 18 = .ok (.isub, 1) := by decide +kernel
theorem dX6_pull_19 : decode cX6_pull 19 = .ok (.imul, 1) := by decide +kernel
theorem dX6_pull_20 : decode cX6_pull 20 = .ok (.istore_n 2, 1) := by decide +kernel
theorem dX6_pull_21 : decode cX6_pull 21 = .ok (.aload_n 0, 1) := by decide +kernel
theorem dX6_pull_22 : decode cX6_pull 22 = .ok (.iload_n 1, 1) := by decide +kernel
theorem dX6_pull_23 : decode cX6_pull 23 = .ok (.invokevirtual 81, 3) := by decide +kernel
theorem dX6_pull_26 : decode cX6_pull 26 = .ok (.ifCond .eq 7, 3) := by decide +kernel
theorem dX6_pull_29 : decode cX6_pull 29 = .ok (.iload_n 2, 1) := by decide +kernel
theorem dX6_pull_30 : decode cX6_pull 30 = .ok (.goto 27, 3) := by decide +kernel
theorem dX6_pull_33 : decode cX6_pull 33 = .ok (.iload_n 2, 1) := by decide +kernel
theorem dX6_pull_34 : decode cX6_pull 34 = .ok (.aload_n 0, 1) := by decide +kernel
theorem dX6_pull_35 : decode cX6_pull 35 = .ok (.iload_n 1, 1) := by decide +kernel
theorem dX6_pull_36 : decode cX6_pull 36 = .ok (.iconst 1, 1) := by decide +kernel
theorem dX6_pull_37 : decode cX6_pull 37 = .ok (.iadd, 1) := by decide +kernel
theorem dX6_pull_38 : decode cX6_pull 38 = .ok (.iconst 3, 1) := by decide +kernel
theorem dX6_pull_39 : decode cX6_pull 39 = .ok (.invokevirtual 61, 3) := by decide +kernel
theorem dX6_pull_42 : decode cX6_pull 42 = .ok (.aload_n 0, 1) := by decide +kernel
theorem dX6_pull_43 : decode cX6_pull 43 = .ok (.iload_n 1, 1) := by decide +kernel
theorem dX6_pull_44 : decode cX6_pull 44 = .ok (.invokevirtual 77, 3) := by decide +kernel
theorem dX6_pull_47 : decode cX6_pull 47 = .ok (.aload_n 0, 1) := by decide +kernel
theorem dX6_pull_48 : decode cX6_pull 48 = .ok (.iload_n 1, 1) := by decide +kernel
theorem dX6_pull_49 : decode cX6_pull 49 = .ok (.iconst 1, 1) := by decide +kernel
theorem dX6_pull_50 : decode cX6_pull 50 = .ok (.iadd, 1) := by decide +kernel
theorem dX6_pull_51 : decode cX6_pull 51 = .ok (.invokevirtual 77, 3) := by decide +kernel
theorem dX6_pull_54 : decode cX6_pull 54 = .ok (.isub, 1) := by decide +kernel
theorem dX6_pull_55 : decode cX6_pull 55 = .ok (.imul, 1) := by decide +kernel
theorem dX6_pull_56 : decode cX6_pull 56 = .ok (.isub, 1) := by decide +kernel
theorem dX6_pull_57 : decode cX6_pull 57 = .ok (.ireturn, 1) := by decide +kernel
theorem dX6_springs_0 : decode cX6_springs 0 = .ok (.iconst 1, 1) := by decide +kernel
theorem dX6_springs_1 : decode cX6_springs 1 = .ok (.aload_n 0, 1) := by decide +kernel
theorem dX6_springs_2 : decode cX6_springs 2 = .ok (.iload_n 1, 1) := by decide +kernel
theorem dX6_springs_3 : decode cX6_springs 3 = .ok (.iconst 3, 1) := by decide +kernel
theorem dX6_springs_4 : decode cX6_springs 4 = .ok (.invokevirtual 61, 3) := by decide +kernel
theorem dX6_springs_7 : decode cX6_springs 7 = .ok (.aload_n 0, 1) := by decide +kernel
theorem dX6_springs_8 : decode cX6_springs 8 = .ok (.iload_n 1, 1) := by decide +kernel
theorem dX6_springs_9 : decode cX6_springs 9 = .ok (.invokevirtual 81, 3) := by decide +kernel
theorem dX6_springs_12 : decode cX6_springs 12 = .ok (.ifCond .eq 7, 3) := by decide +kernel
theorem dX6_springs_15 : decode cX6_springs 15 = .ok (.iconst 0, 1) := by decide +kernel
theorem dX6_springs_16 : decode cX6_springs 16 = .ok (.goto 11, 3) := by decide +kernel
theorem dX6_springs_19 : decode cX6_springs 19 = .ok (.aload_n 0, 1) := by decide +kernel
theorem dX6_springs_20 : decode cX6_springs 20 = .ok (.iload_n 1, 1) := by decide +kernel
theorem dX6_springs_21 : decode cX6_springs 21 = .ok (.iconst 1, 1) := by decide +kernel
theorem dX6_springs_22 : decode cX6_springs 22 = .ok (.iadd, 1) := by decide +kernel
theorem dX6_springs_23 : decode cX6_springs 23 = .ok (.iconst 3, 1) := by decide +kernel
theorem dX6_springs_24 : decode cX6_springs 24 = .ok (.invokevirtual 61, 3) := by decide +kernel
theorem dX6_springs_27 : decode cX6_springs 27 = .ok (.iadd, 1) := by decide +kernel
theorem dX6_springs_28 : decode cX6_springs 28 = .ok (.invokestatic 71, 3) := by decide +kernel
theorem dX6_springs_31 : decode cX6_springs 31 = .ok (.ireturn, 1) := by decide +kernel
theorem dX6_block_0 : decode cX6_block 0 = .ok (.iload_n 1, 1) := by decide +kernel
theorem dX6_block_1 : decode cX6_block 1 = .ok (.iconst 0, 1) := by decide +kernel
theorem dX6_block_2 : decode cX6_block 2 = .ok (.iconst 5, 1) := by decide +kernel
theorem dX6_block_3 : decode cX6_block 3 = .ok (.invokestatic 57, 3) := by decide +kernel
theorem dX6_block_6 : decode cX6_block 6 = .ok (.ifCond .eq 36, 3) := by decide +kernel
theorem dX6_block_9 : decode cX6_block 9 = .ok (.iload_n 2, 1) := by decide +kernel
theorem dX6_block_10 : decode cX6_block 10 = .ok (.iconst 1, 1) := by decide +kernel
theorem dX6_block_11 : decode cX6_block 11 = .ok (.sipush 999, 3) := by decide +kernel
theorem dX6_block_14 : decode cX6_block 14 = .ok (.invokestatic 57, 3) := by decide +kernel
theorem dX6_block_17 : decode cX6_block 17 = .ok (.ifCond .eq 25, 3) := by decide +kernel
theorem dX6_block_20 : decode cX6_block 20 = .ok (.iload_n 3, 1) := by decide +kernel
theorem dX6_block_21 : decode cX6_block 21 = .ok (.iconst 0, 1) := by decide +kernel
theorem dX6_block_22 : decode cX6_block 22 = .ok (.sipush 999, 3) := by decide +kernel
theorem dX6_block_25 : decode cX6_block 25 = .ok (.invokestatic 57, 3) := by decide +kernel
theorem dX6_block_28 : decode cX6_block 28 = .ok (.ifCond .eq 14, 3) := by decide +kernel
theorem dX6_block_31 : decode cX6_block 31 = .ok (.iload 4, 2) := by decide +kernel
theorem dX6_block_33 : decode cX6_block 33 = .ok (.iconst 0, 1) := by decide +kernel
theorem dX6_block_34 : decode cX6_block 34 = .ok (.bipush 99, 2) := by decide +kernel
theorem dX6_block_36 : decode cX6_block 36 = .ok (.invokestatic 57, 3) := by decide +kernel
theorem dX6_block_39 : decode cX6_block 39 = .ok (.ifCond .ne 9, 3) := by decide +kernel
theorem dX6_block_42 : decode cX6_block 42 = .ok (.aload_n 0, 1) := by decide +kernel
theorem dX6_block_43 : decode cX6_block 43 = .ok (.iconst 0, 1) := by decide +kernel
theorem dX6_block_44 : decode cX6_block 44 = .ok (.invokevirtual 85, 3) := by decide +kernel
theorem dX6_block_47 : decode cX6_block 47 = .ok (.ireturn, 1) := by decide +kernel
theorem dX6_block_48 : decode cX6_block 48 = .ok (.aload_n 0, 1) := by decide +kernel
theorem dX6_block_49 : decode cX6_block 49 = .ok (.getfield 9, 3) := by decide +kernel
theorem dX6_block_52 : decode cX6_block 52 = .ok (.iconst 0, 1) := by decide +kernel
theorem dX6_block_53 : decode cX6_block 53 = .ok (.iaload, 1) := by decide +kernel
theorem dX6_block_54 : decode cX6_block 54 = .ok (.istore 5, 2) := by decide +kernel
theorem dX6_block_56 : decode cX6_block 56 = .ok (.iload 5, 2) := by decide +kernel
theorem dX6_block_58 : decode cX6_block 58 = .ok (.bipush 10, 2) := by decide +kernel
theorem dX6_block_60 : decode cX6_block 60 = .ok (.if_icmp .ne 9, 3) := by decide +kernel
theorem dX6_block_63 : decode cX6_block 63 = .ok (.aload_n 0, 1) := by decide +kernel
theorem dX6_block_64 : decode cX6_block 64 = .ok (.iconst 1, 1) := by decide +kernel
theorem dX6_block_65 : decode cX6_block 65 = .ok (.invokevirtual 85, 3) := by decide +kernel
theorem dX6_block_68 : decode cX6_block 68 = .ok (.ireturn, 1) := by decide +kernel
theorem dX6_block_69 : decode cX6_block 69 = .ok (.aload_n 0, 1) := by decide +kernel
theorem dX6_block_70 : decode cX6_block 70 = .ok (.getfield 9, 3) := by decide +kernel
theorem dX6_block_73 : decode cX6_block 73 = .ok (.iconst 0, 1) := by decide +kernel
theorem dX6_block_74 : decode cX6_block 74 = .ok (.dup2, 1) := by decide +kernel
theorem dX6_block_75 : decode cX6_block 75 = .ok (.iaload, 1) := by decide +kernel
theorem dX6_block_76 : decode cX6_block 76 = .ok (.iconst 1, 1) := by decide +kernel
theorem dX6_block_77 : decode cX6_block 77 = .ok (.iadd, 1) := by decide +kernel
theorem dX6_block_78 : decode cX6_block 78 = .ok (.iastore, 1) := by decide +kernel
theorem dX6_block_79 : decode cX6_block 79 = .ok (.aload_n 0, 1) := by decide +kernel
theorem dX6_block_80 : decode cX6_block 80 = .ok (.iload 5, 2) := by decide +kernel
theorem dX6_block_82 : decode cX6_block 82 = .ok (.iconst 0, 1) := by decide +kernel
theorem dX6_block_83 : decode cX6_block 83 = .ok (.iload_n 1, 1) := by decide +kernel
theorem dX6_block_84 : decode cX6_block 84 = .ok (.invokevirtual 88, 3) := by decide +kernel
theorem dX6_block_87 : decode cX6_block 87 = .ok (.pop, 1) := by decide +kernel
theorem dX6_block_88 : decode cX6_block 88 = .ok (.aload_n 0, 1) := by decide +kernel
theorem dX6_block_89 : decode cX6_block 89 = .ok (.iload 5, 2) := by decide +kernel
theorem dX6_block_91 : decode cX6_block 91 = .ok (.iconst 1, 1) := by decide +kernel
theorem dX6_block_92 : decode cX6_block 92 = .ok (.iload_n 2, 1) := by decide +kernel
theorem dX6_block_93 : decode cX6_block 93 = .ok (.invokevirtual 88, 3) := by decide +kernel
theorem dX6_block_96 : decode cX6_block 96 = .ok (.pop, 1) := by decide +kernel
theorem dX6_block_97 : decode cX6_block 97 = .ok (.aload_n 0, 1) := by decide +kernel
theorem dX6_block_98 : decode cX6_block 98 = .ok (.iload 5, 2) := by decide +kernel
theorem dX6_block_100 : decode cX6_block 100 = .ok (.iconst 2, 1) := by decide +kernel
theorem dX6_block_101 : decode cX6_block 101 = .ok (.iload_n 3, 1) := by decide +kernel
theorem dX6_block_102 : decode cX6_block 102 = .ok (.invokevirtual 88, 3) := by decide +kernel
theorem dX6_block_105 : decode cX6_block 105 = .ok (.pop, 1) := by decide +kernel
theorem dX6_block_106 : decode cX6_block 106 = .ok (.aload_n 0, 1) := by decide +kernel
theorem dX6_block_107 : decode cX6_block 107 = .ok (.iload 5, 2) := by decide +kernel
theorem dX6_block_109 : decode cX6_block 109 = .ok (.iconst 3, 1) := by decide +kernel
theorem dX6_block_110 : decode cX6_block 110 = .ok (.iload 4, 2) := by decide +kernel
theorem dX6_block_112 : decode cX6_block 112 = .ok (.invokevirtual 88, 3) := by decide +kernel
theorem dX6_block_115 : decode cX6_block 115 = .ok (.pop, 1) := by decide +kernel
theorem dX6_block_116 : decode cX6_block 116 = .ok (.aload_n 0, 1) := by decide +kernel
theorem dX6_block_117 : decode cX6_block 117 = .ok (.iload 5, 2) := by decide +kernel
theorem dX6_block_119 : decode cX6_block 119 = .ok (.iconst 4, 1) := by decide +kernel
theorem dX6_block_120 : decode cX6_block 120 = .ok (.iconst 0, 1) := by decide +kernel
theorem dX6_block_121 : decode cX6_block 121 = .ok (.invokevirtual 88, 3) := by decide +kernel
theorem dX6_block_124 : decode cX6_block 124 = .ok (.pop, 1) := by decide +kernel
theorem dX6_block_125 : decode cX6_block 125 = .ok (.aload_n 0, 1) := by decide +kernel
theorem dX6_block_126 : decode cX6_block 126 = .ok (.iload 5, 2) := by decide +kernel
theorem dX6_block_128 : decode cX6_block 128 = .ok (.iconst 5, 1) := by decide +kernel
theorem dX6_block_129 : decode cX6_block 129 = .ok (.iconst 0, 1) := by decide +kernel
theorem dX6_block_130 : decode cX6_block 130 = .ok (.invokevirtual 88, 3) := by decide +kernel
theorem dX6_block_133 : decode cX6_block 133 = .ok (.pop, 1) := by decide +kernel
theorem dX6_block_134 : decode cX6_block 134 = .ok (.aload_n 0, 1) := by decide +kernel
theorem dX6_block_135 : decode cX6_block 135 = .ok (.iload 5, 2) := by decide +kernel
theorem dX6_block_137 : decode cX6_block 137 = .ok (.bipush 6, 2) := by decide +kernel
theorem dX6_block_139 : decode cX6_block 139 = .ok (.iconst 0, 1) := by decide +kernel
theorem dX6_block_140 : decode cX6_block 140 = .ok (.invokevirtual 88, 3) := by decide +kernel
theorem dX6_block_143 : decode cX6_block 143 = .ok (.pop, 1) := by decide +kernel
theorem dX6_block_144 : decode cX6_block 144 = .ok (.iload 5, 2) := by decide +kernel
theorem dX6_block_146 : decode cX6_block 146 = .ok (.ireturn, 1) := by decide +kernel
theorem dX6_of_0 : decode cX6_of 0 = .ok (.aload_n 0, 1) := by decide +kernel
theorem dX6_of_1 : decode cX6_of 1 = .ok (.iload_n 1, 1) := by decide +kernel
theorem dX6_of_2 : decode cX6_of 2 = .ok (.invokevirtual 92, 3) := by decide +kernel
theorem dX6_of_5 : decode cX6_of 5 = .ok (.ifCond .eq 13, 3) := by decide +kernel
theorem dX6_of_8 : decode cX6_of 8 = .ok (.iload_n 2, 1) := by decide +kernel
theorem dX6_of_9 : decode cX6_of 9 = .ok (.iconst 0, 1) := by decide +kernel
theorem dX6_of_10 : decode cX6_of 10 = .ok (.bipush 8, 2) := by decide +kernel
theorem dX6_of_12 : decode cX6_of 12 = .ok (.invokestatic 57, 3) := by decide +kernel
theorem dX6_of_15 : decode cX6_of 15 = .ok (.ifCond .ne 9, 3) := by decide +kernel
theorem dX6_of_18 : decode cX6_of 18 = .ok (.aload_n 0, 1) := by decide +kernel
theorem dX6_of_19 : decode cX6_of 19 = .ok (.iconst 0, 1) := by decide +kernel
theorem dX6_of_20 : decode cX6_of 20 = .ok (.invokevirtual 85, 3) := by decide +kernel
theorem dX6_of_23 : decode cX6_of 23 = .ok (.ireturn, 1) := by decide +kernel
theorem dX6_of_24 : decode cX6_of 24 = .ok (.iload_n 2, 1) := by decide +kernel
theorem dX6_of_25 : decode cX6_of 25 = .ok (.bipush 7, 2) := by decide +kernel
theorem dX6_of_27 : decode cX6_of 27 = .ok (.if_icmp .ne 11, 3) := by decide +kernel
theorem dX6_of_30 : decode cX6_of 30 = .ok (.aload_n 0, 1) := by decide +kernel
theorem dX6_of_31 : decode cX6_of 31 = .ok (.iload_n 1, 1) := by decide +kernel
theorem dX6_of_32 : decode cX6_of 32 = .ok (.invokevirtual 95, 3) := by decide +kernel
theorem dX6_of_35 : decode cX6_of 35 = .ok (.goto 30, 3) := by decide +kernel
theorem dX6_of_38 : decode cX6_of 38 = .ok (.iload_n 2, 1) := by decide +kernel
theorem dX6_of_39 : decode cX6_of 39 = .ok (.bipush 8, 2) := by decide +kernel
theorem dX6_of_41 : decode cX6_of 41 = .ok (.if_icmp .ne 18, 3) := by decide +kernel
theorem dX6_of_44 : decode cX6_of 44 = .ok (.aload_n 0, 1) := by decide +kernel
theorem dX6_of_45 : decode cX6_of 45 = .ok (.iload_n 1, 1) := by decide +kernel
theorem dX6_of_46 : decode cX6_of 46 = .ok (.aload_n 0, 1) := by decide +kernel
theorem dX6_of_47 : decode cX6_of 47 = .ok (.iload_n 1, 1) := by decide +kernel
theorem dX6_of_48 : decode cX6_of 48 = .ok (.bipush 6, 2) := by decide +kernel
theorem dX6_of_50 : decode cX6_of 50 = .ok (.invokevirtual 61, 3) := by decide +kernel
theorem dX6_of_53 : decode cX6_of 53 = .ok (.invokevirtual 98, 3) := by decide +kernel
theorem dX6_of_56 : decode cX6_of 56 = .ok (.goto 9, 3) := by decide +kernel
theorem dX6_of_59 : decode cX6_of 59 = .ok (.aload_n 0, 1) := by decide +kernel
theorem dX6_of_60 : decode cX6_of 60 = .ok (.iload_n 1, 1) := by decide +kernel
theorem dX6_of_61 : decode cX6_of 61 = .ok (.iload_n 2, 1) := by decide +kernel
theorem dX6_of_62 : decode cX6_of 62 = .ok (.invokevirtual 61, 3) := by decide +kernel
theorem dX6_of_65 : decode cX6_of 65 = .ok (.ireturn, 1) := by decide +kernel
theorem dX6_set_0 : decode cX6_set 0 = .ok (.aload_n 0, 1) := by decide +kernel
theorem dX6_set_1 : decode cX6_set 1 = .ok (.iload_n 1, 1) := by decide +kernel
theorem dX6_set_2 : decode cX6_set 2 = .ok (.invokevirtual 92, 3) := by decide +kernel
theorem dX6_set_5 : decode cX6_set 5 = .ok (.ifCond .eq 42, 3) := by decide +kernel
theorem dX6_set_8 : decode cX6_set 8 = .ok (.iload_n 2, 1) := by decide +kernel
theorem dX6_set_9 : decode cX6_set 9 = .ok (.iconst 1, 1) := by decide +kernel
theorem dX6_set_10 : decode cX6_set 10 = .ok (.iconst 4, 1) := by decide +kernel
theorem dX6_set_11 : decode cX6_set 11 = .ok (.invokestatic 57, 3) := by decide +kernel
theorem dX6_set_14 : decode cX6_set 14 = .ok (.ifCond .eq 33, 3) := by decide +kernel
theorem dX6_set_17 : decode cX6_set 17 = .ok (.iload_n 3, 1) := by decide +kernel
theorem dX6_set_18 : decode cX6_set 18 = .ok (.iload_n 2, 1) := by decide +kernel
theorem dX6_set_19 : decode cX6_set 19 = .ok (.iconst 1, 1) := by decide +kernel
theorem dX6_set_20 : decode cX6_set 20 = .ok (.if_icmp .ne 7, 3) := by decide +kernel
theorem dX6_set_23 : decode cX6_set 23 = .ok (.iconst 1, 1) := by decide +kernel
theorem dX6_set_24 : decode cX6_set 24 = .ok (.goto 4, 3) := by decide +kernel
theorem dX6_set_27 : decode cX6_set 27 = .ok (.iconst 0, 1) := by decide +kernel
theorem dX6_set_28 : decode cX6_set 28 = .ok (.iload_n 2, 1) := by decide +kernel
theorem dX6_set_29 : decode cX6_set 29 = .ok (.iconst 3, 1) := by decide +kernel
theorem dX6_set_30 : decode cX6_set 30 = .ok (.if_icmp .ge 9, 3) := by decide +kernel
theorem dX6_set_33 : decode cX6_set 33 = .ok (.sipush 999, 3) := by decide +kernel
theorem dX6_set_36 : decode cX6_set 36 = .ok (.goto 5, 3) := by decide +kernel
theorem dX6_set_39 : decode cX6_set 39 = .ok (.bipush 99, 2) := by decide +kernel
theorem dX6_set_41 : decode cX6_set 41 = .ok (.invokestatic 57, 3) := by decide +kernel
theorem dX6_set_44 : decode cX6_set 44 = .ok (.ifCond .ne 9, 3) := by decide +kernel
theorem dX6_set_47 : decode cX6_set 47 = .ok (.aload_n 0, 1) := by decide +kernel
theorem dX6_set_48 : decode cX6_set 48 = .ok (.iconst 0, 1) := by decide +kernel
theorem dX6_set_49 : decode cX6_set 49 = .ok (.invokevirtual 85, 3) := by decide +kernel
theorem dX6_set_52 : decode cX6_set 52 = .ok (.ireturn, 1) := by decide +kernel
theorem dX6_set_53 : decode cX6_set 53 = .ok (.aload_n 0, 1) := by decide +kernel
theorem dX6_set_54 : decode cX6_set 54 = .ok (.iload_n 1, 1) := by decide +kernel
theorem dX6_set_55 : decode cX6_set 55 = .ok (.iload_n 2, 1) := by decide +kernel
theorem dX6_set_56 : decode cX6_set 56 = .ok (.iload_n 3, 1) := by decide +kernel
theorem dX6_set_57 : decode cX6_set 57 = .ok (.invokevirtual 88, 3) := by decide +kernel
theorem dX6_set_60 : decode cX6_set 60 = .ok (.ireturn, 1) := by decide +kernel
theorem dX6_isUnder_0 : decode cX6_isUnder 0 = .ok (.iload_n 1, 1) := by decide +kernel
theorem dX6_isUnder_1 : decode cX6_isUnder 1 = .ok (.ifCond .eq 28, 3) := by decide +kernel
theorem dX6_isUnder_4 : decode cX6_isUnder 4 = .ok (.iload_n 0, 1) := by decide +kernel
theorem dX6_isUnder_5 : decode cX6_isUnder 5 = .ok (.iload_n 1, 1) := by decide +kernel
theorem dX6_isUnder_6 : decode cX6_isUnder 6 = .ok (.if_icmp .eq 23, 3) := by decide +kernel
theorem dX6_isUnder_9 : decode cX6_isUnder 9 = .ok (.iload_n 1, 1) := by decide +kernel
theorem dX6_isUnder_10 : decode cX6_isUnder 10 = .ok (.iconst 1, 1) := by decide +kernel
theorem dX6_isUnder_11 : decode cX6_isUnder 11 = .ok (.if_icmp .ne 8, 3) := by decide +kernel
theorem dX6_isUnder_14 : decode cX6_isUnder 14 = .ok (.iload_n 0, 1) := by decide +kernel
theorem dX6_isUnder_15 : decode cX6_isUnder 15 = .ok (.iconst 4, 1) := by decide +kernel
theorem dX6_isUnder_16 : decode cX6_isUnder 16 = .ok (.if_icmp .eq 13, 3) := by decide +kernel
theorem dX6_isUnder_19 : decode cX6_isUnder 19 = .ok (.iload_n 1, 1) := by decide +kernel
theorem dX6_isUnder_20 : decode cX6_isUnder 20 = .ok (.iconst 2, 1) := by decide +kernel
theorem dX6_isUnder_21 : decode cX6_isUnder 21 = .ok (.if_icmp .ne 12, 3) := by decide +kernel
theorem dX6_isUnder_24 : decode cX6_isUnder 24 = .ok (.iload_n 0, 1) := by decide +kernel
theorem dX6_isUnder_25 : decode cX6_isUnder 25 = .ok (.iconst 5, 1) := by decide +kernel
theorem dX6_isUnder_26 : decode cX6_isUnder 26 = .ok (.if_icmp .ne 7, 3) := by decide +kernel
theorem dX6_isUnder_29 : decode cX6_isUnder 29 = .ok (.iconst 1, 1) := by decide +kernel
theorem dX6_isUnder_30 : decode cX6_isUnder 30 = .ok (.goto 4, 3) := by decide +kernel
theorem dX6_isUnder_33 : decode cX6_isUnder 33 = .ok (.iconst 0, 1) := by decide +kernel
theorem dX6_isUnder_34 : decode cX6_isUnder 34 = .ok (.ireturn, 1) := by decide +kernel
theorem dX6_as_0 : decode cX6_as 0 = .ok (.aload_n 0, 1) := by decide +kernel
theorem dX6_as_1 : decode cX6_as 1 = .ok (.iload_n 1, 1) := by decide +kernel
theorem dX6_as_2 : decode cX6_as 2 = .ok (.invokevirtual 92, 3) := by decide +kernel
theorem dX6_as_5 : decode cX6_as 5 = .ok (.ifCond .eq 12, 3) := by decide +kernel
theorem dX6_as_8 : decode cX6_as 8 = .ok (.iload_n 2, 1) := by decide +kernel
theorem dX6_as_9 : decode cX6_as 9 = .ok (.iconst 0, 1) := by decide +kernel
theorem dX6_as_10 : decode cX6_as 10 = .ok (.iconst 5, 1) := by decide +kernel
theorem dX6_as_11 : decode cX6_as 11 = .ok (.invokestatic 57, 3) := by decide +kernel
theorem dX6_as_14 : decode cX6_as 14 = .ok (.ifCond .ne 9, 3) := by decide +kernel
theorem dX6_as_17 : decode cX6_as 17 = .ok (.aload_n 0, 1) := by decide +kernel
theorem dX6_as_18 : decode cX6_as 18 = .ok (.iconst 0, 1) := by decide +kernel
theorem dX6_as_19 : decode cX6_as 19 = .ok (.invokevirtual 85, 3) := by decide +kernel
theorem dX6_as_22 : decode cX6_as 22 = .ok (.ireturn, 1) := by decide +kernel
theorem dX6_as_23 : decode cX6_as 23 = .ok (.aload_n 0, 1) := by decide +kernel
theorem dX6_as_24 : decode cX6_as 24 = .ok (.iload_n 1, 1) := by decide +kernel
theorem dX6_as_25 : decode cX6_as 25 = .ok (.iconst 0, 1) := by decide +kernel
theorem dX6_as_26 : decode cX6_as 26 = .ok (.invokevirtual 61, 3) := by decide +kernel
theorem dX6_as_29 : decode cX6_as 29 = .ok (.iload_n 2, 1) := by decide +kernel
theorem dX6_as_30 : decode cX6_as 30 = .ok (.invokestatic 101, 3) := by decide +kernel
theorem dX6_as_33 : decode cX6_as 33 = .ok (.ifCond .eq 18, 3) := by decide +kernel
theorem dX6_as_36 : decode cX6_as 36 = .ok (.aload_n 0, 1) := by decide +kernel
theorem dX6_as_37 : decode cX6_as 37 = .ok (.iload_n 1, 1) := by decide +kernel
theorem dX6_as_38 : decode cX6_as 38 = .ok (.aload_n 0, 1) := by decide +kernel
theorem dX6_as_39 : decode cX6_as 39 = .ok (.iload_n 1, 1) := by decide +kernel
theorem dX6_as_40 : decode cX6_as 40 = .ok (.bipush 6, 2) := by decide +kernel
theorem dX6_as_42 : decode cX6_as 42 = .ok (.invokevirtual 61, 3) := by decide +kernel
theorem dX6_as_45 : decode cX6_as 45 = .ok (.invokevirtual 98, 3) := by decide +kernel
theorem dX6_as_48 : decode cX6_as 48 = .ok (.goto 8, 3) := by decide +kernel
theorem dX6_as_51 : decode cX6_as 51 = .ok (.aload_n 0, 1) := by decide +kernel
theorem dX6_as_52 : decode cX6_as 52 = .ok (.iconst 2, 1) := by decide +kernel
theorem dX6_as_53 : decode cX6_as 53 = .ok (.invokevirtual 85, 3) := by decide +kernel
theorem dX6_as_56 : decode cX6_as 56 = .ok (.ireturn, 1) := by decide +kernel
theorem dX6_holds_0 : decode cX6_holds 0 = .ok (.aload_n 0, 1) := by decide +kernel
theorem dX6_holds_1 : decode cX6_holds 1 = .ok (.iload_n 1, 1) := by decide +kernel
theorem dX6_holds_2 : decode cX6_holds 2 = .ok (.invokevirtual 92, 3) := by decide +kernel
theorem dX6_holds_5 : decode cX6_holds 5 = .ok (.ifCond .eq 23, 3) := by decide +kernel
theorem dX6_holds_8 : decode cX6_holds 8 = .ok (.iload_n 2, 1) := by decide +kernel
theorem dX6_holds_9 : decode cX6_holds 9 = .ok (.iconst 0, 1) := by decide +kernel
theorem dX6_holds_10 : decode cX6_holds 10 = .ok (.sipush 999, 3) := by decide +kernel
theorem dX6_holds_13 : decode cX6_holds 13 = .ok (.invokestatic 57, 3) := by decide +kernel
theorem dX6_holds_16 : decode cX6_holds 16 = .ok (.ifCond .eq 12, 3) := by decide +kernel
theorem dX6_holds_19 : decode cX6_holds 19 = .ok (.aload_n 0, 1) := by decide +kernel
theorem dX6_holds_20 : decode cX6_holds 20 = .ok (.iload_n 1, 1) := by decide +kernel
theorem dX6_holds_21 : decode cX6_holds 21 = .ok (.iload_n 2, 1) := by decide +kernel
theorem dX6_holds_22 : decode cX6_holds 22 = .ok (.invokevirtual 98, 3) := by decide +kernel
theorem dX6_holds_25 : decode cX6_holds 25 = .ok (.goto 8, 3) := by decide +kernel
theorem dX6_holds_28 : decode cX6_holds 28 = .ok (.aload_n 0, 1) := by decide +kernel
theorem dX6_holds_29 : decode cX6_holds 29 = .ok (.iconst 0, 1) := by decide +kernel
theorem dX6_holds_30 : decode cX6_holds 30 = .ok (.invokevirtual 85, 3) := by decide +kernel
theorem dX6_holds_33 : decode cX6_holds 33 = .ok (.ireturn, 1) := by decide +kernel
theorem dX6_rubs_0 : decode cX6_rubs 0 = .ok (.aload_n 0, 1) := by decide +kernel
theorem dX6_rubs_1 : decode cX6_rubs 1 = .ok (.iload_n 1, 1) := by decide +kernel
theorem dX6_rubs_2 : decode cX6_rubs 2 = .ok (.invokevirtual 92, 3) := by decide +kernel
theorem dX6_rubs_5 : decode cX6_rubs 5 = .ok (.ifCond .eq 23, 3) := by decide +kernel
theorem dX6_rubs_8 : decode cX6_rubs 8 = .ok (.iload_n 2, 1) := by decide +kernel
theorem dX6_rubs_9 : decode cX6_rubs 9 = .ok (.iconst 0, 1) := by decide +kernel
theorem dX6_rubs_10 : decode cX6_rubs 10 = .ok (.sipush 999, 3) := by decide +kernel
theorem dX6_rubs_13 : decode cX6_rubs 13 = .ok (.invokestatic 57, 3) := by decide +kernel
theorem dX6_rubs_16 : decode cX6_rubs 16 = .ok (.ifCond .eq 12, 3) := by decide +kernel
theorem dX6_rubs_19 : decode cX6_rubs 19 = .ok (.aload_n 0, 1) := by decide +kernel
theorem dX6_rubs_20 : decode cX6_rubs 20 = .ok (.iload_n 1, 1) := by decide +kernel
theorem dX6_rubs_21 : decode cX6_rubs 21 = .ok (.iload_n 2, 1) := by decide +kernel
theorem dX6_rubs_22 : decode cX6_rubs 22 = .ok (.invokevirtual 105, 3) := by decide +kernel
theorem dX6_rubs_25 : decode cX6_rubs 25 = .ok (.goto 8, 3) := by decide +kernel
theorem dX6_rubs_28 : decode cX6_rubs 28 = .ok (.aload_n 0, 1) := by decide +kernel
theorem dX6_rubs_29 : decode cX6_rubs 29 = .ok (.iconst 0, 1) := by decide +kernel
theorem dX6_rubs_30 : decode cX6_rubs 30 = .ok (.invokevirtual 85, 3) := by decide +kernel
theorem dX6_rubs_33 : decode cX6_rubs 33 = .ok (.ireturn, 1) := by decide +kernel
theorem dX6_push_0 : decode cX6_push 0 = .ok (.aload_n 0, 1) := by decide +kernel
theorem dX6_push_1 : decode cX6_push 1 = .ok (.iload_n 1, 1) := by decide +kernel
theorem dX6_push_2 : decode cX6_push 2 = .ok (.invokevirtual 92, 3) := by decide +kernel
theorem dX6_push_5 : decode cX6_push 5 = .ok (.ifCond .eq 16, 3) := by decide +kernel
theorem dX6_push_8 : decode cX6_push 8 = .ok (.iload_n 2, 1) := by decide +kernel
theorem dX6_push_9 : decode cX6_push 9 = .ok (.sipush (-9999), 3) := by decide +kernel
theorem dX6_push_12 : decode cX6_push 12 = .ok (.sipush 9999, 3) := by decide +kernel
theorem dX6_push_15 : decode cX6_push 15 = .ok (.invokestatic 57, 3) := by decide +kernel
theorem dX6_push_18 : decode cX6_push 18 = .ok (.ifCond .ne 9, 3) := by decide +kernel
theorem dX6_push_21 : decode cX6_push 21 = .ok (.aload_n 0, 1) := by decide +kernel
theorem dX6_push_22 : decode cX6_push 22 = .ok (.iconst 0, 1) := by decide +kernel
theorem dX6_push_23 : decode cX6_push 23 = .ok (.invokevirtual 85, 3) := by decide +kernel
theorem dX6_push_26 : decode cX6_push 26 = .ok (.ireturn, 1) := by decide +kernel
theorem dX6_push_27 : decode cX6_push 27 = .ok (.aload_n 0, 1) := by decide +kernel
theorem dX6_push_28 : decode cX6_push 28 = .ok (.iload_n 1, 1) := by decide +kernel
theorem dX6_push_29 : decode cX6_push 29 = .ok (.iconst 5, 1) := by decide +kernel
theorem dX6_push_30 : decode cX6_push 30 = .ok (.aload_n 0, 1) := by decide +kernel
theorem dX6_push_31 : decode cX6_push 31 = .ok (.iload_n 1, 1) := by decide +kernel
theorem dX6_push_32 : decode cX6_push 32 = .ok (.iconst 5, 1) := by decide +kernel
theorem dX6_push_33 : decode cX6_push 33 = .ok (.invokevirtual 61, 3) := by decide +kernel
theorem dX6_push_36 : decode cX6_push 36 = .ok (.iload_n 2, 1) := by decide +kernel
theorem dX6_push_37 : decode cX6_push 37 = .ok (.iadd, 1) := by decide +kernel
theorem dX6_push_38 : decode cX6_push 38 = .ok (.invokevirtual 88, 3) := by decide +kernel
theorem dX6_push_41 : decode cX6_push 41 = .ok (.pop, 1) := by decide +kernel
theorem dX6_push_42 : decode cX6_push 42 = .ok (.aload_n 0, 1) := by decide +kernel
theorem dX6_push_43 : decode cX6_push 43 = .ok (.iload_n 1, 1) := by decide +kernel
theorem dX6_push_44 : decode cX6_push 44 = .ok (.bipush 6, 2) := by decide +kernel
theorem dX6_push_46 : decode cX6_push 46 = .ok (.iconst 0, 1) := by decide +kernel
theorem dX6_push_47 : decode cX6_push 47 = .ok (.invokevirtual 88, 3) := by decide +kernel
theorem dX6_push_50 : decode cX6_push 50 = .ok (.pop, 1) := by decide +kernel
theorem dX6_push_51 : decode cX6_push 51 = .ok (.aload_n 0, 1) := by decide +kernel
theorem dX6_push_52 : decode cX6_push 52 = .ok (.iload_n 1, 1) := by decide +kernel
theorem dX6_push_53 : decode cX6_push 53 = .ok (.iconst 5, 1) := by decide +kernel
theorem dX6_push_54 : decode cX6_push 54 = .ok (.invokevirtual 61, 3) := by decide +kernel
theorem dX6_push_57 : decode cX6_push 57 = .ok (.ireturn, 1) := by decide +kernel
theorem dX6_oil_0 : decode cX6_oil 0 = .ok (.aload_n 0, 1) := by decide +kernel
theorem dX6_oil_1 : decode cX6_oil 1 = .ok (.iload_n 1, 1) := by decide +kernel
theorem dX6_oil_2 : decode cX6_oil 2 = .ok (.invokevirtual 92, 3) := by decide +kernel
theorem dX6_oil_5 : decode cX6_oil 5 = .ok (.ifCond .eq 13, 3) := by decide +kernel
theorem dX6_oil_8 : decode cX6_oil 8 = .ok (.iload_n 2, 1) := by decide +kernel
theorem dX6_oil_9 : decode cX6_oil 9 = .ok (.iconst 1, 1) := by decide +kernel
theorem dX6_oil_10 : decode cX6_oil 10 = .ok (.bipush 99, 2) := by decide +kernel
theorem dX6_oil_12 : decode cX6_oil 12 = .ok (.invokestatic 57, 3) := by decide +kernel
theorem dX6_oil_15 : decode cX6_oil 15 = .ok (.ifCond .ne 9, 3) := by decide +kernel
theorem dX6_oil_18 : decode cX6_oil 18 = .ok (.aload_n 0, 1) := by decide +kernel
theorem dX6_oil_19 : decode cX6_oil 19 = .ok (.iconst 0, 1) := by decide +kernel
theorem dX6_oil_20 : decode cX6_oil 20 = .ok (.invokevirtual 85, 3) := by decide +kernel
theorem dX6_oil_23 : decode cX6_oil 23 = .ok (.ireturn, 1) := by decide +kernel
theorem dX6_oil_24 : decode cX6_oil 24 = .ok (.aload_n 0, 1) := by decide +kernel
theorem dX6_oil_25 : decode cX6_oil 25 = .ok (.iload_n 1, 1) := by decide +kernel
theorem dX6_oil_26 : decode cX6_oil 26 = .ok (.iconst 4, 1) := by decide +kernel
theorem dX6_oil_27 : decode cX6_oil 27 = .ok (.bipush 99, 2) := by decide +kernel
theorem dX6_oil_29 : decode cX6_oil 29 = .ok (.aload_n 0, 1) := by decide +kernel
theorem dX6_oil_30 : decode cX6_oil 30 = .ok (.iload_n 1, 1) := by decide +kernel
theorem dX6_oil_31 : decode cX6_oil 31 = .ok (.iconst 4, 1) := by decide +kernel
theorem dX6_oil_32 : decode cX6_oil 32 = .ok (.invokevirtual 61, 3) := by decide +kernel
theorem dX6_oil_35 : decode cX6_oil 35 = .ok (.iload_n 2, 1) := by decide +kernel
theorem dX6_oil_36 : decode cX6_oil 36 = .ok (.iadd, 1) := by decide +kernel
theorem dX6_oil_37 : decode cX6_oil 37 = .ok (.invokestatic 65, 3) := by decide +kernel
theorem dX6_oil_40 : decode cX6_oil 40 = .ok (.invokevirtual 88, 3) := by decide +kernel
theorem dX6_oil_43 : decode cX6_oil 43 = .ok (.pop, 1) := by decide +kernel
theorem dX6_oil_44 : decode cX6_oil 44 = .ok (.aload_n 0, 1) := by decide +kernel
theorem dX6_oil_45 : decode cX6_oil 45 = .ok (.iload_n 1, 1) := by decide +kernel
theorem dX6_oil_46 : decode cX6_oil 46 = .ok (.iconst 4, 1) := by decide +kernel
theorem dX6_oil_47 : decode cX6_oil 47 = .ok (.invokevirtual 61, 3) := by decide +kernel
theorem dX6_oil_50 : decode cX6_oil 50 = .ok (.ireturn, 1) := by decide +kernel
theorem dX6_pace_0 : decode cX6_pace 0 = .ok (.iload_n 1, 1) := by decide +kernel
theorem dX6_pace_1 : decode cX6_pace 1 = .ok (.bipush (-99), 2) := by decide +kernel
theorem dX6_pace_3 : decode cX6_pace 3 = .ok (.bipush 99, 2) := by decide +kernel
theorem dX6_pace_5 : decode cX6_pace 5 = .ok (.invokestatic 57, 3) := by decide +kernel
theorem dX6_pace_8 : decode cX6_pace 8 = .ok (.ifCond .ne 9, 3) := by decide +kernel
theorem dX6_pace_11 : decode cX6_pace 11 = .ok (.aload_n 0, 1) := by decide +kernel
theorem dX6_pace_12 : decode cX6_pace 12 = .ok (.iconst 0, 1) := by decide +kernel
theorem dX6_pace_13 : decode cX6_pace 13 = .ok (.invokevirtual 85, 3) := by decide +kernel
theorem dX6_pace_16 : decode cX6_pace 16 = .ok (.ireturn, 1) := by decide +kernel
theorem dX6_pace_17 : decode cX6_pace 17 = .ok (.aload_n 0, 1) := by decide +kernel
theorem dX6_pace_18 : decode cX6_pace 18 = .ok (.getfield 9, 3) := by decide +kernel
theorem dX6_pace_21 : decode cX6_pace 21 = .ok (.iconst 2, 1) := by decide +kernel
theorem dX6_pace_22 : decode cX6_pace 22 = .ok (.iaload, 1) := by decide +kernel
theorem dX6_pace_23 : decode cX6_pace 23 = .ok (.istore_n 2, 1) := by decide +kernel
theorem dX6_pace_24 : decode cX6_pace 24 = .ok (.aload_n 0, 1) := by decide +kernel
theorem dX6_pace_25 : decode cX6_pace 25 = .ok (.getfield 9, 3) := by decide +kernel
theorem dX6_pace_28 : decode cX6_pace 28 = .ok (.iconst 2, 1) := by decide +kernel
theorem dX6_pace_29 : decode cX6_pace 29 = .ok (.iload_n 1, 1) := by decide +kernel
theorem dX6_pace_30 : decode cX6_pace 30 = .ok (.iastore, 1) := by decide +kernel
theorem dX6_pace_31 : decode cX6_pace 31 = .ok (.iload_n 2, 1) := by decide +kernel
theorem dX6_pace_32 : decode cX6_pace 32 = .ok (.ireturn, 1) := by decide +kernel
theorem dX6_stepsOf_0 : decode cX6_stepsOf 0 = .ok (.aload_n 0, 1) := by decide +kernel
theorem dX6_stepsOf_1 : decode cX6_stepsOf 1 = .ok (.iload_n 1, 1) := by decide +kernel
theorem dX6_stepsOf_2 : decode cX6_stepsOf 2 = .ok (.invokevirtual 95, 3) := by decide +kernel
theorem dX6_stepsOf_5 : decode cX6_stepsOf 5 = .ok (.istore_n 2, 1) := by decide +kernel
theorem dX6_stepsOf_6 : decode cX6_stepsOf 6 = .ok (.aload_n 0, 1) := by decide +kernel
theorem dX6_stepsOf_7 : decode cX6_stepsOf 7 = .ok (.getfield 108, 3) := by decide +kernel
theorem dX6_stepsOf_10 : decode cX6_stepsOf 10 = .ok (.iload_n 1, 1) := by decide +kernel
theorem dX6_stepsOf_11 : decode cX6_stepsOf 11 = .ok (.ishr, 1) := by decide +kernel
theorem dX6_stepsOf_12 : decode cX6_stepsOf 12 = .ok (.iconst 1, 1) := by decide +kernel
theorem dX6_stepsOf_13 : decode cX6_stepsOf 13 = .ok (.iand, 1) := by decide +kernel
theorem dX6_stepsOf_14 : decode cX6_stepsOf 14 = .ok (.iconst 1, 1) := by decide +kernel
theorem dX6_stepsOf_15 : decode cX6_stepsOf 15 = .ok (.if_icmp .ne 7, 3) := by decide +kernel
theorem dX6_stepsOf_18 : decode cX6_stepsOf 18 = .ok (.iconst 1, 1) := by decide +kernel
theorem dX6_stepsOf_19 : decode cX6_stepsOf 19 = .ok (.goto 4, 3) := by decide +kernel
theorem dX6_stepsOf_22 : decode cX6_stepsOf 22 = .ok (.iconst 0, 1) := by decide +kernel
theorem dX6_stepsOf_23 : decode cX6_stepsOf 23 = .ok (.istore_n 3, 1) := by decide +kernel
theorem dX6_stepsOf_24 : decode cX6_stepsOf 24 = .ok (.aload_n 0, 1) := by decide +kernel
theorem dX6_stepsOf_25 : decode cX6_stepsOf 25 = .ok (.iload_n 1, 1) := by decide +kernel
theorem dX6_stepsOf_26 : decode cX6_stepsOf 26 = .ok (.aload_n 0, 1) := by decide +kernel
theorem dX6_stepsOf_27 : decode cX6_stepsOf 27 = .ok (.getfield 25, 3) := by decide +kernel
theorem dX6_stepsOf_30 : decode cX6_stepsOf 30 = .ok (.iload_n 1, 1) := by decide +kernel
theorem dX6_stepsOf_31 : decode cX6_stepsOf 31 = .ok (.iaload, 1) := by decide +kernel
theorem dX6_stepsOf_32 : decode cX6_stepsOf 32 = .ok (.invokestatic 112, 3) := by decide +kernel
theorem dX6_stepsOf_35 : decode cX6_stepsOf 35 = .ok (.l2i, 1) := by decide +kernel
theorem dX6_stepsOf_36 : decode cX6_stepsOf 36 = .ok (.invokevirtual 105, 3) := by decide +kernel
theorem dX6_stepsOf_39 : decode cX6_stepsOf 39 = .ok (.istore 4, 2) := by decide +kernel
theorem dX6_stepsOf_41 : decode cX6_stepsOf 41 = .ok (.iload_n 3, 1) := by decide +kernel
theorem dX6_stepsOf_42 : decode cX6_stepsOf 42 = .ok (.ifCond .eq 8, 3) := by decide +kernel
theorem dX6_stepsOf_45 : decode cX6_stepsOf 45 = .ok (.iload 4, 2) := by decide +kernel
theorem dX6_stepsOf_47 : decode cX6_stepsOf 47 = .ok (.goto 15, 3) := by decide +kernel
theorem dX6_stepsOf_50 : decode cX6_stepsOf 50 = .ok (.aload_n 0, 1) := by decide +kernel
theorem dX6_stepsOf_51 : decode cX6_stepsOf 51 = .ok (.iload_n 1, 1) := by decide +kernel
theorem dX6_stepsOf_52 : decode cX6_stepsOf 52 = .ok (.aload_n 0, 1) := by decide +kernel
theorem dX6_stepsOf_53 : decode cX6_stepsOf 53 = .ok (.iload_n 1, 1) := by decide +kernel
theorem dX6_stepsOf_54 : decode cX6_stepsOf 54 = .ok (.bipush 6, 2) := by decide +kernel
theorem dX6_stepsOf_56 : decode cX6_stepsOf 56 = .ok (.invokevirtual 61, 3) := by decide +kernel
theorem dX6_stepsOf_59 : decode cX6_stepsOf 59 = .ok (.invokevirtual 98, 3) := by decide +kernel
theorem dX6_stepsOf_62 : decode cX6_stepsOf 62 = .ok (.istore 5, 2) := by decide +kernel
theorem dX6_stepsOf_64 : decode cX6_stepsOf 64 = .ok (.iload_n 2, 1) := by decide +kernel
theorem dX6_stepsOf_65 : decode cX6_stepsOf 65 = .ok (.invokestatic 112, 3) := by decide +kernel
theorem dX6_stepsOf_68 : decode cX6_stepsOf 68 = .ok (.iload 5, 2) := by decide +kernel
theorem dX6_stepsOf_70 : decode cX6_stepsOf 70 = .ok (.i2l, 1) := by decide +kernel
theorem dX6_stepsOf_71 : decode cX6_stepsOf 71 = .ok (.lcmp, 1) := by decide +kernel
theorem dX6_stepsOf_72 : decode cX6_stepsOf 72 = .ok (.ifCond .gt 5, 3) := by decide +kernel
theorem dX6_stepsOf_75 : decode cX6_stepsOf 75 = .ok (.iconst 0, 1) := by decide +kernel
theorem dX6_stepsOf_76 : decode cX6_stepsOf 76 = .ok (.ireturn, 1) := by decide +kernel
theorem dX6_stepsOf_77 : decode cX6_stepsOf 77 = .ok (.iload_n 2, 1) := by decide +kernel
theorem dX6_stepsOf_78 : decode cX6_stepsOf 78 = .ok (.invokestatic 112, 3) := by decide +kernel
theorem dX6_stepsOf_81 : decode cX6_stepsOf 81 = .ok (.iload 4, 2) := by decide +kernel
theorem dX6_stepsOf_83 : decode cX6_stepsOf 83 = .ok (.i2l, 1) := by decide +kernel
theorem dX6_stepsOf_84 : decode cX6_stepsOf 84 = .ok (.lsub, 1) := by decide +kernel
theorem dX6_stepsOf_85 : decode cX6_stepsOf 85 = .ok (.aload_n 0, 1) := by decide +kernel
theorem dX6_stepsOf_86 : decode cX6_stepsOf 86 = .ok (.iload_n 1, 1) := by decide +kernel
theorem dX6_stepsOf_87 : decode cX6_stepsOf 87 = .ok (.invokevirtual 116, 3) := by decide +kernel
theorem dX6_stepsOf_90 : decode cX6_stepsOf 90 = .ok (.i2l, 1) := by decide +kernel
theorem dX6_stepsOf_91 : decode cX6_stepsOf 91 = .ok (.ldiv, 1) := by decide +kernel
theorem dX6_stepsOf_92 : decode cX6_stepsOf 92 = .ok (.lstore 6, 2) := by decide +kernel
theorem dX6_stepsOf_94 : decode cX6_stepsOf 94 = .ok (.lload 6, 2) := by decide +kernel
theorem dX6_stepsOf_96 : decode cX6_stepsOf 96 = .ok (.lconst 1, 1) := by decide +kernel
theorem dX6_stepsOf_97 : decode cX6_stepsOf 97 = .ok (.lcmp, 1) := by decide +kernel
theorem dX6_stepsOf_98 : decode cX6_stepsOf 98 = .ok (.ifCond .ge 7, 3) := by decide +kernel
theorem dX6_stepsOf_101 : decode cX6_stepsOf 101 = .ok (.iconst 1, 1) := by decide +kernel
theorem dX6_stepsOf_102 : decode cX6_stepsOf 102 = .ok (.goto 21, 3) := by decide +kernel
theorem dX6_stepsOf_105 : decode cX6_stepsOf 105 = .ok (.lload 6, 2) := by decide +kernel
theorem dX6_stepsOf_107 : decode cX6_stepsOf 107 = .ok (.ldc2_w 119, 3) := by decide +kernel
theorem dX6_stepsOf_110 : decode cX6_stepsOf 110 = .ok (.lcmp, 1) := by decide +kernel
theorem dX6_stepsOf_111 : decode cX6_stepsOf 111 = .ok (.ifCond .le 9, 3) := by decide +kernel
theorem dX6_stepsOf_114 : decode cX6_stepsOf 114 = .ok (.sipush 999, 3) := by decide +kernel
theorem dX6_stepsOf_117 : decode cX6_stepsOf 117 = .ok (.goto 6, 3) := by decide +kernel
theorem dX6_stepsOf_120 : decode cX6_stepsOf 120 = .ok (.lload 6, 2) := by decide +kernel
theorem dX6_stepsOf_122 : decode cX6_stepsOf 122 = .ok (.l2i, 1) := by decide +kernel
theorem dX6_stepsOf_123 : decode cX6_stepsOf 123 = .ok (.istore 8, 2) := by decide +kernel
theorem dX6_stepsOf_125 : decode cX6_stepsOf 125 = .ok (.iload_n 2, 1) := by decide +kernel
theorem dX6_stepsOf_126 : decode cX6_stepsOf 126 = .ok (.ifCond .ge 9, 3) := by decide +kernel
theorem dX6_stepsOf_129 : decode cX6_stepsOf 129 = .ok (.iload 8, 2) := by decide +kernel
theorem dX6_stepsOf_131 : decode cX6_stepsOf 131 = .ok (.ineg, 1) := by decide +kernel
theorem dX6_stepsOf_132 : decode cX6_stepsOf 132 = .ok (.goto 5, 3) := by decide +kernel
theorem dX6_stepsOf_135 : decode cX6_stepsOf 135 = .ok (.iload 8, 2) := by decide +kernel
theorem dX6_stepsOf_137 : decode cX6_stepsOf 137 = .ok (.ireturn, 1) := by decide +kernel
theorem dX6_round_0 : decode cX6_round 0 = .ok (.iconst 0, 1) := by decide +kernel
theorem dX6_round_1 : decode cX6_round 1 = .ok (.istore_n 1, 1) := by decide +kernel
theorem dX6_round_2 : decode cX6_round 2 = .ok (.iconst 0, 1) := by decide +kernel
theorem dX6_round_3 : decode cX6_round 3 = .ok (.istore_n 2, 1) := by decide +kernel
theorem dX6_round_4 : decode cX6_round 4 = .ok (.iload_n 2, 1) := by decide +kernel
theorem dX6_round_5 : decode cX6_round 5 = .ok (.aload_n 0, 1) := by decide +kernel
theorem dX6_round_6 : decode cX6_round 6 = .ok (.getfield 9, 3) := by decide +kernel
theorem dX6_round_9 : decode cX6_round 9 = .ok (.iconst 0, 1) := by decide +kernel
theorem dX6_round_10 : decode cX6_round 10 = .ok (.iaload, 1) := by decide +kernel
theorem dX6_round_11 : decode cX6_round 11 = .ok (.if_icmp .ge 20, 3) := by decide +kernel
theorem dX6_round_14 : decode cX6_round 14 = .ok (.aload_n 0, 1) := by decide +kernel
theorem dX6_round_15 : decode cX6_round 15 = .ok (.getfield 28, 3) := by decide +kernel
theorem dX6_round_18 : decode cX6_round 18 = .ok (.iload_n 2, 1) := by decide +kernel
theorem dX6_round_19 : decode cX6_round 19 = .ok (.aload_n 0, 1) := by decide +kernel
theorem dX6_round_20 : decode cX6_round 20 = .ok (.iload_n 2, 1) := by decide +kernel
theorem dX6_round_21 : decode cX6_round 21 = .ok (.invokevirtual 121, 3) := by decide +kernel
theorem dX6_round_24 : decode cX6_round 24 = .ok (.iastore, 1) := by decide +kernel
theorem dX6_round_25 : decode cX6_round 25 = .ok (.iinc 2 1, 3) := by decide +kernel
theorem dX6_round_28 : decode cX6_round 28 = .ok (.goto (-24), 3) := by decide +kernel
theorem dX6_round_31 : decode cX6_round 31 = .ok (.iconst 0, 1) := by decide +kernel
theorem dX6_round_32 : decode cX6_round 32 = .ok (.istore_n 2, 1) := by decide +kernel
theorem dX6_round_33 : decode cX6_round 33 = .ok (.iload_n 2, 1) := by decide +kernel
theorem dX6_round_34 : decode cX6_round 34 = .ok (.aload_n 0, 1) := by decide +kernel
theorem dX6_round_35 : decode cX6_round 35 = .ok (.getfield 9, 3) := by decide +kernel
theorem dX6_round_38 : decode cX6_round 38 = .ok (.iconst 0, 1) := by decide +kernel
theorem dX6_round_39 : decode cX6_round 39 = .ok (.iaload, 1) := by decide +kernel
theorem dX6_round_40 : decode cX6_round 40 = .ok (.if_icmp .ge 93, 3) := by decide +kernel
theorem dX6_round_43 : decode cX6_round 43 = .ok (.aload_n 0, 1) := by decide +kernel
theorem dX6_round_44 : decode cX6_round 44 = .ok (.getfield 25, 3) := by decide +kernel
theorem dX6_round_47 : decode cX6_round 47 = .ok (.iload_n 2, 1) := by decide +kernel
theorem dX6_round_48 : decode cX6_round 48 = .ok (.aload_n 0, 1) := by decide +kernel
theorem dX6_round_49 : decode cX6_round 49 = .ok (.getfield 28, 3) := by decide +kernel
theorem dX6_round_52 : decode cX6_round 52 = .ok (.iload_n 2, 1) := by decide +kernel
theorem dX6_round_53 : decode cX6_round 53 = .ok (.iaload, 1) := by decide +kernel
theorem dX6_round_54 : decode cX6_round 54 = .ok (.iastore, 1) := by decide +kernel
theorem dX6_round_55 : decode cX6_round 55 = .ok (.aload_n 0, 1) := by decide +kernel
theorem dX6_round_56 : decode cX6_round 56 = .ok (.getfield 28, 3) := by decide +kernel
theorem dX6_round_59 : decode cX6_round 59 = .ok (.iload_n 2, 1) := by decide +kernel
theorem dX6_round_60 : decode cX6_round 60 = .ok (.iaload, 1) := by decide +kernel
theorem dX6_round_61 : decode cX6_round 61 = .ok (.ifCond .eq 66, 3) := by decide +kernel
theorem dX6_round_64 : decode cX6_round 64 = .ok (.aload_n 0, 1) := by decide +kernel
theorem dX6_round_65 : decode cX6_round 65 = .ok (.iload_n 2, 1) := by decide +kernel
theorem dX6_round_66 : decode cX6_round 66 = .ok (.iconst 5, 1) := by decide +kernel
theorem dX6_round_67 : decode cX6_round 67 = .ok (.aload_n 0, 1) := by decide +kernel
theorem dX6_round_68 : decode cX6_round 68 = .ok (.iload_n 2, 1) := by decide +kernel
theorem dX6_round_69 : decode cX6_round 69 = .ok (.iconst 5, 1) := by decide +kernel
theorem dX6_round_70 : decode cX6_round 70 = .ok (.invokevirtual 61, 3) := by decide +kernel
theorem dX6_round_73 : decode cX6_round 73 = .ok (.aload_n 0, 1) := by decide +kernel
theorem dX6_round_74 : decode cX6_round 74 = .ok (.getfield 28, 3) := by decide +kernel
theorem dX6_round_77 : decode cX6_round 77 = .ok (.iload_n 2, 1) := by decide +kernel
theorem dX6_round_78 : decode cX6_round 78 = .ok (.iaload, 1) := by decide +kernel
theorem dX6_round_79 : decode cX6_round 79 = .ok (.iadd, 1) := by decide +kernel
theorem dX6_round_80 : decode cX6_round 80 = .ok (.invokevirtual 88, 3) := by decide +kernel
theorem dX6_round_83 : decode cX6_round 83 = .ok (.pop, 1) := by decide +kernel
theorem dX6_round_84 : decode cX6_round 84 = .ok (.aload_n 0, 1) := by decide +kernel
theorem dX6_round_85 : decode cX6_round 85 = .ok (.dup, 1) := by decide +kernel
theorem dX6_round_86 : decode cX6_round 86 = .ok (.getfield 108, 3) := by decide +kernel
theorem dX6_round_89 : decode cX6_round 89 = .ok (.iconst 1, 1) := by decide +kernel
theorem dX6_round_90 : decode cX6_round 90 = .ok (.iload_n 2, 1) := by decide +kernel
theorem dX6_round_91 : decode cX6_round 91 = .ok (.ishl, 1) := by decide +kernel
theorem dX6_round_92 : decode cX6_round 92 = .ok (.ior, 1) := by decide +kernel
theorem dX6_round_93 : decode cX6_round 93 = .ok (.putfield 108, 3) := by decide +kernel
theorem dX6_round_96 : decode cX6_round 96 = .ok (.aload_n 0, 1) := by decide +kernel
theorem dX6_round_97 : decode cX6_round 97 = .ok (.dup, 1) := by decide +kernel
theorem dX6_round_98 : decode cX6_round 98 = .ok (.getfield 124, 3) := by decide +kernel
theorem dX6_round_101 : decode cX6_round 101 = .ok (.iconst 1, 1) := by decide +kernel
theorem dX6_round_102 : decode cX6_round 102 = .ok (.iadd, 1) := by decide +kernel
theorem dX6_round_103 : decode cX6_round 103 = .ok (.putfield 124, 3) := by decide +kernel
theorem dX6_round_106 : decode cX6_round 106 = .ok (.aload_n 0, 1) := by decide +kernel
theorem dX6_round_107 : decode cX6_round 107 = .ok (.dup, 1) := by decide +kernel
theorem dX6_round_108 : decode cX6_round 108 = .ok (.getfield 127, 3) := by decide +kernel
theorem dX6_round_111 : decode cX6_round 111 = .ok (.aload_n 0, 1) := by decide +kernel
theorem dX6_round_112 : decode cX6_round 112 = .ok (.getfield 28, 3) := by decide +kernel
theorem dX6_round_115 : decode cX6_round 115 = .ok (.iload_n 2, 1) := by decide +kernel
theorem dX6_round_116 : decode cX6_round 116 = .ok (.iaload, 1) := by decide +kernel
theorem dX6_round_117 : decode cX6_round 117 = .ok (.invokestatic 112, 3) := by decide +kernel
theorem dX6_round_120 : decode cX6_round 120 = .ok (.l2i, 1) := by decide +kernel
theorem dX6_round_121 : decode cX6_round 121 = .ok (.iadd, 1) := by decide +kernel
theorem dX6_round_122 : decode cX6_round 122 = .ok (.putfield 127, 3) := by decide +kernel
theorem dX6_round_125 : decode cX6_round 125 = .ok (.iconst 1, 1) := by decide +kernel
theorem dX6_round_126 : decode cX6_round 126 = .ok (.istore_n 1, 1) := by decide +kernel
theorem dX6_round_127 : decode cX6_round 127 = .ok (.iinc 2 1, 3) := by decide +kernel
theorem dX6_round_130 : decode cX6_round 130 = .ok (.goto (-97), 3) := by decide +kernel
theorem dX6_round_133 : decode cX6_round 133 = .ok (.iload_n 1, 1) := by decide +kernel
theorem dX6_round_134 : decode cX6_round 134 = .ok (.ireturn, 1) := by decide +kernel
theorem dX6_classOf_0 : decode cX6_classOf 0 = .ok (.iconst 0, 1) := by decide +kernel
theorem dX6_classOf_1 : decode cX6_classOf 1 = .ok (.istore_n 1, 1) := by decide +kernel
theorem dX6_classOf_2 : decode cX6_classOf 2 = .ok (.iload_n 0, 1) := by decide +kernel
theorem dX6_classOf_3 : decode cX6_classOf 3 = .ok (.istore_n 2, 1) := by decide +kernel
theorem dX6_classOf_4 : decode cX6_classOf 4 = .ok (.iload_n 2, 1) := by decide +kernel
theorem dX6_classOf_5 : decode cX6_classOf 5 = .ok (.ifCond .le 19, 3) := by decide +kernel
theorem dX6_classOf_8 : decode cX6_classOf 8 = .ok (.iload_n 1, 1) := by decide +kernel
theorem dX6_classOf_9 : decode cX6_classOf 9 = .ok (.bipush 6, 2) := by decide +kernel
theorem dX6_classOf_11 : decode cX6_classOf 11 = .ok (.if_icmp .ge 13, 3) := by decide +kernel
theorem dX6_classOf_14 : decode cX6_classOf 14 = .ok (.iinc 1 1, 3) := by decide +kernel
theorem dX6_classOf_17 : decode cX6_classOf 17 = .ok (.iload_n 2, 1) := by decide +kernel
theorem dX6_classOf_18 : decode cX6_classOf 18 = .ok (.iconst 2, 1) := by decide +kernel
theorem dX6_classOf_19 : decode cX6_classOf 19 = .ok (.idiv, 1) := by decide +kernel
theorem dX6_classOf_20 : decode cX6_classOf 20 = .ok (.istore_n 2, 1) := by decide +kernel
theorem dX6_classOf_21 : decode cX6_classOf 21 = .ok (.goto (-17), 3) := by decide +kernel
theorem dX6_classOf_24 : decode cX6_classOf 24 = .ok (.iload_n 1, 1) := by decide +kernel
theorem dX6_classOf_25 : decode cX6_classOf 25 = .ok (.ireturn, 1) := by decide +kernel
theorem dX6_tick_0 : decode cX6_tick 0 = .ok (.aload_n 0, 1) := by decide +kernel
theorem dX6_tick_1 : decode cX6_tick 1 = .ok (.getfield 9, 3) := by decide +kernel
theorem dX6_tick_4 : decode cX6_tick 4 = .ok (.iconst 1, 1) := by decide +kernel
theorem dX6_tick_5 : decode cX6_tick 5 = .ok (.dup2, 1) := by decide +kernel
theorem dX6_tick_6 : decode cX6_tick 6 = .ok (.iaload, 1) := by decide +kernel
theorem dX6_tick_7 : decode cX6_tick 7 = .ok (.aload_n 0, 1) := by decide +kernel
theorem dX6_tick_8 : decode cX6_tick 8 = .ok (.getfield 9, 3) := by decide +kernel
theorem dX6_tick_11 : decode cX6_tick 11 = .ok (.iconst 2, 1) := by decide +kernel
theorem dX6_tick_12 : decode cX6_tick 12 = .ok (.iaload, 1) := by decide +kernel
theorem dX6_tick_13 : decode cX6_tick 13 = .ok (.iadd, 1) := by decide +kernel
theorem dX6_tick_14 : decode cX6_tick 14 = .ok (.iastore, 1) := by decide +kernel
theorem dX6_tick_15 : decode cX6_tick 15 = .ok (.aload_n 0, 1) := by decide +kernel
theorem dX6_tick_16 : decode cX6_tick 16 = .ok (.iconst 0, 1) := by decide +kernel
theorem dX6_tick_17 : decode cX6_tick 17 = .ok (.putfield 108, 3) := by decide +kernel
theorem dX6_tick_20 : decode cX6_tick 20 = .ok (.aload_n 0, 1) := by decide +kernel
theorem dX6_tick_21 : decode cX6_tick 21 = .ok (.iconst 0, 1) := by decide +kernel
theorem dX6_tick_22 : decode cX6_tick 22 = .ok (.putfield 124, 3) := by decide +kernel
theorem dX6_tick_25 : decode cX6_tick 25 = .ok (.aload_n 0, 1) := by decide +kernel
theorem dX6_tick_26 : decode cX6_tick 26 = .ok (.iconst 0, 1) := by decide +kernel
theorem dX6_tick_27 : decode cX6_tick 27 = .ok (.putfield 127, 3) := by decide +kernel
theorem dX6_tick_30 : decode cX6_tick 30 = .ok (.iconst 0, 1) := by decide +kernel
theorem dX6_tick_31 : decode cX6_tick 31 = .ok (.istore_n 1, 1) := by decide +kernel
theorem dX6_tick_32 : decode cX6_tick 32 = .ok (.iload_n 1, 1) := by decide +kernel
theorem dX6_tick_33 : decode cX6_tick 33 = .ok (.aload_n 0, 1) := by decide +kernel
theorem dX6_tick_34 : decode cX6_tick 34 = .ok (.getfield 9, 3) := by decide +kernel
theorem dX6_tick_37 : decode cX6_tick 37 = .ok (.iconst 0, 1) := by decide +kernel
theorem dX6_tick_38 : decode cX6_tick 38 = .ok (.iaload, 1) := by decide +kernel
theorem dX6_tick_39 : decode cX6_tick 39 = .ok (.if_icmp .ge 16, 3) := by decide +kernel
theorem dX6_tick_42 : decode cX6_tick 42 = .ok (.aload_n 0, 1) := by decide +kernel
theorem dX6_tick_43 : decode cX6_tick 43 = .ok (.getfield 25, 3) := by decide +kernel
theorem dX6_tick_46 : decode cX6_tick 46 = .ok (.iload_n 1, 1) := by decide +kernel
theorem dX6_tick_47 : decode cX6_tick 47 = .ok (.iconst 0, 1) := by decide +kernel
theorem dX6_tick_48 : decode cX6_tick 48 = .ok (.iastore, 1) := by decide +kernel
theorem dX6_tick_49 : decode cX6_tick 49 = .ok (.iinc 1 1, 3) := by decide +kernel
theorem dX6_tick_52 : decode cX6_tick 52 = .ok (.goto (-20), 3) := by decide +kernel
theorem dX6_tick_55 : decode cX6_tick 55 = .ok (.iconst 0, 1) := by decide +kernel
theorem dX6_tick_56 : decode cX6_tick 56 = .ok (.istore_n 1, 1) := by decide +kernel
theorem dX6_tick_57 : decode cX6_tick 57 = .ok (.iconst 1, 1) := by decide +kernel
theorem dX6_tick_58 : decode cX6_tick 58 = .ok (.istore_n 2, 1) := by decide +kernel
theorem dX6_tick_59 : decode cX6_tick 59 = .ok (.iload_n 2, 1) := by decide +kernel
theorem dX6_tick_60 : decode cX6_tick 60 = .ok (.ifCond .eq 20, 3) := by decide +kernel
theorem dX6_tick_63 : decode cX6_tick 63 = .ok (.iload_n 1, 1) := by decide +kernel
theorem dX6_tick_64 : decode cX6_tick 64 = .ok (.bipush 40, 2) := by decide +kernel
theorem dX6_tick_66 : decode cX6_tick 66 = .ok (.if_icmp .ge 14, 3) := by decide +kernel
theorem dX6_tick_69 : decode cX6_tick 69 = .ok (.aload_n 0, 1) := by decide +kernel
theorem dX6_tick_70 : decode cX6_tick 70 = .ok (.invokevirtual 130, 3) := by decide +kernel
theorem dX6_tick_73 : decode cX6_tick 73 = .ok (.istore_n 2, 1) := by decide +kernel
theorem dX6_tick_74 : decode cX6_tick 74 = .ok (.iinc 1 1, 3) := by decide +kernel
theorem dX6_tick_77 : decode cX6_tick 77 = .ok (.goto (-18), 3) := by decide +kernel
theorem dX6_tick_80 : decode cX6_tick 80 = .ok (.aload_n 0, 1) := by decide +kernel
theorem dX6_tick_81 : decode cX6_tick 81 = .ok (.getfield 9, 3) := by decide +kernel
theorem dX6_tick_84 : decode cX6_tick 84 = .ok (.iconst 4, 1) := by decide +kernel
theorem dX6_tick_85 : decode cX6_tick 85 = .ok (.dup2, 1) := by decide +kernel
theorem dX6_tick_86 : decode cX6_tick 86 = .ok (.iaload, 1) := by decide +kernel
theorem dX6_tick_87 : decode cX6_tick 87 = .ok (.iload_n 2, 1) := by decide +kernel
theorem dX6_tick_88 : decode cX6_tick 88 = .ok (.ifCond .eq 7, 3) := by decide +kernel
theorem dX6_tick_91 : decode cX6_tick 91 = .ok (.iconst 1, 1) := by decide +kernel
theorem dX6_tick_92 : decode cX6_tick 92 = .ok (.goto 4, 3) := by decide +kernel
theorem dX6_tick_95 : decode cX6_tick 95 = .ok (.iconst 0, 1) := by decide +kernel
theorem dX6_tick_96 : decode cX6_tick 96 = .ok (.iadd, 1) := by decide +kernel
theorem dX6_tick_97 : decode cX6_tick 97 = .ok (.iastore, 1) := by decide +kernel
theorem dX6_tick_98 : decode cX6_tick 98 = .ok (.iconst 0, 1) := by decide +kernel
theorem dX6_tick_99 : decode cX6_tick 99 = .ok (.istore_n 3, 1) := by decide +kernel
theorem dX6_tick_100 : decode cX6_tick 100 = .ok (.iload_n 3, 1) := by decide +kernel
theorem dX6_tick_101 : decode cX6_tick 101 = .ok (.aload_n 0, 1) := by decide +kernel
theorem dX6_tick_102 : decode cX6_tick 102 = .ok (.getfield 9, 3) := by decide +kernel
theorem dX6_tick_105 : decode cX6_tick 105 = .ok (.iconst 0, 1) := by decide +kernel
theorem dX6_tick_106 : decode cX6_tick 106 = .ok (.iaload, 1) := by decide +kernel
theorem dX6_tick_107 : decode cX6_tick 107 = .ok (.if_icmp .ge 93, 3) := by decide +kernel
theorem dX6_tick_110 : decode cX6_tick 110 = .ok (.aload_n 0, 1) := by decide +kernel
theorem dX6_tick_111 : decode cX6_tick 111 = .ok (.getfield 108, 3) := by decide +kernel
theorem dX6_tick_114 : decode cX6_tick 114 = .ok (.iload_n 3, 1) := by decide +kernel
theorem dX6_tick_115 : decode cX6_tick 115 = .ok (.ishr, 1) := by decide +kernel
theorem dX6_tick_116 : decode cX6_tick 116 = .ok (.iconst 1, 1) := by decide +kernel
theorem dX6_tick_117 : decode cX6_tick 117 = .ok (.iand, 1) := by decide +kernel
theorem dX6_tick_118 : decode cX6_tick 118 = .ok (.iconst 1, 1) := by decide +kernel
theorem dX6_tick_119 : decode cX6_tick 119 = .ok (.if_icmp .ne 7, 3) := by decide +kernel
theorem dX6_tick_122 : decode cX6_tick 122 = .ok (.iconst 1, 1) := by decide +kernel
theorem dX6_tick_123 : decode cX6_tick 123 = .ok (.goto 4, 3) := by decide +kernel
theorem dX6_tick_126 : decode cX6_tick 126 = .ok (.iconst 0, 1) := by decide +kernel
theorem dX6_tick_127 : decode cX6_tick 127 = .ok (.istore 4, 2) := by decide +kernel
theorem dX6_tick_129 : decode cX6_tick 129 = .ok (.aload_n 0, 1) := by decide +kernel
theorem dX6_tick_130 : decode cX6_tick 130 = .ok (.iload_n 3, 1) := by decide +kernel
theorem dX6_tick_131 : decode cX6_tick 131 = .ok (.bipush 6, 2) := by decide +kernel
theorem dX6_tick_133 : decode cX6_tick 133 = .ok (.iload 4, 2) := by decide +kernel
theorem dX6_tick_135 : decode cX6_tick 135 = .ok (.ifCond .eq 7, 3) := by decide +kernel
theorem dX6_tick_138 : decode cX6_tick 138 = .ok (.iconst 0, 1) := by decide +kernel
theorem dX6_tick_139 : decode cX6_tick 139 = .ok (.goto 18, 3) := by decide +kernel
theorem dX6_tick_142 : decode cX6_tick 142 = .ok (.sipush 999, 3) := by decide +kernel
theorem dX6_tick_145 : decode cX6_tick 145 = .ok (.aload_n 0, 1) := by decide +kernel
theorem dX6_tick_146 : decode cX6_tick 146 = .ok (.iload_n 3, 1) := by decide +kernel
theorem dX6_tick_147 : decode cX6_tick 147 = .ok (.bipush 6, 2) := by decide +kernel
theorem dX6_tick_149 : decode cX6_tick 149 = .ok (.invokevirtual 61, 3) := by decide +kernel
theorem dX6_tick_152 : decode cX6_tick 152 = .ok (.iconst 1, 1) := by decide +kernel
theorem dX6_tick_153 : decode cX6_tick 153 = .ok (.iadd, 1) := by decide +kernel
theorem dX6_tick_154 : decode cX6_tick 154 = .ok (.invokestatic 65, 3) := by decide +kernel
theorem dX6_tick_157 : decode cX6_tick 157 = .ok (.invokevirtual 88, 3) := by decide +kernel
theorem dX6_tick_160 : decode cX6_tick 160 = .ok (.pop, 1) := by decide +kernel
theorem dX6_tick_161 : decode cX6_tick 161 = .ok (.aload_n 0, 1) := by decide +kernel
theorem dX6_tick_162 : decode cX6_tick 162 = .ok (.iload_n 3, 1) := by decide +kernel
theorem dX6_tick_163 : decode cX6_tick 163 = .ok (.iconst 4, 1) := by decide +kernel
theorem dX6_tick_164 : decode cX6_tick 164 = .ok (.iload 4, 2) := by decide +kernel
theorem dX6_tick_166 : decode cX6_tick 166 = .ok (.ifCond .eq 18, 3) := by decide +kernel
theorem dX6_tick_169 : decode cX6_tick 169 = .ok (.iconst 0, 1) := by decide +kernel
theorem dX6_tick_170 : decode cX6_tick 170 = .ok (.aload_n 0, 1) := by decide +kernel
theorem dX6_tick_171 : decode cX6_tick 171 = .ok (.iload_n 3, 1) := by decide +kernel
theorem dX6_tick_172 : decode cX6_tick 172 = .ok (.iconst 4, 1) := by decide +kernel
theorem dX6_tick_173 : decode cX6_tick 173 = .ok (.invokevirtual 61, 3) := by decide +kernel
theorem dX6_tick_176 : decode cX6_tick 176 = .ok (.iconst 1, 1) := by decide +kernel
theorem dX6_tick_177 : decode cX6_tick 177 = .ok (.isub, 1) := by decide +kernel
theorem dX6_tick_178 : decode cX6_tick 178 = .ok (.invokestatic 71, 3) := by decide +kernel
theorem dX6_tick_181 : decode cX6_tick 181 = .ok (.goto 9, 3) := by decide +kernel
theorem dX6_tick_184 : decode cX6_tick 184 = .ok (.aload_n 0, 1) := by decide +kernel
theorem dX6_tick_185 : decode cX6_tick 185 = .ok (.iload_n 3, 1) := by decide +kernel
theorem dX6_tick_186 : decode cX6_tick 186 = .ok (.iconst 4, 1) := by decide +kernel
theorem dX6_tick_187 : decode cX6_tick 187 = .ok (.invokevirtual 61, 3) := by decide +kernel
theorem dX6_tick_190 : decode cX6_tick 190 = .ok (.invokevirtual 88, 3) := by decide +kernel
theorem dX6_tick_193 : decode cX6_tick 193 = .ok (.pop, 1) := by decide +kernel
theorem dX6_tick_194 : decode cX6_tick 194 = .ok (.iinc 3 1, 3) := by decide +kernel
theorem dX6_tick_197 : decode cX6_tick 197 = .ok (.goto (-97), 3) := by decide +kernel
end
section
theorem dX6_tick_200 : decode cX6_tick 200 = .ok (.aload_n 0, 1) := by decide +kernel
theorem dX6_tick_201 : decode cX6_tick 201 = .ok (.getfield 9, 3) := by decide +kernel
theorem dX6_tick_204 : decode cX6_tick 204 = .ok (.iconst 3, 1) := by decide +kernel
theorem dX6_tick_205 : decode cX6_tick 205 = .ok (.dup2, 1) := by decide +kernel
theorem dX6_tick_206 : decode cX6_tick 206 = .ok (.iaload, 1) := by decide +kernel
theorem dX6_tick_207 : decode cX6_tick 207 = .ok (.iconst 1, 1) := by decide +kernel
theorem dX6_tick_208 : decode cX6_tick 208 = .ok (.iadd, 1) := by decide +kernel
theorem dX6_tick_209 : decode cX6_tick 209 = .ok (.iastore, 1) := by decide +kernel
theorem dX6_tick_210 : decode cX6_tick 210 = .ok (.aload_n 0, 1) := by decide +kernel
theorem dX6_tick_211 : decode cX6_tick 211 = .ok (.getfield 9, 3) := by decide +kernel
theorem dX6_tick_214 : decode cX6_tick 214 = .ok (.bipush 6, 2) := by decide +kernel
theorem dX6_tick_216 : decode cX6_tick 216 = .ok (.aload_n 0, 1) := by decide +kernel
theorem dX6_tick_217 : decode cX6_tick 217 = .ok (.getfield 124, 3) := by decide +kernel
theorem dX6_tick_220 : decode cX6_tick 220 = .ok (.invokestatic 134, 3) := by decide +kernel
theorem dX6_tick_223 : decode cX6_tick 223 = .ok (.iadd, 1) := by decide +kernel
theorem dX6_tick_224 : decode cX6_tick 224 = .ok (.dup2, 1) := by decide +kernel
theorem dX6_tick_225 : decode cX6_tick 225 = .ok (.iaload, 1) := by decide +kernel
theorem dX6_tick_226 : decode cX6_tick 226 = .ok (.iconst 1, 1) := by decide +kernel
theorem dX6_tick_227 : decode cX6_tick 227 = .ok (.iadd, 1) := by decide +kernel
theorem dX6_tick_228 : decode cX6_tick 228 = .ok (.iastore, 1) := by decide +kernel
theorem dX6_tick_229 : decode cX6_tick 229 = .ok (.aload_n 0, 1) := by decide +kernel
theorem dX6_tick_230 : decode cX6_tick 230 = .ok (.invokevirtual 137, 3) := by decide +kernel
theorem dX6_tick_233 : decode cX6_tick 233 = .ok (.return_, 1) := by decide +kernel
theorem dX6_books_0 : decode cX6_books 0 = .ok (.bipush 99, 2) := by decide +kernel
theorem dX6_books_2 : decode cX6_books 2 = .ok (.istore_n 1, 1) := by decide +kernel
theorem dX6_books_3 : decode cX6_books 3 = .ok (.iload_n 1, 1) := by decide +kernel
theorem dX6_books_4 : decode cX6_books 4 = .ok (.ifCond .le 75, 3) := by decide +kernel
theorem dX6_books_7 : decode cX6_books 7 = .ok (.aload_n 0, 1) := by decide +kernel
theorem dX6_books_8 : decode cX6_books 8 = .ok (.getfield 9, 3) := by decide +kernel
theorem dX6_books_11 : decode cX6_books 11 = .ok (.sipush 148, 3) := by decide +kernel
theorem dX6_books_14 : decode cX6_books 14 = .ok (.iload_n 1, 1) := by decide +kernel
theorem dX6_books_15 : decode cX6_books 15 = .ok (.iadd, 1) := by decide +kernel
theorem dX6_books_16 : decode cX6_books 16 = .ok (.aload_n 0, 1) := by decide +kernel
theorem dX6_books_17 : decode cX6_books 17 = .ok (.getfield 9, 3) := by decide +kernel
theorem dX6_books_20 : decode cX6_books 20 = .ok (.sipush 148, 3) := by decide +kernel
theorem dX6_books_23 : decode cX6_books 23 = .ok (.iload_n 1, 1) := by decide +kernel
theorem dX6_books_24 : decode cX6_books 24 = .ok (.iadd, 1) := by decide +kernel
theorem dX6_books_25 : decode cX6_books 25 = .ok (.iconst 1, 1) := by decide +kernel
theorem dX6_books_26 : decode cX6_books 26 = .ok (.isub, 1) := by decide +kernel
theorem dX6_books_27 : decode cX6_books 27 = .ok (.iaload, 1) := by decide +kernel
theorem dX6_books_28 : decode cX6_books 28 = .ok (.iastore, 1) := by decide +kernel
theorem dX6_books_29 : decode cX6_books 29 = .ok (.aload_n 0, 1) := by decide +kernel
theorem dX6_books_30 : decode cX6_books 30 = .ok (.getfield 9, 3) := by decide +kernel
theorem dX6_books_33 : decode cX6_books 33 = .ok (.sipush 248, 3) := by decide +kernel
theorem dX6_books_36 : decode cX6_books 36 = .ok (.iload_n 1, 1) := by decide +kernel
theorem dX6_books_37 : decode cX6_books 37 = .ok (.iadd, 1) := by decide +kernel
theorem dX6_books_38 : decode cX6_books 38 = .ok (.aload_n 0, 1) := by decide +kernel
theorem dX6_books_39 : decode cX6_books 39 = .ok (.getfield 9, 3) := by decide +kernel
theorem dX6_books_42 : decode cX6_books 42 = .ok (.sipush 248, 3) := by decide +kernel
theorem dX6_books_45 : decode cX6_books 45 = .ok (.iload_n 1, 1) := by decide +kernel
theorem dX6_books_46 : decode cX6_books 46 = .ok (.iadd, 1) := by decide +kernel
theorem dX6_books_47 : decode cX6_books 47 = .ok (.iconst 1, 1) := by decide +kernel
theorem dX6_books_48 : decode cX6_books 48 = .ok (.isub, 1) := by decide +kernel
theorem dX6_books_49 : decode cX6_books 49 = .ok (.iaload, 1) := by decide +kernel
theorem dX6_books_50 : decode cX6_books 50 = .ok (.iastore, 1) := by decide +kernel
theorem dX6_books_51 : decode cX6_books 51 = .ok (.aload_n 0, 1) := by decide +kernel
theorem dX6_books_52 : decode cX6_books 52 = .ok (.getfield 9, 3) := by decide +kernel
theorem dX6_books_55 : decode cX6_books 55 = .ok (.sipush 348, 3) := by decide +kernel
theorem dX6_books_58 : decode cX6_books 58 = .ok (.iload_n 1, 1) := by decide +kernel
theorem dX6_books_59 : decode cX6_books 59 = .ok (.iadd, 1) := by decide +kernel
theorem dX6_books_60 : decode cX6_books 60 = .ok (.aload_n 0, 1) := by decide +kernel
theorem dX6_books_61 : decode cX6_books 61 = .ok (.getfield 9, 3) := by decide +kernel
theorem dX6_books_64 : decode cX6_books 64 = .ok (.sipush 348, 3) := by decide +kernel
theorem dX6_books_67 : decode cX6_books 67 = .ok (.iload_n 1, 1) := by decide +kernel
theorem dX6_books_68 : decode cX6_books 68 = .ok (.iadd, 1) := by decide +kernel
theorem dX6_books_69 : decode cX6_books 69 = .ok (.iconst 1, 1) := by decide +kernel
theorem dX6_books_70 : decode cX6_books 70 = .ok (.isub, 1) := by decide +kernel
theorem dX6_books_71 : decode cX6_books 71 = .ok (.iaload, 1) := by decide +kernel
theorem dX6_books_72 : decode cX6_books 72 = .ok (.iastore, 1) := by decide +kernel
theorem dX6_books_73 : decode cX6_books 73 = .ok (.iinc 1 (-1), 3) := by decide +kernel
theorem dX6_books_76 : decode cX6_books 76 = .ok (.goto (-73), 3) := by decide +kernel
theorem dX6_books_79 : decode cX6_books 79 = .ok (.aload_n 0, 1) := by decide +kernel
theorem dX6_books_80 : decode cX6_books 80 = .ok (.getfield 9, 3) := by decide +kernel
theorem dX6_books_83 : decode cX6_books 83 = .ok (.sipush 148, 3) := by decide +kernel
theorem dX6_books_86 : decode cX6_books 86 = .ok (.aload_n 0, 1) := by decide +kernel
theorem dX6_books_87 : decode cX6_books 87 = .ok (.getfield 124, 3) := by decide +kernel
theorem dX6_books_90 : decode cX6_books 90 = .ok (.iastore, 1) := by decide +kernel
theorem dX6_books_91 : decode cX6_books 91 = .ok (.aload_n 0, 1) := by decide +kernel
theorem dX6_books_92 : decode cX6_books 92 = .ok (.getfield 9, 3) := by decide +kernel
theorem dX6_books_95 : decode cX6_books 95 = .ok (.sipush 248, 3) := by decide +kernel
theorem dX6_books_98 : decode cX6_books 98 = .ok (.aload_n 0, 1) := by decide +kernel
theorem dX6_books_99 : decode cX6_books 99 = .ok (.getfield 108, 3) := by decide +kernel
theorem dX6_books_102 : decode cX6_books 102 = .ok (.iastore, 1) := by decide +kernel
theorem dX6_books_103 : decode cX6_books 103 = .ok (.aload_n 0, 1) := by decide +kernel
theorem dX6_books_104 : decode cX6_books 104 = .ok (.getfield 9, 3) := by decide +kernel
theorem dX6_books_107 : decode cX6_books 107 = .ok (.sipush 348, 3) := by decide +kernel
theorem dX6_books_110 : decode cX6_books 110 = .ok (.aload_n 0, 1) := by decide +kernel
theorem dX6_books_111 : decode cX6_books 111 = .ok (.getfield 127, 3) := by decide +kernel
theorem dX6_books_114 : decode cX6_books 114 = .ok (.iastore, 1) := by decide +kernel
theorem dX6_books_115 : decode cX6_books 115 = .ok (.aload_n 0, 1) := by decide +kernel
theorem dX6_books_116 : decode cX6_books 116 = .ok (.getfield 9, 3) := by decide +kernel
theorem dX6_books_119 : decode cX6_books 119 = .ok (.bipush 13, 2) := by decide +kernel
theorem dX6_books_121 : decode cX6_books 121 = .ok (.bipush 100, 2) := by decide +kernel
theorem dX6_books_123 : decode cX6_books 123 = .ok (.aload_n 0, 1) := by decide +kernel
theorem dX6_books_124 : decode cX6_books 124 = .ok (.getfield 9, 3) := by decide +kernel
theorem dX6_books_127 : decode cX6_books 127 = .ok (.bipush 13, 2) := by decide +kernel
theorem dX6_books_129 : decode cX6_books 129 = .ok (.iaload, 1) := by decide +kernel
theorem dX6_books_130 : decode cX6_books 130 = .ok (.iconst 1, 1) := by decide +kernel
theorem dX6_books_131 : decode cX6_books 131 = .ok (.iadd, 1) := by decide +kernel
theorem dX6_books_132 : decode cX6_books 132 = .ok (.invokestatic 65, 3) := by decide +kernel
theorem dX6_books_135 : decode cX6_books 135 = .ok (.iastore, 1) := by decide +kernel
theorem dX6_books_136 : decode cX6_books 136 = .ok (.return_, 1) := by decide +kernel
theorem dX6_ticks_0 : decode cX6_ticks 0 = .ok (.iload_n 1, 1) := by decide +kernel
theorem dX6_ticks_1 : decode cX6_ticks 1 = .ok (.iconst 1, 1) := by decide +kernel
theorem dX6_ticks_2 : decode cX6_ticks 2 = .ok (.bipush 100, 2) := by decide +kernel
theorem dX6_ticks_4 : decode cX6_ticks 4 = .ok (.invokestatic 57, 3) := by decide +kernel
theorem dX6_ticks_7 : decode cX6_ticks 7 = .ok (.ifCond .ne 9, 3) := by decide +kernel
theorem dX6_ticks_10 : decode cX6_ticks 10 = .ok (.aload_n 0, 1) := by decide +kernel
theorem dX6_ticks_11 : decode cX6_ticks 11 = .ok (.iconst 0, 1) := by decide +kernel
theorem dX6_ticks_12 : decode cX6_ticks 12 = .ok (.invokevirtual 85, 3) := by decide +kernel
theorem dX6_ticks_15 : decode cX6_ticks 15 = .ok (.ireturn, 1) := by decide +kernel
theorem dX6_ticks_16 : decode cX6_ticks 16 = .ok (.iconst 0, 1) := by decide +kernel
theorem dX6_ticks_17 : decode cX6_ticks 17 = .ok (.istore_n 2, 1) := by decide +kernel
theorem dX6_ticks_18 : decode cX6_ticks 18 = .ok (.iload_n 2, 1) := by decide +kernel
theorem dX6_ticks_19 : decode cX6_ticks 19 = .ok (.iload_n 1, 1) := by decide +kernel
theorem dX6_ticks_20 : decode cX6_ticks 20 = .ok (.if_icmp .ge 13, 3) := by decide +kernel
theorem dX6_ticks_23 : decode cX6_ticks 23 = .ok (.aload_n 0, 1) := by decide +kernel
theorem dX6_ticks_24 : decode cX6_ticks 24 = .ok (.invokevirtual 140, 3) := by decide +kernel
theorem dX6_ticks_27 : decode cX6_ticks 27 = .ok (.iinc 2 1, 3) := by decide +kernel
theorem dX6_ticks_30 : decode cX6_ticks 30 = .ok (.goto (-12), 3) := by decide +kernel
theorem dX6_ticks_33 : decode cX6_ticks 33 = .ok (.aload_n 0, 1) := by decide +kernel
theorem dX6_ticks_34 : decode cX6_ticks 34 = .ok (.getfield 124, 3) := by decide +kernel
theorem dX6_ticks_37 : decode cX6_ticks 37 = .ok (.ireturn, 1) := by decide +kernel
theorem dX6_until_0 : decode cX6_until 0 = .ok (.iload_n 1, 1) := by decide +kernel
theorem dX6_until_1 : decode cX6_until 1 = .ok (.iconst 1, 1) := by decide +kernel
theorem dX6_until_2 : decode cX6_until 2 = .ok (.sipush 400, 3) := by decide +kernel
theorem dX6_until_5 : decode cX6_until 5 = .ok (.invokestatic 57, 3) := by decide +kernel
theorem dX6_until_8 : decode cX6_until 8 = .ok (.ifCond .eq 13, 3) := by decide +kernel
theorem dX6_until_11 : decode cX6_until 11 = .ok (.iload_n 2, 1) := by decide +kernel
theorem dX6_until_12 : decode cX6_until 12 = .ok (.iconst 1, 1) := by decide +kernel
theorem dX6_until_13 : decode cX6_until 13 = .ok (.bipush 100, 2) := by decide +kernel
theorem dX6_until_15 : decode cX6_until 15 = .ok (.invokestatic 57, 3) := by decide +kernel
theorem dX6_until_18 : decode cX6_until 18 = .ok (.ifCond .ne 9, 3) := by decide +kernel
theorem dX6_until_21 : decode cX6_until 21 = .ok (.aload_n 0, 1) := by decide +kernel
theorem dX6_until_22 : decode cX6_until 22 = .ok (.iconst 0, 1) := by decide +kernel
theorem dX6_until_23 : decode cX6_until 23 = .ok (.invokevirtual 85, 3) := by decide +kernel
theorem dX6_until_26 : decode cX6_until 26 = .ok (.ireturn, 1) := by decide +kernel
theorem dX6_until_27 : decode cX6_until 27 = .ok (.iconst 0, 1) := by decide +kernel
theorem dX6_until_28 : decode cX6_until 28 = .ok (.istore_n 3, 1) := by decide +kernel
theorem dX6_until_29 : decode cX6_until 29 = .ok (.iconst 1, 1) := by decide +kernel
theorem dX6_until_30 : decode cX6_until 30 = .ok (.istore 4, 2) := by decide +kernel
theorem dX6_until_32 : decode cX6_until 32 = .ok (.iload 4, 2) := by decide +kernel
theorem dX6_until_34 : decode cX6_until 34 = .ok (.ifCond .eq 33, 3) := by decide +kernel
theorem dX6_until_37 : decode cX6_until 37 = .ok (.iload_n 3, 1) := by decide +kernel
theorem dX6_until_38 : decode cX6_until 38 = .ok (.iload_n 2, 1) := by decide +kernel
theorem dX6_until_39 : decode cX6_until 39 = .ok (.if_icmp .ge 28, 3) := by decide +kernel
theorem dX6_until_42 : decode cX6_until 42 = .ok (.aload_n 0, 1) := by decide +kernel
theorem dX6_until_43 : decode cX6_until 43 = .ok (.invokevirtual 140, 3) := by decide +kernel
theorem dX6_until_46 : decode cX6_until 46 = .ok (.iinc 3 1, 3) := by decide +kernel
theorem dX6_until_49 : decode cX6_until 49 = .ok (.aload_n 0, 1) := by decide +kernel
theorem dX6_until_50 : decode cX6_until 50 = .ok (.getfield 124, 3) := by decide +kernel
theorem dX6_until_53 : decode cX6_until 53 = .ok (.iload_n 1, 1) := by decide +kernel
theorem dX6_until_54 : decode cX6_until 54 = .ok (.if_icmp .ge 7, 3) := by decide +kernel
theorem dX6_until_57 : decode cX6_until 57 = .ok (.iconst 1, 1) := by decide +kernel
theorem dX6_until_58 : decode cX6_until 58 = .ok (.goto 4, 3) := by decide +kernel
theorem dX6_until_61 : decode cX6_until 61 = .ok (.iconst 0, 1) := by decide +kernel
theorem dX6_until_62 : decode cX6_until 62 = .ok (.istore 4, 2) := by decide +kernel
theorem dX6_until_64 : decode cX6_until 64 = .ok (.goto (-32), 3) := by decide +kernel
theorem dX6_until_67 : decode cX6_until 67 = .ok (.iload_n 3, 1) := by decide +kernel
theorem dX6_until_68 : decode cX6_until 68 = .ok (.ireturn, 1) := by decide +kernel
theorem dX6_book_0 : decode cX6_book 0 = .ok (.iload_n 1, 1) := by decide +kernel
theorem dX6_book_1 : decode cX6_book 1 = .ok (.iconst 0, 1) := by decide +kernel
theorem dX6_book_2 : decode cX6_book 2 = .ok (.aload_n 0, 1) := by decide +kernel
theorem dX6_book_3 : decode cX6_book 3 = .ok (.getfield 9, 3) := by decide +kernel
theorem dX6_book_6 : decode cX6_book 6 = .ok (.bipush 13, 2) := by decide +kernel
theorem dX6_book_8 : decode cX6_book 8 = .ok (.iaload, 1) := by decide +kernel
theorem dX6_book_9 : decode cX6_book 9 = .ok (.iconst 1, 1) := by decide +kernel
theorem dX6_book_10 : decode cX6_book 10 = .ok (.isub, 1) := by decide +kernel
theorem dX6_book_11 : decode cX6_book 11 = .ok (.invokestatic 57, 3) := by decide +kernel
theorem dX6_book_14 : decode cX6_book 14 = .ok (.ifCond .eq 12, 3) := by decide +kernel
theorem dX6_book_17 : decode cX6_book 17 = .ok (.iload_n 2, 1) := by decide +kernel
theorem dX6_book_18 : decode cX6_book 18 = .ok (.iconst 0, 1) := by decide +kernel
theorem dX6_book_19 : decode cX6_book 19 = .ok (.iconst 2, 1) := by decide +kernel
theorem dX6_book_20 : decode cX6_book 20 = .ok (.invokestatic 57, 3) := by decide +kernel
theorem dX6_book_23 : decode cX6_book 23 = .ok (.ifCond .ne 9, 3) := by decide +kernel
theorem dX6_book_26 : decode cX6_book 26 = .ok (.aload_n 0, 1) := by decide +kernel
theorem dX6_book_27 : decode cX6_book 27 = .ok (.iconst 0, 1) := by decide +kernel
theorem dX6_book_28 : decode cX6_book 28 = .ok (.invokevirtual 85, 3) := by decide +kernel
theorem dX6_book_31 : decode cX6_book 31 = .ok (.ireturn, 1) := by decide +kernel
theorem dX6_book_32 : decode cX6_book 32 = .ok (.aload_n 0, 1) := by decide +kernel
theorem dX6_book_33 : decode cX6_book 33 = .ok (.getfield 9, 3) := by decide +kernel
theorem dX6_book_36 : decode cX6_book 36 = .ok (.sipush 148, 3) := by decide +kernel
theorem dX6_book_39 : decode cX6_book 39 = .ok (.bipush 100, 2) := by decide +kernel
theorem dX6_book_41 : decode cX6_book 41 = .ok (.iload_n 2, 1) := by decide +kernel
theorem dX6_book_42 : decode cX6_book 42 = .ok (.imul, 1) := by decide +kernel
theorem dX6_book_43 : decode cX6_book 43 = .ok (.iadd, 1) := by decide +kernel
theorem dX6_book_44 : decode cX6_book 44 = .ok (.iload_n 1, 1) := by decide +kernel
theorem dX6_book_45 : decode cX6_book 45 = .ok (.iadd, 1) := by decide +kernel
theorem dX6_book_46 : decode cX6_book 46 = .ok (.iaload, 1) := by decide +kernel
theorem dX6_book_47 : decode cX6_book 47 = .ok (.ireturn, 1) := by decide +kernel
theorem dX6_counts_0 : decode cX6_counts 0 = .ok (.iload_n 1, 1) := by decide +kernel
theorem dX6_counts_1 : decode cX6_counts 1 = .ok (.iconst 0, 1) := by decide +kernel
theorem dX6_counts_2 : decode cX6_counts 2 = .ok (.bipush 6, 2) := by decide +kernel
theorem dX6_counts_4 : decode cX6_counts 4 = .ok (.invokestatic 57, 3) := by decide +kernel
theorem dX6_counts_7 : decode cX6_counts 7 = .ok (.ifCond .eq 15, 3) := by decide +kernel
theorem dX6_counts_10 : decode cX6_counts 10 = .ok (.aload_n 0, 1) := by decide +kernel
theorem dX6_counts_11 : decode cX6_counts 11 = .ok (.getfield 9, 3) := by decide +kernel
theorem dX6_counts_14 : decode cX6_counts 14 = .ok (.bipush 6, 2) := by decide +kernel
theorem dX6_counts_16 : decode cX6_counts 16 = .ok (.iload_n 1, 1) := by decide +kernel
theorem dX6_counts_17 : decode cX6_counts 17 = .ok (.iadd, 1) := by decide +kernel
theorem dX6_counts_18 : decode cX6_counts 18 = .ok (.iaload, 1) := by decide +kernel
theorem dX6_counts_19 : decode cX6_counts 19 = .ok (.goto 8, 3) := by decide +kernel
theorem dX6_counts_22 : decode cX6_counts 22 = .ok (.aload_n 0, 1) := by decide +kernel
theorem dX6_counts_23 : decode cX6_counts 23 = .ok (.iconst 0, 1) := by decide +kernel
theorem dX6_counts_24 : decode cX6_counts 24 = .ok (.invokevirtual 85, 3) := by decide +kernel
theorem dX6_counts_27 : decode cX6_counts 27 = .ok (.ireturn, 1) := by decide +kernel
theorem dX6_power_0 : decode cX6_power 0 = .ok (.iconst 1, 1) := by decide +kernel
theorem dX6_power_1 : decode cX6_power 1 = .ok (.istore_n 1, 1) := by decide +kernel
theorem dX6_power_2 : decode cX6_power 2 = .ok (.iconst 2, 1) := by decide +kernel
theorem dX6_power_3 : decode cX6_power 3 = .ok (.istore_n 2, 1) := by decide +kernel
theorem dX6_power_4 : decode cX6_power 4 = .ok (.iload_n 2, 1) := by decide +kernel
theorem dX6_power_5 : decode cX6_power 5 = .ok (.bipush 6, 2) := by decide +kernel
theorem dX6_power_7 : decode cX6_power 7 = .ok (.if_icmp .gt 42, 3) := by decide +kernel
theorem dX6_power_10 : decode cX6_power 10 = .ok (.iload_n 1, 1) := by decide +kernel
theorem dX6_power_11 : decode cX6_power 11 = .ok (.ifCond .eq 30, 3) := by decide +kernel
theorem dX6_power_14 : decode cX6_power 14 = .ok (.aload_n 0, 1) := by decide +kernel
theorem dX6_power_15 : decode cX6_power 15 = .ok (.getfield 9, 3) := by decide +kernel
theorem dX6_power_18 : decode cX6_power 18 = .ok (.bipush 6, 2) := by decide +kernel
theorem dX6_power_20 : decode cX6_power 20 = .ok (.iload_n 2, 1) := by decide +kernel
theorem dX6_power_21 : decode cX6_power 21 = .ok (.iadd, 1) := by decide +kernel
theorem dX6_power_22 : decode cX6_power 22 = .ok (.iaload, 1) := by decide +kernel
theorem dX6_power_23 : decode cX6_power 23 = .ok (.aload_n 0, 1) := by decide +kernel
theorem dX6_power_24 : decode cX6_power 24 = .ok (.getfield 9, 3) := by decide +kernel
theorem dX6_power_27 : decode cX6_power 27 = .ok (.bipush 6, 2) := by decide +kernel
theorem dX6_power_29 : decode cX6_power 29 = .ok (.iload_n 2, 1) := by decide +kernel
theorem dX6_power_30 : decode cX6_power 30 = .ok (.iadd, 1) := by decide +kernel
theorem dX6_power_31 : decode cX6_power 31 = .ok (.iconst 1, 1) := by decide +kernel
theorem dX6_power_32 : decode cX6_power 32 = .ok (.isub, 1) := by decide +kernel
theorem dX6_power_33 : decode cX6_power 33 = .ok (.iaload, 1) := by decide +kernel
theorem dX6_power_34 : decode cX6_power 34 = .ok (.if_icmp .gt 7, 3) := by decide +kernel
theorem dX6_power_37 : decode cX6_power 37 = .ok (.iconst 1, 1) := by decide +kernel
theorem dX6_power_38 : decode cX6_power 38 = .ok (.goto 4, 3) := by decide +kernel
theorem dX6_power_41 : decode cX6_power 41 = .ok (.iconst 0, 1) := by decide +kernel
theorem dX6_power_42 : decode cX6_power 42 = .ok (.istore_n 1, 1) := by decide +kernel
theorem dX6_power_43 : decode cX6_power 43 = .ok (.iinc 2 1, 3) := by decide +kernel
theorem dX6_power_46 : decode cX6_power 46 = .ok (.goto (-42), 3) := by decide +kernel
theorem dX6_power_49 : decode cX6_power 49 = .ok (.iload_n 1, 1) := by decide +kernel
theorem dX6_power_50 : decode cX6_power 50 = .ok (.ifCond .eq 7, 3) := by decide +kernel
theorem dX6_power_53 : decode cX6_power 53 = .ok (.iconst 1, 1) := by decide +kernel
theorem dX6_power_54 : decode cX6_power 54 = .ok (.goto 4, 3) := by decide +kernel
theorem dX6_power_57 : decode cX6_power 57 = .ok (.iconst 0, 1) := by decide +kernel
theorem dX6_power_58 : decode cX6_power 58 = .ok (.ireturn, 1) := by decide +kernel
theorem dX6_tone_0 : decode cX6_tone 0 = .ok (.iconst (-1), 1) := by decide +kernel
theorem dX6_tone_1 : decode cX6_tone 1 = .ok (.istore_n 1, 1) := by decide +kernel
theorem dX6_tone_2 : decode cX6_tone 2 = .ok (.iconst 0, 1) := by decide +kernel
theorem dX6_tone_3 : decode cX6_tone 3 = .ok (.istore_n 2, 1) := by decide +kernel
theorem dX6_tone_4 : decode cX6_tone 4 = .ok (.iload_n 2, 1) := by decide +kernel
theorem dX6_tone_5 : decode cX6_tone 5 = .ok (.aload_n 0, 1) := by decide +kernel
theorem dX6_tone_6 : decode cX6_tone 6 = .ok (.getfield 9, 3) := by decide +kernel
theorem dX6_tone_9 : decode cX6_tone 9 = .ok (.bipush 13, 2) := by decide +kernel
theorem dX6_tone_11 : decode cX6_tone 11 = .ok (.iaload, 1) := by decide +kernel
theorem dX6_tone_12 : decode cX6_tone 12 = .ok (.if_icmp .ge 32, 3) := by decide +kernel
theorem dX6_tone_15 : decode cX6_tone 15 = .ok (.aload_n 0, 1) := by decide +kernel
theorem dX6_tone_16 : decode cX6_tone 16 = .ok (.getfield 9, 3) := by decide +kernel
theorem dX6_tone_19 : decode cX6_tone 19 = .ok (.sipush 148, 3) := by decide +kernel
theorem dX6_tone_22 : decode cX6_tone 22 = .ok (.iload_n 2, 1) := by decide +kernel
theorem dX6_tone_23 : decode cX6_tone 23 = .ok (.iadd, 1) := by decide +kernel
theorem dX6_tone_24 : decode cX6_tone 24 = .ok (.iaload, 1) := by decide +kernel
theorem dX6_tone_25 : decode cX6_tone 25 = .ok (.ifCond .le 13, 3) := by decide +kernel
theorem dX6_tone_28 : decode cX6_tone 28 = .ok (.iload_n 1, 1) := by decide +kernel
theorem dX6_tone_29 : decode cX6_tone 29 = .ok (.ifCond .lt 7, 3) := by decide +kernel
theorem dX6_tone_32 : decode cX6_tone 32 = .ok (.iload_n 2, 1) := by decide +kernel
theorem dX6_tone_33 : decode cX6_tone 33 = .ok (.iload_n 1, 1) := by decide +kernel
theorem dX6_tone_34 : decode cX6_tone 34 = .ok (.isub, 1) := by decide +kernel
theorem dX6_tone_35 : decode cX6_tone 35 = .ok (.ireturn, 1) := by decide +kernel
theorem dX6_tone_36 : decode cX6_tone 36 = .ok (.iload_n 2, 1) := by decide +kernel
theorem dX6_tone_37 : decode cX6_tone 37 = .ok (.istore_n 1, 1) := by decide +kernel
theorem dX6_tone_38 : decode cX6_tone 38 = .ok (.iinc 2 1, 3) := by decide +kernel
theorem dX6_tone_41 : decode cX6_tone 41 = .ok (.goto (-37), 3) := by decide +kernel
theorem dX6_tone_44 : decode cX6_tone 44 = .ok (.aload_n 0, 1) := by decide +kernel
theorem dX6_tone_45 : decode cX6_tone 45 = .ok (.iconst 3, 1) := by decide +kernel
theorem dX6_tone_46 : decode cX6_tone 46 = .ok (.invokevirtual 85, 3) := by decide +kernel
theorem dX6_tone_49 : decode cX6_tone 49 = .ok (.ireturn, 1) := by decide +kernel
theorem dX6_great_0 : decode cX6_great 0 = .ok (.iload_n 1, 1) := by decide +kernel
theorem dX6_great_1 : decode cX6_great 1 = .ok (.iconst 1, 1) := by decide +kernel
theorem dX6_great_2 : decode cX6_great 2 = .ok (.sipush 400, 3) := by decide +kernel
theorem dX6_great_5 : decode cX6_great 5 = .ok (.invokestatic 57, 3) := by decide +kernel
theorem dX6_great_8 : decode cX6_great 8 = .ok (.ifCond .eq 12, 3) := by decide +kernel
theorem dX6_great_11 : decode cX6_great 11 = .ok (.iload_n 2, 1) := by decide +kernel
theorem dX6_great_12 : decode cX6_great 12 = .ok (.iconst 0, 1) := by decide +kernel
theorem dX6_great_13 : decode cX6_great 13 = .ok (.iconst 1, 1) := by decide +kernel
theorem dX6_great_14 : decode cX6_great 14 = .ok (.invokestatic 57, 3) := by decide +kernel
theorem dX6_great_17 : decode cX6_great 17 = .ok (.ifCond .ne 9, 3) := by decide +kernel
theorem dX6_great_20 : decode cX6_great 20 = .ok (.aload_n 0, 1) := by decide +kernel
theorem dX6_great_21 : decode cX6_great 21 = .ok (.iconst 0, 1) := by decide +kernel
theorem dX6_great_22 : decode cX6_great 22 = .ok (.invokevirtual 85, 3) := by decide +kernel
theorem dX6_great_25 : decode cX6_great 25 = .ok (.ireturn, 1) := by decide +kernel
theorem dX6_great_26 : decode cX6_great 26 = .ok (.iconst 0, 1) := by decide +kernel
theorem dX6_great_27 : decode cX6_great 27 = .ok (.istore_n 3, 1) := by decide +kernel
theorem dX6_great_28 : decode cX6_great 28 = .ok (.iconst 0, 1) := by decide +kernel
theorem dX6_great_29 : decode cX6_great 29 = .ok (.istore 4, 2) := by decide +kernel
theorem dX6_great_31 : decode cX6_great 31 = .ok (.iload 4, 2) := by decide +kernel
theorem dX6_great_33 : decode cX6_great 33 = .ok (.aload_n 0, 1) := by decide +kernel
theorem dX6_great_34 : decode cX6_great 34 = .ok (.getfield 9, 3) := by decide +kernel
theorem dX6_great_37 : decode cX6_great 37 = .ok (.bipush 13, 2) := by decide +kernel
theorem dX6_great_39 : decode cX6_great 39 = .ok (.iaload, 1) := by decide +kernel
theorem dX6_great_40 : decode cX6_great 40 = .ok (.if_icmp .ge 90, 3) := by decide +kernel
theorem dX6_great_43 : decode cX6_great 43 = .ok (.aload_n 0, 1) := by decide +kernel
theorem dX6_great_44 : decode cX6_great 44 = .ok (.getfield 9, 3) := by decide +kernel
theorem dX6_great_47 : decode cX6_great 47 = .ok (.sipush 148, 3) := by decide +kernel
theorem dX6_great_50 : decode cX6_great 50 = .ok (.iload 4, 2) := by decide +kernel
theorem dX6_great_52 : decode cX6_great 52 = .ok (.iadd, 1) := by decide +kernel
theorem dX6_great_53 : decode cX6_great 53 = .ok (.iaload, 1) := by decide +kernel
theorem dX6_great_54 : decode cX6_great 54 = .ok (.iload_n 1, 1) := by decide +kernel
theorem dX6_great_55 : decode cX6_great 55 = .ok (.if_icmp .lt 7, 3) := by decide +kernel
theorem dX6_great_58 : decode cX6_great 58 = .ok (.iconst 1, 1) := by decide +kernel
theorem dX6_great_59 : decode cX6_great 59 = .ok (.goto 4, 3) := by decide +kernel
theorem dX6_great_62 : decode cX6_great 62 = .ok (.iconst 0, 1) := by decide +kernel
theorem dX6_great_63 : decode cX6_great 63 = .ok (.istore 5, 2) := by decide +kernel
theorem dX6_great_65 : decode cX6_great 65 = .ok (.iload 4, 2) := by decide +kernel
theorem dX6_great_67 : decode cX6_great 67 = .ok (.iconst 1, 1) := by decide +kernel
theorem dX6_great_68 : decode cX6_great 68 = .ok (.iadd, 1) := by decide +kernel
theorem dX6_great_69 : decode cX6_great 69 = .ok (.aload_n 0, 1) := by decide +kernel
theorem dX6_great_70 : decode cX6_great 70 = .ok (.getfield 9, 3) := by decide +kernel
theorem dX6_great_73 : decode cX6_great 73 = .ok (.bipush 13, 2) := by decide +kernel
theorem dX6_great_75 : decode cX6_great 75 = .ok (.iaload, 1) := by decide +kernel
theorem dX6_great_76 : decode cX6_great 76 = .ok (.if_icmp .ge 23, 3) := by decide +kernel
theorem dX6_great_79 : decode cX6_great 79 = .ok (.aload_n 0, 1) := by decide +kernel
theorem dX6_great_80 : decode cX6_great 80 = .ok (.getfield 9, 3) := by decide +kernel
theorem dX6_great_83 : decode cX6_great 83 = .ok (.sipush 148, 3) := by decide +kernel
theorem dX6_great_86 : decode cX6_great 86 = .ok (.iload 4, 2) := by decide +kernel
theorem dX6_great_88 : decode cX6_great 88 = .ok (.iadd, 1) := by decide +kernel
theorem dX6_great_89 : decode cX6_great 89 = .ok (.iconst 1, 1) := by decide +kernel
theorem dX6_great_90 : decode cX6_great 90 = .ok (.iadd, 1) := by decide +kernel
theorem dX6_great_91 : decode cX6_great 91 = .ok (.iaload, 1) := by decide +kernel
theorem dX6_great_92 : decode cX6_great 92 = .ok (.ifCond .le 7, 3) := by decide +kernel
theorem dX6_great_95 : decode cX6_great 95 = .ok (.iconst 1, 1) := by decide +kernel
theorem dX6_great_96 : decode cX6_great 96 = .ok (.goto 4, 3) := by decide +kernel
theorem dX6_great_99 : decode cX6_great 99 = .ok (.iconst 0, 1) := by decide +kernel
theorem dX6_great_100 : decode cX6_great 100 = .ok (.istore 6, 2) := by decide +kernel
theorem dX6_great_102 : decode cX6_great 102 = .ok (.iload_n 3, 1) := by decide +kernel
theorem dX6_great_103 : decode cX6_great 103 = .ok (.iload 5, 2) := by decide +kernel
theorem dX6_great_105 : decode cX6_great 105 = .ok (.ifCond .eq 16, 3) := by decide +kernel
theorem dX6_great_108 : decode cX6_great 108 = .ok (.iload_n 2, 1) := by decide +kernel
theorem dX6_great_109 : decode cX6_great 109 = .ok (.ifCond .eq 8, 3) := by decide +kernel
theorem dX6_great_112 : decode cX6_great 112 = .ok (.iload 6, 2) := by decide +kernel
theorem dX6_great_114 : decode cX6_great 114 = .ok (.ifCond .eq 7, 3) := by decide +kernel
theorem dX6_great_117 : decode cX6_great 117 = .ok (.iconst 1, 1) := by decide +kernel
theorem dX6_great_118 : decode cX6_great 118 = .ok (.goto 4, 3) := by decide +kernel
theorem dX6_great_121 : decode cX6_great 121 = .ok (.iconst 0, 1) := by decide +kernel
theorem dX6_great_122 : decode cX6_great 122 = .ok (.iadd, 1) := by decide +kernel
theorem dX6_great_123 : decode cX6_great 123 = .ok (.istore_n 3, 1) := by decide +kernel
theorem dX6_great_124 : decode cX6_great 124 = .ok (.iinc 4 1, 3) := by decide +kernel
theorem dX6_great_127 : decode cX6_great 127 = .ok (.goto (-96), 3) := by decide +kernel
theorem dX6_great_130 : decode cX6_great 130 = .ok (.iload_n 3, 1) := by decide +kernel
theorem dX6_great_131 : decode cX6_great 131 = .ok (.ireturn, 1) := by decide +kernel
theorem dX6_noise_0 : decode cX6_noise 0 = .ok (.aload_n 0, 1) := by decide +kernel
theorem dX6_noise_1 : decode cX6_noise 1 = .ok (.iload_n 1, 1) := by decide +kernel
theorem dX6_noise_2 : decode cX6_noise 2 = .ok (.invokevirtual 92, 3) := by decide +kernel
theorem dX6_noise_5 : decode cX6_noise 5 = .ok (.ifCond .ne 10, 3) := by decide +kernel
theorem dX6_noise_8 : decode cX6_noise 8 = .ok (.aload_n 0, 1) := by decide +kernel
theorem dX6_noise_9 : decode cX6_noise 9 = .ok (.iconst 0, 1) := by decide +kernel
theorem dX6_noise_10 : decode cX6_noise 10 = .ok (.invokevirtual 85, 3) := by decide +kernel
theorem dX6_noise_13 : decode cX6_noise 13 = .ok (.i2l, 1) := by decide +kernel
theorem dX6_noise_14 : decode cX6_noise 14 = .ok (.lreturn, 1) := by decide +kernel
theorem dX6_noise_15 : decode cX6_noise 15 = .ok (.lconst 0, 1) := by decide +kernel
theorem dX6_noise_16 : decode cX6_noise 16 = .ok (.lstore_n 2, 1) := by decide +kernel
theorem dX6_noise_17 : decode cX6_noise 17 = .ok (.iconst 0, 1) := by decide +kernel
theorem dX6_noise_18 : decode cX6_noise 18 = .ok (.istore 4, 2) := by decide +kernel
theorem dX6_noise_20 : decode cX6_noise 20 = .ok (.iload 4, 2) := by decide +kernel
theorem dX6_noise_22 : decode cX6_noise 22 = .ok (.aload_n 0, 1) := by decide +kernel
theorem dX6_noise_23 : decode cX6_noise 23 = .ok (.getfield 9, 3) := by decide +kernel
theorem dX6_noise_26 : decode cX6_noise 26 = .ok (.bipush 13, 2) := by decide +kernel
theorem dX6_noise_28 : decode cX6_noise 28 = .ok (.iaload, 1) := by decide +kernel
theorem dX6_noise_29 : decode cX6_noise 29 = .ok (.if_icmp .ge 47, 3) := by decide +kernel
theorem dX6_noise_32 : decode cX6_noise 32 = .ok (.lload_n 2, 1) := by decide +kernel
theorem dX6_noise_33 : decode cX6_noise 33 = .ok (.aload_n 0, 1) := by decide +kernel
theorem dX6_noise_34 : decode cX6_noise 34 = .ok (.getfield 9, 3) := by decide +kernel
theorem dX6_noise_37 : decode cX6_noise 37 = .ok (.sipush 248, 3) := by decide +kernel
theorem dX6_noise_40 : decode cX6_noise 40 = .ok (.iload 4, 2) := by decide +kernel
theorem dX6_noise_42 : decode cX6_noise 42 = .ok (.iadd, 1) := by decide +kernel
theorem dX6_noise_43 : decode cX6_noise 43 = .ok (.iaload, 1) := by decide +kernel
theorem dX6_noise_44 : decode cX6_noise 44 = .ok (.iload_n 1, 1) := by decide +kernel
theorem dX6_noise_45 : decode cX6_noise 45 = .ok (.ishr, 1) := by decide +kernel
theorem dX6_noise_46 : decode cX6_noise 46 = .ok (.iconst 1, 1) := by decide +kernel
theorem dX6_noise_47 : decode cX6_noise 47 = .ok (.iand, 1) := by decide +kernel
theorem dX6_noise_48 : decode cX6_noise 48 = .ok (.iconst 1, 1) := by decide +kernel
theorem dX6_noise_49 : decode cX6_noise 49 = .ok (.if_icmp .ne 18, 3) := by decide +kernel
theorem dX6_noise_52 : decode cX6_noise 52 = .ok (.aload_n 0, 1) := by decide +kernel
theorem dX6_noise_53 : decode cX6_noise 53 = .ok (.getfield 9, 3) := by decide +kernel
theorem dX6_noise_56 : decode cX6_noise 56 = .ok (.sipush 348, 3) := by decide +kernel
theorem dX6_noise_59 : decode cX6_noise 59 = .ok (.iload 4, 2) := by decide +kernel
theorem dX6_noise_61 : decode cX6_noise 61 = .ok (.iadd, 1) := by decide +kernel
theorem dX6_noise_62 : decode cX6_noise 62 = .ok (.iaload, 1) := by decide +kernel
theorem dX6_noise_63 : decode cX6_noise 63 = .ok (.i2l, 1) := by decide +kernel
theorem dX6_noise_64 : decode cX6_noise 64 = .ok (.goto 4, 3) := by decide +kernel
theorem dX6_noise_67 : decode cX6_noise 67 = .ok (.lconst 0, 1) := by decide +kernel
theorem dX6_noise_68 : decode cX6_noise 68 = .ok (.ladd, 1) := by decide +kernel
theorem dX6_noise_69 : decode cX6_noise 69 = .ok (.lstore_n 2, 1) := by decide +kernel
theorem dX6_noise_70 : decode cX6_noise 70 = .ok (.iinc 4 1, 3) := by decide +kernel
theorem dX6_noise_73 : decode cX6_noise 73 = .ok (.goto (-53), 3) := by decide +kernel
theorem dX6_noise_76 : decode cX6_noise 76 = .ok (.lload_n 2, 1) := by decide +kernel
theorem dX6_noise_77 : decode cX6_noise 77 = .ok (.lreturn, 1) := by decide +kernel
theorem dX6_lay_0 : decode cX6_lay 0 = .ok (.iconst 0, 1) := by decide +kernel
theorem dX6_lay_1 : decode cX6_lay 1 = .ok (.istore_n 2, 1) := by decide +kernel
theorem dX6_lay_2 : decode cX6_lay 2 = .ok (.iload_n 2, 1) := by decide +kernel
theorem dX6_lay_3 : decode cX6_lay 3 = .ok (.sipush 448, 3) := by decide +kernel
theorem dX6_lay_6 : decode cX6_lay 6 = .ok (.if_icmp .ge 15, 3) := by decide +kernel
theorem dX6_lay_9 : decode cX6_lay 9 = .ok (.aload_n 1, 1) := by decide +kernel
theorem dX6_lay_10 : decode cX6_lay 10 = .ok (.iload_n 2, 1) := by decide +kernel
theorem dX6_lay_11 : decode cX6_lay 11 = .ok (.aload_n 0, 1) := by decide +kernel
theorem dX6_lay_12 : decode cX6_lay 12 = .ok (.iload_n 2, 1) := by decide +kernel
theorem dX6_lay_13 : decode cX6_lay 13 = .ok (.iaload, 1) := by decide +kernel
theorem dX6_lay_14 : decode cX6_lay 14 = .ok (.iastore, 1) := by decide +kernel
theorem dX6_lay_15 : decode cX6_lay 15 = .ok (.iinc 2 1, 3) := by decide +kernel
theorem dX6_lay_18 : decode cX6_lay 18 = .ok (.goto (-16), 3) := by decide +kernel
theorem dX6_lay_21 : decode cX6_lay 21 = .ok (.return_, 1) := by decide +kernel
theorem dX6_goes_0 : decode cX6_goes 0 = .ok (.aload_n 0, 1) := by decide +kernel
theorem dX6_goes_1 : decode cX6_goes 1 = .ok (.iconst 0, 1) := by decide +kernel
theorem dX6_goes_2 : decode cX6_goes 2 = .ok (.putfield 143, 3) := by decide +kernel
theorem dX6_goes_5 : decode cX6_goes 5 = .ok (.iconst 0, 1) := by decide +kernel
theorem dX6_goes_6 : decode cX6_goes 6 = .ok (.istore_n 2, 1) := by decide +kernel
theorem dX6_goes_7 : decode cX6_goes 7 = .ok (.iload_n 2, 1) := by decide +kernel
theorem dX6_goes_8 : decode cX6_goes 8 = .ok (.iload_n 1, 1) := by decide +kernel
theorem dX6_goes_9 : decode cX6_goes 9 = .ok (.if_icmp .ge 46, 3) := by decide +kernel
theorem dX6_goes_12 : decode cX6_goes 12 = .ok (.aload_n 0, 1) := by decide +kernel
theorem dX6_goes_13 : decode cX6_goes 13 = .ok (.invokevirtual 140, 3) := by decide +kernel
theorem dX6_goes_16 : decode cX6_goes 16 = .ok (.aload_n 0, 1) := by decide +kernel
theorem dX6_goes_17 : decode cX6_goes 17 = .ok (.getfield 31, 3) := by decide +kernel
theorem dX6_goes_20 : decode cX6_goes 20 = .ok (.iload_n 2, 1) := by decide +kernel
theorem dX6_goes_21 : decode cX6_goes 21 = .ok (.aload_n 0, 1) := by decide +kernel
theorem dX6_goes_22 : decode cX6_goes 22 = .ok (.getfield 124, 3) := by decide +kernel
theorem dX6_goes_25 : decode cX6_goes 25 = .ok (.iastore, 1) := by decide +kernel
theorem dX6_goes_26 : decode cX6_goes 26 = .ok (.aload_n 0, 1) := by decide +kernel
theorem dX6_goes_27 : decode cX6_goes 27 = .ok (.getfield 34, 3) := by decide +kernel
theorem dX6_goes_30 : decode cX6_goes 30 = .ok (.iload_n 2, 1) := by decide +kernel
theorem dX6_goes_31 : decode cX6_goes 31 = .ok (.aload_n 0, 1) := by decide +kernel
theorem dX6_goes_32 : decode cX6_goes 32 = .ok (.getfield 108, 3) := by decide +kernel
theorem dX6_goes_35 : decode cX6_goes 35 = .ok (.iastore, 1) := by decide +kernel
theorem dX6_goes_36 : decode cX6_goes 36 = .ok (.aload_n 0, 1) := by decide +kernel
theorem dX6_goes_37 : decode cX6_goes 37 = .ok (.dup, 1) := by decide +kernel
theorem dX6_goes_38 : decode cX6_goes 38 = .ok (.getfield 143, 3) := by decide +kernel
theorem dX6_goes_41 : decode cX6_goes 41 = .ok (.aload_n 0, 1) := by decide +kernel
theorem dX6_goes_42 : decode cX6_goes 42 = .ok (.getfield 127, 3) := by decide +kernel
theorem dX6_goes_45 : decode cX6_goes 45 = .ok (.iadd, 1) := by decide +kernel
theorem dX6_goes_46 : decode cX6_goes 46 = .ok (.putfield 143, 3) := by decide +kernel
theorem dX6_goes_49 : decode cX6_goes 49 = .ok (.iinc 2 1, 3) := by decide +kernel
theorem dX6_goes_52 : decode cX6_goes 52 = .ok (.goto (-45), 3) := by decide +kernel
theorem dX6_goes_55 : decode cX6_goes 55 = .ok (.return_, 1) := by decide +kernel
theorem dX6_isAhead_0 : decode cX6_isAhead 0 = .ok (.iload_n 0, 1) := by decide +kernel
theorem dX6_isAhead_1 : decode cX6_isAhead 1 = .ok (.iconst 1, 1) := by decide +kernel
theorem dX6_isAhead_2 : decode cX6_isAhead 2 = .ok (.bipush 60, 2) := by decide +kernel
theorem dX6_isAhead_4 : decode cX6_isAhead 4 = .ok (.invokestatic 57, 3) := by decide +kernel
theorem dX6_isAhead_7 : decode cX6_isAhead 7 = .ok (.ireturn, 1) := by decide +kernel
theorem dX6_jumps_0 : decode cX6_jumps 0 = .ok (.iconst 0, 1) := by decide +kernel
theorem dX6_jumps_1 : decode cX6_jumps 1 = .ok (.istore_n 2, 1) := by decide +kernel
theorem dX6_jumps_2 : decode cX6_jumps 2 = .ok (.iconst 0, 1) := by decide +kernel
theorem dX6_jumps_3 : decode cX6_jumps 3 = .ok (.istore_n 3, 1) := by decide +kernel
theorem dX6_jumps_4 : decode cX6_jumps 4 = .ok (.iload_n 3, 1) := by decide +kernel
theorem dX6_jumps_5 : decode cX6_jumps 5 = .ok (.iload_n 1, 1) := by decide +kernel
theorem dX6_jumps_6 : decode cX6_jumps 6 = .ok (.if_icmp .ge 26, 3) := by decide +kernel
theorem dX6_jumps_9 : decode cX6_jumps 9 = .ok (.iload_n 2, 1) := by decide +kernel
theorem dX6_jumps_10 : decode cX6_jumps 10 = .ok (.aload_n 0, 1) := by decide +kernel
theorem dX6_jumps_11 : decode cX6_jumps 11 = .ok (.getfield 31, 3) := by decide +kernel
theorem dX6_jumps_14 : decode cX6_jumps 14 = .ok (.iload_n 3, 1) := by decide +kernel
theorem dX6_jumps_15 : decode cX6_jumps 15 = .ok (.iaload, 1) := by decide +kernel
theorem dX6_jumps_16 : decode cX6_jumps 16 = .ok (.ifCond .le 7, 3) := by decide +kernel
theorem dX6_jumps_19 : decode cX6_jumps 19 = .ok (.iconst 1, 1) := by decide +kernel
theorem dX6_jumps_20 : decode cX6_jumps 20 = .ok (.goto 4, 3) := by decide +kernel
theorem dX6_jumps_23 : decode cX6_jumps 23 = .ok (.iconst 0, 1) := by decide +kernel
theorem dX6_jumps_24 : decode cX6_jumps 24 = .ok (.iadd, 1) := by decide +kernel
theorem dX6_jumps_25 : decode cX6_jumps 25 = .ok (.istore_n 2, 1) := by decide +kernel
theorem dX6_jumps_26 : decode cX6_jumps 26 = .ok (.iinc 3 1, 3) := by decide +kernel
theorem dX6_jumps_29 : decode cX6_jumps 29 = .ok (.goto (-25), 3) := by decide +kernel
theorem dX6_jumps_32 : decode cX6_jumps 32 = .ok (.iload_n 2, 1) := by decide +kernel
theorem dX6_jumps_33 : decode cX6_jumps 33 = .ok (.ireturn, 1) := by decide +kernel
theorem dX6_greatest_0 : decode cX6_greatest 0 = .ok (.iconst 0, 1) := by decide +kernel
theorem dX6_greatest_1 : decode cX6_greatest 1 = .ok (.istore_n 2, 1) := by decide +kernel
theorem dX6_greatest_2 : decode cX6_greatest 2 = .ok (.iconst 0, 1) := by decide +kernel
theorem dX6_greatest_3 : decode cX6_greatest 3 = .ok (.istore_n 3, 1) := by decide +kernel
theorem dX6_greatest_4 : decode cX6_greatest 4 = .ok (.iload_n 3, 1) := by decide +kernel
theorem dX6_greatest_5 : decode cX6_greatest 5 = .ok (.iload_n 1, 1) := by decide +kernel
theorem dX6_greatest_6 : decode cX6_greatest 6 = .ok (.if_icmp .ge 20, 3) := by decide +kernel
theorem dX6_greatest_9 : decode cX6_greatest 9 = .ok (.iload_n 2, 1) := by decide +kernel
theorem dX6_greatest_10 : decode cX6_greatest 10 = .ok (.aload_n 0, 1) := by decide +kernel
theorem dX6_greatest_11 : decode cX6_greatest 11 = .ok (.getfield 31, 3) := by decide +kernel
theorem dX6_greatest_14 : decode cX6_greatest 14 = .ok (.iload_n 3, 1) := by decide +kernel
theorem dX6_greatest_15 : decode cX6_greatest 15 = .ok (.iaload, 1) := by decide +kernel
theorem dX6_greatest_16 : decode cX6_greatest 16 = .ok (.invokestatic 71, 3) := by decide +kernel
theorem dX6_greatest_19 : decode cX6_greatest 19 = .ok (.istore_n 2, 1) := by decide +kernel
theorem dX6_greatest_20 : decode cX6_greatest 20 = .ok (.iinc 3 1, 3) := by decide +kernel
theorem dX6_greatest_23 : decode cX6_greatest 23 = .ok (.goto (-19), 3) := by decide +kernel
theorem dX6_greatest_26 : decode cX6_greatest 26 = .ok (.iload_n 2, 1) := by decide +kernel
theorem dX6_greatest_27 : decode cX6_greatest 27 = .ok (.ireturn, 1) := by decide +kernel
theorem dX6_ahead_0 : decode cX6_ahead 0 = .ok (.iload_n 1, 1) := by decide +kernel
theorem dX6_ahead_1 : decode cX6_ahead 1 = .ok (.invokestatic 146, 3) := by decide +kernel
theorem dX6_ahead_4 : decode cX6_ahead 4 = .ok (.ifCond .eq 19, 3) := by decide +kernel
theorem dX6_ahead_7 : decode cX6_ahead 7 = .ok (.iload_n 2, 1) := by decide +kernel
theorem dX6_ahead_8 : decode cX6_ahead 8 = .ok (.iconst 0, 1) := by decide +kernel
theorem dX6_ahead_9 : decode cX6_ahead 9 = .ok (.iconst 3, 1) := by decide +kernel
theorem dX6_ahead_10 : decode cX6_ahead 10 = .ok (.aload_n 0, 1) := by decide +kernel
theorem dX6_ahead_11 : decode cX6_ahead 11 = .ok (.getfield 9, 3) := by decide +kernel
theorem dX6_ahead_14 : decode cX6_ahead 14 = .ok (.iconst 0, 1) := by decide +kernel
theorem dX6_ahead_15 : decode cX6_ahead 15 = .ok (.iaload, 1) := by decide +kernel
theorem dX6_ahead_16 : decode cX6_ahead 16 = .ok (.iadd, 1) := by decide +kernel
theorem dX6_ahead_17 : decode cX6_ahead 17 = .ok (.invokestatic 57, 3) := by decide +kernel
theorem dX6_ahead_20 : decode cX6_ahead 20 = .ok (.ifCond .ne 9, 3) := by decide +kernel
theorem dX6_ahead_23 : decode cX6_ahead 23 = .ok (.aload_n 0, 1) := by decide +kernel
theorem dX6_ahead_24 : decode cX6_ahead 24 = .ok (.iconst 0, 1) := by decide +kernel
theorem dX6_ahead_25 : decode cX6_ahead 25 = .ok (.invokevirtual 85, 3) := by decide +kernel
theorem dX6_ahead_28 : decode cX6_ahead 28 = .ok (.ireturn, 1) := by decide +kernel
theorem dX6_ahead_29 : decode cX6_ahead 29 = .ok (.aload_n 0, 1) := by decide +kernel
theorem dX6_ahead_30 : decode cX6_ahead 30 = .ok (.getfield 9, 3) := by decide +kernel
theorem dX6_ahead_33 : decode cX6_ahead 33 = .ok (.aload_n 0, 1) := by decide +kernel
theorem dX6_ahead_34 : decode cX6_ahead 34 = .ok (.getfield 16, 3) := by decide +kernel
theorem dX6_ahead_37 : decode cX6_ahead 37 = .ok (.invokestatic 149, 3) := by decide +kernel
theorem dX6_ahead_40 : decode cX6_ahead 40 = .ok (.aload_n 0, 1) := by decide +kernel
theorem dX6_ahead_41 : decode cX6_ahead 41 = .ok (.iload_n 1, 1) := by decide +kernel
theorem dX6_ahead_42 : decode cX6_ahead 42 = .ok (.invokevirtual 153, 3) := by decide +kernel
theorem dX6_ahead_45 : decode cX6_ahead 45 = .ok (.iload_n 2, 1) := by decide +kernel
theorem dX6_ahead_46 : decode cX6_ahead 46 = .ok (.iconst 3, 1) := by decide +kernel
theorem dX6_ahead_47 : decode cX6_ahead 47 = .ok (.if_icmp .le 14, 3) := by decide +kernel
theorem dX6_ahead_50 : decode cX6_ahead 50 = .ok (.aload_n 0, 1) := by decide +kernel
theorem dX6_ahead_51 : decode cX6_ahead 51 = .ok (.iload_n 2, 1) := by decide +kernel
theorem dX6_ahead_52 : decode cX6_ahead 52 = .ok (.iconst 4, 1) := by decide +kernel
theorem dX6_ahead_53 : decode cX6_ahead 53 = .ok (.isub, 1) := by decide +kernel
theorem dX6_ahead_54 : decode cX6_ahead 54 = .ok (.iconst 5, 1) := by decide +kernel
theorem dX6_ahead_55 : decode cX6_ahead 55 = .ok (.invokevirtual 61, 3) := by decide +kernel
theorem dX6_ahead_58 : decode cX6_ahead 58 = .ok (.goto 4, 3) := by decide +kernel
theorem dX6_ahead_61 : decode cX6_ahead 61 = .ok (.iconst 0, 1) := by decide +kernel
theorem dX6_ahead_62 : decode cX6_ahead 62 = .ok (.istore_n 3, 1) := by decide +kernel
theorem dX6_ahead_63 : decode cX6_ahead 63 = .ok (.aload_n 0, 1) := by decide +kernel
theorem dX6_ahead_64 : decode cX6_ahead 64 = .ok (.getfield 16, 3) := by decide +kernel
theorem dX6_ahead_67 : decode cX6_ahead 67 = .ok (.aload_n 0, 1) := by decide +kernel
theorem dX6_ahead_68 : decode cX6_ahead 68 = .ok (.getfield 9, 3) := by decide +kernel
theorem dX6_ahead_71 : decode cX6_ahead 71 = .ok (.invokestatic 149, 3) := by decide +kernel
theorem dX6_ahead_74 : decode cX6_ahead 74 = .ok (.iload_n 2, 1) := by decide +kernel
theorem dX6_ahead_75 : decode cX6_ahead 75 = .ok (.tableswitch 61 0 3 #[29, 35, 50, 56], 29) := by decide +kernel
theorem dX6_ahead_104 : decode cX6_ahead 104 = .ok (.aload_n 0, 1) := by decide +kernel
theorem dX6_ahead_105 : decode cX6_ahead 105 = .ok (.iload_n 1, 1) := by decide +kernel
theorem dX6_ahead_106 : decode cX6_ahead 106 = .ok (.invokevirtual 157, 3) := by decide +kernel
theorem dX6_ahead_109 : decode cX6_ahead 109 = .ok (.ireturn, 1) := by decide +kernel
theorem dX6_ahead_110 : decode cX6_ahead 110 = .ok (.aload_n 0, 1) := by decide +kernel
theorem dX6_ahead_111 : decode cX6_ahead 111 = .ok (.iload_n 1, 1) := by decide +kernel
theorem dX6_ahead_112 : decode cX6_ahead 112 = .ok (.invokevirtual 157, 3) := by decide +kernel
theorem dX6_ahead_115 : decode cX6_ahead 115 = .ok (.iload_n 1, 1) := by decide +kernel
theorem dX6_ahead_116 : decode cX6_ahead 116 = .ok (.if_icmp .ne 7, 3) := by decide +kernel
theorem dX6_ahead_119 : decode cX6_ahead 119 = .ok (.iconst 1, 1) := by decide +kernel
theorem dX6_ahead_120 : decode cX6_ahead 120 = .ok (.goto 4, 3) := by decide +kernel
theorem dX6_ahead_123 : decode cX6_ahead 123 = .ok (.iconst 0, 1) := by decide +kernel
theorem dX6_ahead_124 : decode cX6_ahead 124 = .ok (.ireturn, 1) := by decide +kernel
theorem dX6_ahead_125 : decode cX6_ahead 125 = .ok (.aload_n 0, 1) := by decide +kernel
theorem dX6_ahead_126 : decode cX6_ahead 126 = .ok (.iload_n 1, 1) := by decide +kernel
theorem dX6_ahead_127 : decode cX6_ahead 127 = .ok (.invokevirtual 160, 3) := by decide +kernel
theorem dX6_ahead_130 : decode cX6_ahead 130 = .ok (.ireturn, 1) := by decide +kernel
theorem dX6_ahead_131 : decode cX6_ahead 131 = .ok (.aload_n 0, 1) := by decide +kernel
theorem dX6_ahead_132 : decode cX6_ahead 132 = .ok (.getfield 143, 3) := by decide +kernel
theorem dX6_ahead_135 : decode cX6_ahead 135 = .ok (.ireturn, 1) := by decide +kernel
theorem dX6_ahead_136 : decode cX6_ahead 136 = .ok (.iload_n 3, 1) := by decide +kernel
theorem dX6_ahead_137 : decode cX6_ahead 137 = .ok (.ireturn, 1) := by decide +kernel
theorem dX6_isSo_0 : decode cX6_isSo 0 = .ok (.aload_n 0, 1) := by decide +kernel
theorem dX6_isSo_1 : decode cX6_isSo 1 = .ok (.getfield 9, 3) := by decide +kernel
theorem dX6_isSo_4 : decode cX6_isSo 4 = .ok (.aload_n 0, 1) := by decide +kernel
theorem dX6_isSo_5 : decode cX6_isSo 5 = .ok (.getfield 16, 3) := by decide +kernel
theorem dX6_isSo_8 : decode cX6_isSo 8 = .ok (.invokestatic 149, 3) := by decide +kernel
theorem dX6_isSo_11 : decode cX6_isSo 11 = .ok (.aload_n 0, 1) := by decide +kernel
theorem dX6_isSo_12 : decode cX6_isSo 12 = .ok (.getfield 9, 3) := by decide +kernel
theorem dX6_isSo_15 : decode cX6_isSo 15 = .ok (.iload_n 2, 1) := by decide +kernel
theorem dX6_isSo_16 : decode cX6_isSo 16 = .ok (.iload_n 3, 1) := by decide +kernel
theorem dX6_isSo_17 : decode cX6_isSo 17 = .ok (.iastore, 1) := by decide +kernel
theorem dX6_isSo_18 : decode cX6_isSo 18 = .ok (.aload_n 0, 1) := by decide +kernel
theorem dX6_isSo_19 : decode cX6_isSo 19 = .ok (.iload_n 1, 1) := by decide +kernel
theorem dX6_isSo_20 : decode cX6_isSo 20 = .ok (.invokevirtual 153, 3) := by decide +kernel
theorem dX6_isSo_23 : decode cX6_isSo 23 = .ok (.aload_n 0, 1) := by decide +kernel
theorem dX6_isSo_24 : decode cX6_isSo 24 = .ok (.getfield 16, 3) := by decide +kernel
theorem dX6_isSo_27 : decode cX6_isSo 27 = .ok (.aload_n 0, 1) := by decide +kernel
theorem dX6_isSo_28 : decode cX6_isSo 28 = .ok (.getfield 9, 3) := by decide +kernel
theorem dX6_isSo_31 : decode cX6_isSo 31 = .ok (.invokestatic 149, 3) := by decide +kernel
theorem dX6_isSo_34 : decode cX6_isSo 34 = .ok (.iload 4, 2) := by decide +kernel
theorem dX6_isSo_36 : decode cX6_isSo 36 = .ok (.ifCond .ne 20, 3) := by decide +kernel
theorem dX6_isSo_39 : decode cX6_isSo 39 = .ok (.aload_n 0, 1) := by decide +kernel
theorem dX6_isSo_40 : decode cX6_isSo 40 = .ok (.iload_n 1, 1) := by decide +kernel
theorem dX6_isSo_41 : decode cX6_isSo 41 = .ok (.invokevirtual 157, 3) := by decide +kernel
theorem dX6_isSo_44 : decode cX6_isSo 44 = .ok (.iload_n 1, 1) := by decide +kernel
theorem dX6_isSo_45 : decode cX6_isSo 45 = .ok (.if_icmp .ne 7, 3) := by decide +kernel
theorem dX6_isSo_48 : decode cX6_isSo 48 = .ok (.iconst 1, 1) := by decide +kernel
theorem dX6_isSo_49 : decode cX6_isSo 49 = .ok (.goto 22, 3) := by decide +kernel
theorem dX6_isSo_52 : decode cX6_isSo 52 = .ok (.iconst 0, 1) := by decide +kernel
theorem dX6_isSo_53 : decode cX6_isSo 53 = .ok (.goto 18, 3) := by decide +kernel
theorem dX6_isSo_56 : decode cX6_isSo 56 = .ok (.aload_n 0, 1) := by decide +kernel
theorem dX6_isSo_57 : decode cX6_isSo 57 = .ok (.iload_n 1, 1) := by decide +kernel
theorem dX6_isSo_58 : decode cX6_isSo 58 = .ok (.invokevirtual 160, 3) := by decide +kernel
theorem dX6_isSo_61 : decode cX6_isSo 61 = .ok (.iload 5, 2) := by decide +kernel
theorem dX6_isSo_63 : decode cX6_isSo 63 = .ok (.if_icmp .gt 7, 3) := by decide +kernel
theorem dX6_isSo_66 : decode cX6_isSo 66 = .ok (.iconst 1, 1) := by decide +kernel
theorem dX6_isSo_67 : decode cX6_isSo 67 = .ok (.goto 4, 3) := by decide +kernel
theorem dX6_isSo_70 : decode cX6_isSo 70 = .ok (.iconst 0, 1) := by decide +kernel
theorem dX6_isSo_71 : decode cX6_isSo 71 = .ok (.ireturn, 1) := by decide +kernel
theorem dX6_leastSo_0 : decode cX6_leastSo 0 = .ok (.iconst 0, 1) := by decide +kernel
theorem dX6_leastSo_1 : decode cX6_leastSo 1 = .ok (.istore 5, 2) := by decide +kernel
theorem dX6_leastSo_3 : decode cX6_leastSo 3 = .ok (.iload 5, 2) := by decide +kernel
theorem dX6_leastSo_5 : decode cX6_leastSo 5 = .ok (.bipush 99, 2) := by decide +kernel
theorem dX6_leastSo_7 : decode cX6_leastSo 7 = .ok (.if_icmp .gt 23, 3) := by decide +kernel
theorem dX6_leastSo_10 : decode cX6_leastSo 10 = .ok (.aload_n 0, 1) := by decide +kernel
theorem dX6_leastSo_11 : decode cX6_leastSo 11 = .ok (.iload_n 1, 1) := by decide +kernel
theorem dX6_leastSo_12 : decode cX6_leastSo 12 = .ok (.iload_n 2, 1) := by decide +kernel
theorem dX6_leastSo_13 : decode cX6_leastSo 13 = .ok (.iload 5, 2) := by decide +kernel
theorem dX6_leastSo_15 : decode cX6_leastSo 15 = .ok (.iload_n 3, 1) := by decide +kernel
theorem dX6_leastSo_16 : decode cX6_leastSo 16 = .ok (.iload 4, 2) := by decide +kernel
theorem dX6_leastSo_18 : decode cX6_leastSo 18 = .ok (.invokevirtual 163, 3) := by decide +kernel
theorem dX6_leastSo_21 : decode cX6_leastSo 21 = .ok (.ifCond .ne 9, 3) := by decide +kernel
theorem dX6_leastSo_24 : decode cX6_leastSo 24 = .ok (.iinc 5 1, 3) := by decide +kernel
theorem dX6_leastSo_27 : decode cX6_leastSo 27 = .ok (.goto (-24), 3) := by decide +kernel
theorem dX6_leastSo_30 : decode cX6_leastSo 30 = .ok (.iload 5, 2) := by decide +kernel
theorem dX6_leastSo_32 : decode cX6_leastSo 32 = .ok (.bipush 99, 2) := by decide +kernel
theorem dX6_leastSo_34 : decode cX6_leastSo 34 = .ok (.if_icmp .gt 8, 3) := by decide +kernel
theorem dX6_leastSo_37 : decode cX6_leastSo 37 = .ok (.iload 5, 2) := by decide +kernel
theorem dX6_leastSo_39 : decode cX6_leastSo 39 = .ok (.goto 8, 3) := by decide +kernel
theorem dX6_leastSo_42 : decode cX6_leastSo 42 = .ok (.aload_n 0, 1) := by decide +kernel
theorem dX6_leastSo_43 : decode cX6_leastSo 43 = .ok (.iconst 3, 1) := by decide +kernel
theorem dX6_leastSo_44 : decode cX6_leastSo 44 = .ok (.invokevirtual 85, 3) := by decide +kernel
theorem dX6_leastSo_47 : decode cX6_leastSo 47 = .ok (.ireturn, 1) := by decide +kernel
theorem dX6_from_0 : decode cX6_from 0 = .ok (.iload_n 1, 1) := by decide +kernel
theorem dX6_from_1 : decode cX6_from 1 = .ok (.invokestatic 146, 3) := by decide +kernel
theorem dX6_from_4 : decode cX6_from 4 = .ok (.ifCond .eq 14, 3) := by decide +kernel
theorem dX6_from_7 : decode cX6_from 7 = .ok (.aload_n 0, 1) := by decide +kernel
theorem dX6_from_8 : decode cX6_from 8 = .ok (.iload_n 1, 1) := by decide +kernel
theorem dX6_from_9 : decode cX6_from 9 = .ok (.iconst 2, 1) := by decide +kernel
theorem dX6_from_10 : decode cX6_from 10 = .ok (.iconst 0, 1) := by decide +kernel
theorem dX6_from_11 : decode cX6_from 11 = .ok (.iconst 0, 1) := by decide +kernel
theorem dX6_from_12 : decode cX6_from 12 = .ok (.invokevirtual 167, 3) := by decide +kernel
theorem dX6_from_15 : decode cX6_from 15 = .ok (.goto 8, 3) := by decide +kernel
theorem dX6_from_18 : decode cX6_from 18 = .ok (.aload_n 0, 1) := by decide +kernel
theorem dX6_from_19 : decode cX6_from 19 = .ok (.iconst 0, 1) := by decide +kernel
theorem dX6_from_20 : decode cX6_from 20 = .ok (.invokevirtual 85, 3) := by decide +kernel
theorem dX6_from_23 : decode cX6_from 23 = .ok (.ireturn, 1) := by decide +kernel
theorem dX6_still_0 : decode cX6_still 0 = .ok (.aload_n 0, 1) := by decide +kernel
theorem dX6_still_1 : decode cX6_still 1 = .ok (.iload_n 1, 1) := by decide +kernel
theorem dX6_still_2 : decode cX6_still 2 = .ok (.invokevirtual 92, 3) := by decide +kernel
theorem dX6_still_5 : decode cX6_still 5 = .ok (.ifCond .eq 21, 3) := by decide +kernel
theorem dX6_still_8 : decode cX6_still 8 = .ok (.iload_n 2, 1) := by decide +kernel
theorem dX6_still_9 : decode cX6_still 9 = .ok (.invokestatic 146, 3) := by decide +kernel
theorem dX6_still_12 : decode cX6_still 12 = .ok (.ifCond .eq 14, 3) := by decide +kernel
theorem dX6_still_15 : decode cX6_still 15 = .ok (.iload_n 3, 1) := by decide +kernel
theorem dX6_still_16 : decode cX6_still 16 = .ok (.iconst 0, 1) := by decide +kernel
theorem dX6_still_17 : decode cX6_still 17 = .ok (.sipush 400, 3) := by decide +kernel
theorem dX6_still_20 : decode cX6_still 20 = .ok (.invokestatic 57, 3) := by decide +kernel
theorem dX6_still_23 : decode cX6_still 23 = .ok (.ifCond .ne 9, 3) := by decide +kernel
theorem dX6_still_26 : decode cX6_still 26 = .ok (.aload_n 0, 1) := by decide +kernel
theorem dX6_still_27 : decode cX6_still 27 = .ok (.iconst 0, 1) := by decide +kernel
theorem dX6_still_28 : decode cX6_still 28 = .ok (.invokevirtual 85, 3) := by decide +kernel
theorem dX6_still_31 : decode cX6_still 31 = .ok (.ireturn, 1) := by decide +kernel
theorem dX6_still_32 : decode cX6_still 32 = .ok (.aload_n 0, 1) := by decide +kernel
theorem dX6_still_33 : decode cX6_still 33 = .ok (.iload_n 2, 1) := by decide +kernel
theorem dX6_still_34 : decode cX6_still 34 = .ok (.bipush 78, 2) := by decide +kernel
theorem dX6_still_36 : decode cX6_still 36 = .ok (.bipush 7, 2) := by decide +kernel
theorem dX6_still_38 : decode cX6_still 38 = .ok (.iload_n 1, 1) := by decide +kernel
theorem dX6_still_39 : decode cX6_still 39 = .ok (.imul, 1) := by decide +kernel
theorem dX6_still_40 : decode cX6_still 40 = .ok (.iadd, 1) := by decide +kernel
theorem dX6_still_41 : decode cX6_still 41 = .ok (.iconst 4, 1) := by decide +kernel
theorem dX6_still_42 : decode cX6_still 42 = .ok (.iadd, 1) := by decide +kernel
theorem dX6_still_43 : decode cX6_still 43 = .ok (.iconst 1, 1) := by decide +kernel
theorem dX6_still_44 : decode cX6_still 44 = .ok (.iload_n 3, 1) := by decide +kernel
theorem dX6_still_45 : decode cX6_still 45 = .ok (.invokevirtual 167, 3) := by decide +kernel
theorem dX6_still_48 : decode cX6_still 48 = .ok (.ireturn, 1) := by decide +kernel
theorem dX6_gives_0 : decode cX6_gives 0 = .ok (.aload_n 0, 1) := by decide +kernel
theorem dX6_gives_1 : decode cX6_gives 1 = .ok (.iload_n 3, 1) := by decide +kernel
theorem dX6_gives_2 : decode cX6_gives 2 = .ok (.invokevirtual 171, 3) := by decide +kernel
theorem dX6_gives_5 : decode cX6_gives 5 = .ok (.istore 4, 2) := by decide +kernel
theorem dX6_gives_7 : decode cX6_gives 7 = .ok (.iconst 1, 1) := by decide +kernel
theorem dX6_gives_8 : decode cX6_gives 8 = .ok (.istore 5, 2) := by decide +kernel
theorem dX6_gives_10 : decode cX6_gives 10 = .ok (.aload_n 0, 1) := by decide +kernel
theorem dX6_gives_11 : decode cX6_gives 11 = .ok (.getfield 9, 3) := by decide +kernel
theorem dX6_gives_14 : decode cX6_gives 14 = .ok (.aload_n 0, 1) := by decide +kernel
theorem dX6_gives_15 : decode cX6_gives 15 = .ok (.getfield 16, 3) := by decide +kernel
theorem dX6_gives_18 : decode cX6_gives 18 = .ok (.invokestatic 149, 3) := by decide +kernel
theorem dX6_gives_21 : decode cX6_gives 21 = .ok (.aload_n 0, 1) := by decide +kernel
theorem dX6_gives_22 : decode cX6_gives 22 = .ok (.iload_n 1, 1) := by decide +kernel
theorem dX6_gives_23 : decode cX6_gives 23 = .ok (.iconst 0, 1) := by decide +kernel
theorem dX6_gives_24 : decode cX6_gives 24 = .ok (.iload_n 2, 1) := by decide +kernel
theorem dX6_gives_25 : decode cX6_gives 25 = .ok (.invokevirtual 88, 3) := by decide +kernel
theorem dX6_gives_28 : decode cX6_gives 28 = .ok (.pop, 1) := by decide +kernel
theorem dX6_gives_29 : decode cX6_gives 29 = .ok (.iconst 0, 1) := by decide +kernel
theorem dX6_gives_30 : decode cX6_gives 30 = .ok (.istore 6, 2) := by decide +kernel
theorem dX6_gives_32 : decode cX6_gives 32 = .ok (.iload 6, 2) := by decide +kernel
theorem dX6_gives_34 : decode cX6_gives 34 = .ok (.iload 4, 2) := by decide +kernel
theorem dX6_gives_36 : decode cX6_gives 36 = .ok (.if_icmp .ge 46, 3) := by decide +kernel
theorem dX6_gives_39 : decode cX6_gives 39 = .ok (.iload 5, 2) := by decide +kernel
theorem dX6_gives_41 : decode cX6_gives 41 = .ok (.ifCond .eq 41, 3) := by decide +kernel
theorem dX6_gives_44 : decode cX6_gives 44 = .ok (.aload_n 0, 1) := by decide +kernel
theorem dX6_gives_45 : decode cX6_gives 45 = .ok (.invokevirtual 140, 3) := by decide +kernel
theorem dX6_gives_48 : decode cX6_gives 48 = .ok (.aload_n 0, 1) := by decide +kernel
theorem dX6_gives_49 : decode cX6_gives 49 = .ok (.getfield 49, 3) := by decide +kernel
theorem dX6_gives_52 : decode cX6_gives 52 = .ok (.bipush 40, 2) := by decide +kernel
theorem dX6_gives_54 : decode cX6_gives 54 = .ok (.iload_n 3, 1) := by decide +kernel
theorem dX6_gives_55 : decode cX6_gives 55 = .ok (.imul, 1) := by decide +kernel
theorem dX6_gives_56 : decode cX6_gives 56 = .ok (.iload 6, 2) := by decide +kernel
theorem dX6_gives_58 : decode cX6_gives 58 = .ok (.iadd, 1) := by decide +kernel
theorem dX6_gives_59 : decode cX6_gives 59 = .ok (.laload, 1) := by decide +kernel
theorem dX6_gives_60 : decode cX6_gives 60 = .ok (.aload_n 0, 1) := by decide +kernel
theorem dX6_gives_61 : decode cX6_gives 61 = .ok (.getfield 124, 3) := by decide +kernel
theorem dX6_gives_64 : decode cX6_gives 64 = .ok (.i2l, 1) := by decide +kernel
theorem dX6_gives_65 : decode cX6_gives 65 = .ok (.lcmp, 1) := by decide +kernel
theorem dX6_gives_66 : decode cX6_gives 66 = .ok (.ifCond .ne 7, 3) := by decide +kernel
theorem dX6_gives_69 : decode cX6_gives 69 = .ok (.iconst 1, 1) := by decide +kernel
theorem dX6_gives_70 : decode cX6_gives 70 = .ok (.goto 4, 3) := by decide +kernel
theorem dX6_gives_73 : decode cX6_gives 73 = .ok (.iconst 0, 1) := by decide +kernel
theorem dX6_gives_74 : decode cX6_gives 74 = .ok (.istore 5, 2) := by decide +kernel
theorem dX6_gives_76 : decode cX6_gives 76 = .ok (.iinc 6 1, 3) := by decide +kernel
theorem dX6_gives_79 : decode cX6_gives 79 = .ok (.goto (-47), 3) := by decide +kernel
theorem dX6_gives_82 : decode cX6_gives 82 = .ok (.aload_n 0, 1) := by decide +kernel
theorem dX6_gives_83 : decode cX6_gives 83 = .ok (.getfield 16, 3) := by decide +kernel
theorem dX6_gives_86 : decode cX6_gives 86 = .ok (.aload_n 0, 1) := by decide +kernel
theorem dX6_gives_87 : decode cX6_gives 87 = .ok (.getfield 9, 3) := by decide +kernel
theorem dX6_gives_90 : decode cX6_gives 90 = .ok (.invokestatic 149, 3) := by decide +kernel
theorem dX6_gives_93 : decode cX6_gives 93 = .ok (.iload 5, 2) := by decide +kernel
theorem dX6_gives_95 : decode cX6_gives 95 = .ok (.ireturn, 1) := by decide +kernel
theorem dX6_which_0 : decode cX6_which 0 = .ok (.aload_n 0, 1) := by decide +kernel
theorem dX6_which_1 : decode cX6_which 1 = .ok (.iload_n 1, 1) := by decide +kernel
theorem dX6_which_2 : decode cX6_which 2 = .ok (.invokevirtual 92, 3) := by decide +kernel
theorem dX6_which_5 : decode cX6_which 5 = .ok (.ifCond .eq 10, 3) := by decide +kernel
theorem dX6_which_8 : decode cX6_which 8 = .ok (.iload_n 2, 1) := by decide +kernel
theorem dX6_which_9 : decode cX6_which 9 = .ok (.invokestatic 174, 3) := by decide +kernel
theorem dX6_which_12 : decode cX6_which 12 = .ok (.ifCond .ne 9, 3) := by decide +kernel
theorem dX6_which_15 : decode cX6_which 15 = .ok (.aload_n 0, 1) := by decide +kernel
theorem dX6_which_16 : decode cX6_which 16 = .ok (.iconst 0, 1) := by decide +kernel
theorem dX6_which_17 : decode cX6_which 17 = .ok (.invokevirtual 85, 3) := by decide +kernel
theorem dX6_which_20 : decode cX6_which 20 = .ok (.ireturn, 1) := by decide +kernel
theorem dX6_which_21 : decode cX6_which 21 = .ok (.aload_n 0, 1) := by decide +kernel
theorem dX6_which_22 : decode cX6_which 22 = .ok (.getfield 43, 3) := by decide +kernel
theorem dX6_which_25 : decode cX6_which 25 = .ok (.iload_n 2, 1) := by decide +kernel
theorem dX6_which_26 : decode cX6_which 26 = .ok (.iaload, 1) := by decide +kernel
theorem dX6_which_27 : decode cX6_which 27 = .ok (.ifCond .ne 9, 3) := by decide +kernel
theorem dX6_which_30 : decode cX6_which 30 = .ok (.aload_n 0, 1) := by decide +kernel
theorem dX6_which_31 : decode cX6_which 31 = .ok (.iconst 5, 1) := by decide +kernel
theorem dX6_which_32 : decode cX6_which 32 = .ok (.invokevirtual 85, 3) := by decide +kernel
theorem dX6_which_35 : decode cX6_which 35 = .ok (.ireturn, 1) := by decide +kernel
theorem dX6_which_36 : decode cX6_which 36 = .ok (.aload_n 0, 1) := by decide +kernel
theorem dX6_which_37 : decode cX6_which 37 = .ok (.iload_n 2, 1) := by decide +kernel
theorem dX6_which_38 : decode cX6_which 38 = .ok (.invokevirtual 171, 3) := by decide +kernel
theorem dX6_which_41 : decode cX6_which 41 = .ok (.ifCond .ne 10, 3) := by decide +kernel
theorem dX6_which_44 : decode cX6_which 44 = .ok (.aload_n 0, 1) := by decide +kernel
theorem dX6_which_45 : decode cX6_which 45 = .ok (.bipush 6, 2) := by decide +kernel
theorem dX6_which_47 : decode cX6_which 47 = .ok (.invokevirtual 85, 3) := by decide +kernel
theorem dX6_which_50 : decode cX6_which 50 = .ok (.ireturn, 1) := by decide +kernel
theorem dX6_which_51 : decode cX6_which 51 = .ok (.iconst 0, 1) := by decide +kernel
theorem dX6_which_52 : decode cX6_which 52 = .ok (.istore_n 3, 1) := by decide +kernel
theorem dX6_which_53 : decode cX6_which 53 = .ok (.iconst 0, 1) := by decide +kernel
theorem dX6_which_54 : decode cX6_which 54 = .ok (.istore 4, 2) := by decide +kernel
theorem dX6_which_56 : decode cX6_which 56 = .ok (.iload 4, 2) := by decide +kernel
theorem dX6_which_58 : decode cX6_which 58 = .ok (.iconst 5, 1) := by decide +kernel
theorem dX6_which_59 : decode cX6_which 59 = .ok (.if_icmp .gt 31, 3) := by decide +kernel
theorem dX6_which_62 : decode cX6_which 62 = .ok (.iload_n 3, 1) := by decide +kernel
theorem dX6_which_63 : decode cX6_which 63 = .ok (.aload_n 0, 1) := by decide +kernel
theorem dX6_which_64 : decode cX6_which 64 = .ok (.iload_n 1, 1) := by decide +kernel
theorem dX6_which_65 : decode cX6_which 65 = .ok (.iload 4, 2) := by decide +kernel
theorem dX6_which_67 : decode cX6_which 67 = .ok (.iload_n 2, 1) := by decide +kernel
theorem dX6_which_68 : decode cX6_which 68 = .ok (.invokevirtual 177, 3) := by decide +kernel
theorem dX6_which_71 : decode cX6_which 71 = .ok (.ifCond .eq 10, 3) := by decide +kernel
theorem dX6_which_74 : decode cX6_which 74 = .ok (.iconst 1, 1) := by decide +kernel
theorem dX6_which_75 : decode cX6_which 75 = .ok (.iload 4, 2) := by decide +kernel
theorem dX6_which_77 : decode cX6_which 77 = .ok (.ishl, 1) := by decide +kernel
theorem dX6_which_78 : decode cX6_which 78 = .ok (.goto 4, 3) := by decide +kernel
theorem dX6_which_81 : decode cX6_which 81 = .ok (.iconst 0, 1) := by decide +kernel
theorem dX6_which_82 : decode cX6_which 82 = .ok (.ior, 1) := by decide +kernel
theorem dX6_which_83 : decode cX6_which 83 = .ok (.istore_n 3, 1) := by decide +kernel
theorem dX6_which_84 : decode cX6_which 84 = .ok (.iinc 4 1, 3) := by decide +kernel
theorem dX6_which_87 : decode cX6_which 87 = .ok (.goto (-31), 3) := by decide +kernel
theorem dX6_which_90 : decode cX6_which 90 = .ok (.iload_n 3, 1) := by decide +kernel
theorem dX6_which_91 : decode cX6_which 91 = .ok (.ireturn, 1) := by decide +kernel
theorem dX6_together_0 : decode cX6_together 0 = .ok (.aload_n 0, 1) := by decide +kernel
theorem dX6_together_1 : decode cX6_together 1 = .ok (.iload_n 1, 1) := by decide +kernel
theorem dX6_together_2 : decode cX6_together 2 = .ok (.invokevirtual 92, 3) := by decide +kernel
theorem dX6_together_5 : decode cX6_together 5 = .ok (.ifCond .eq 23, 3) := by decide +kernel
theorem dX6_together_8 : decode cX6_together 8 = .ok (.aload_n 0, 1) := by decide +kernel
theorem dX6_together_9 : decode cX6_together 9 = .ok (.iload_n 2, 1) := by decide +kernel
theorem dX6_together_10 : decode cX6_together 10 = .ok (.invokevirtual 92, 3) := by decide +kernel
theorem dX6_together_13 : decode cX6_together 13 = .ok (.ifCond .eq 15, 3) := by decide +kernel
theorem dX6_together_16 : decode cX6_together 16 = .ok (.iload_n 1, 1) := by decide +kernel
theorem dX6_together_17 : decode cX6_together 17 = .ok (.iload_n 2, 1) := by decide +kernel
theorem dX6_together_18 : decode cX6_together 18 = .ok (.if_icmp .eq 10, 3) := by decide +kernel
theorem dX6_together_21 : decode cX6_together 21 = .ok (.iload_n 3, 1) := by decide +kernel
theorem dX6_together_22 : decode cX6_together 22 = .ok (.invokestatic 146, 3) := by decide +kernel
theorem dX6_together_25 : decode cX6_together 25 = .ok (.ifCond .ne 9, 3) := by decide +kernel
theorem dX6_together_28 : decode cX6_together 28 = .ok (.aload_n 0, 1) := by decide +kernel
theorem dX6_together_29 : decode cX6_together 29 = .ok (.iconst 0, 1) := by decide +kernel
theorem dX6_together_30 : decode cX6_together 30 = .ok (.invokevirtual 85, 3) := by decide +kernel
theorem dX6_together_33 : decode cX6_together 33 = .ok (.ireturn, 1) := by decide +kernel
theorem dX6_together_34 : decode cX6_together 34 = .ok (.aload_n 0, 1) := by decide +kernel
theorem dX6_together_35 : decode cX6_together 35 = .ok (.getfield 9, 3) := by decide +kernel
theorem dX6_together_38 : decode cX6_together 38 = .ok (.aload_n 0, 1) := by decide +kernel
theorem dX6_together_39 : decode cX6_together 39 = .ok (.getfield 16, 3) := by decide +kernel
theorem dX6_together_42 : decode cX6_together 42 = .ok (.invokestatic 149, 3) := by decide +kernel
theorem dX6_together_45 : decode cX6_together 45 = .ok (.aload_n 0, 1) := by decide +kernel
theorem dX6_together_46 : decode cX6_together 46 = .ok (.iload_n 3, 1) := by decide +kernel
theorem dX6_together_47 : decode cX6_together 47 = .ok (.invokevirtual 153, 3) := by decide +kernel
theorem dX6_together_50 : decode cX6_together 50 = .ok (.aload_n 0, 1) := by decide +kernel
theorem dX6_together_51 : decode cX6_together 51 = .ok (.getfield 16, 3) := by decide +kernel
theorem dX6_together_54 : decode cX6_together 54 = .ok (.aload_n 0, 1) := by decide +kernel
theorem dX6_together_55 : decode cX6_together 55 = .ok (.getfield 9, 3) := by decide +kernel
theorem dX6_together_58 : decode cX6_together 58 = .ok (.invokestatic 149, 3) := by decide +kernel
theorem dX6_together_61 : decode cX6_together 61 = .ok (.iconst 0, 1) := by decide +kernel
theorem dX6_together_62 : decode cX6_together 62 = .ok (.istore 4, 2) := by decide +kernel
theorem dX6_together_64 : decode cX6_together 64 = .ok (.iconst 0, 1) := by decide +kernel
theorem dX6_together_65 : decode cX6_together 65 = .ok (.istore 5, 2) := by decide +kernel
theorem dX6_together_67 : decode cX6_together 67 = .ok (.iload 5, 2) := by decide +kernel
theorem dX6_together_69 : decode cX6_together 69 = .ok (.iload_n 3, 1) := by decide +kernel
theorem dX6_together_70 : decode cX6_together 70 = .ok (.if_icmp .ge 35, 3) := by decide +kernel
theorem dX6_together_73 : decode cX6_together 73 = .ok (.iload 4, 2) := by decide +kernel
theorem dX6_together_75 : decode cX6_together 75 = .ok (.aload_n 0, 1) := by decide +kernel
theorem dX6_together_76 : decode cX6_together 76 = .ok (.getfield 34, 3) := by decide +kernel
theorem dX6_together_79 : decode cX6_together 79 = .ok (.iload 5, 2) := by decide +kernel
theorem dX6_together_81 : decode cX6_together 81 = .ok (.iaload, 1) := by decide +kernel
theorem dX6_together_82 : decode cX6_together 82 = .ok (.iload_n 1, 1) := by decide +kernel
theorem dX6_together_83 : decode cX6_together 83 = .ok (.ishr, 1) := by decide +kernel
theorem dX6_together_84 : decode cX6_together 84 = .ok (.aload_n 0, 1) := by decide +kernel
theorem dX6_together_85 : decode cX6_together 85 = .ok (.getfield 34, 3) := by decide +kernel
theorem dX6_together_88 : decode cX6_together 88 = .ok (.iload 5, 2) := by decide +kernel
theorem dX6_together_90 : decode cX6_together 90 = .ok (.iaload, 1) := by decide +kernel
theorem dX6_together_91 : decode cX6_together 91 = .ok (.iload_n 2, 1) := by decide +kernel
theorem dX6_together_92 : decode cX6_together 92 = .ok (.ishr, 1) := by decide +kernel
theorem dX6_together_93 : decode cX6_together 93 = .ok (.iand, 1) := by decide +kernel
theorem dX6_together_94 : decode cX6_together 94 = .ok (.iconst 1, 1) := by decide +kernel
theorem dX6_together_95 : decode cX6_together 95 = .ok (.iand, 1) := by decide +kernel
theorem dX6_together_96 : decode cX6_together 96 = .ok (.iadd, 1) := by decide +kernel
theorem dX6_together_97 : decode cX6_together 97 = .ok (.istore 4, 2) := by decide +kernel
theorem dX6_together_99 : decode cX6_together 99 = .ok (.iinc 5 1, 3) := by decide +kernel
theorem dX6_together_102 : decode cX6_together 102 = .ok (.goto (-35), 3) := by decide +kernel
theorem dX6_together_105 : decode cX6_together 105 = .ok (.iload 4, 2) := by decide +kernel
theorem dX6_together_107 : decode cX6_together 107 = .ok (.ireturn, 1) := by decide +kernel
theorem dX6_byteAt_0 : decode cX6_byteAt 0 = .ok (.aload_n 0, 1) := by decide +kernel
theorem dX6_byteAt_1 : decode cX6_byteAt 1 = .ok (.getfield 180, 3) := by decide +kernel
theorem dX6_byteAt_4 : decode cX6_byteAt 4 = .ok (.aload_n 0, 1) := by decide +kernel
theorem dX6_byteAt_5 : decode cX6_byteAt 5 = .ok (.getfield 183, 3) := by decide +kernel
theorem dX6_byteAt_8 : decode cX6_byteAt 8 = .ok (.if_icmp .ge 15, 3) := by decide +kernel
theorem dX6_byteAt_11 : decode cX6_byteAt 11 = .ok (.aload_n 0, 1) := by decide +kernel
theorem dX6_byteAt_12 : decode cX6_byteAt 12 = .ok (.getfield 19, 3) := by decide +kernel
theorem dX6_byteAt_15 : decode cX6_byteAt 15 = .ok (.aload_n 0, 1) := by decide +kernel
theorem dX6_byteAt_16 : decode cX6_byteAt 16 = .ok (.getfield 180, 3) := by decide +kernel
theorem dX6_byteAt_19 : decode cX6_byteAt 19 = .ok (.iaload, 1) := by decide +kernel
theorem dX6_byteAt_20 : decode cX6_byteAt 20 = .ok (.goto 4, 3) := by decide +kernel
theorem dX6_byteAt_23 : decode cX6_byteAt 23 = .ok (.iconst (-1), 1) := by decide +kernel
theorem dX6_byteAt_24 : decode cX6_byteAt 24 = .ok (.ireturn, 1) := by decide +kernel
theorem dX6_fails_0 : decode cX6_fails 0 = .ok (.aload_n 0, 1) := by decide +kernel
theorem dX6_fails_1 : decode cX6_fails 1 = .ok (.getfield 186, 3) := by decide +kernel
theorem dX6_fails_4 : decode cX6_fails 4 = .ok (.ifCond .ge 11, 3) := by decide +kernel
theorem dX6_fails_7 : decode cX6_fails 7 = .ok (.aload_n 0, 1) := by decide +kernel
theorem dX6_fails_8 : decode cX6_fails 8 = .ok (.aload_n 0, 1) := by decide +kernel
theorem dX6_fails_9 : decode cX6_fails 9 = .ok (.getfield 180, 3) := by decide +kernel
theorem dX6_fails_12 : decode cX6_fails 12 = .ok (.putfield 186, 3) := by decide +kernel
theorem dX6_fails_15 : decode cX6_fails 15 = .ok (.return_, 1) := by decide +kernel
theorem dX6_may_0 : decode cX6_may 0 = .ok (.aload_n 0, 1) := by decide +kernel
theorem dX6_may_1 : decode cX6_may 1 = .ok (.getfield 186, 3) := by decide +kernel
theorem dX6_may_4 : decode cX6_may 4 = .ok (.ifCond .ge 15, 3) := by decide +kernel
theorem dX6_may_7 : decode cX6_may 7 = .ok (.aload_n 0, 1) := by decide +kernel
theorem dX6_may_8 : decode cX6_may 8 = .ok (.invokevirtual 189, 3) := by decide +kernel
theorem dX6_may_11 : decode cX6_may 11 = .ok (.iload_n 1, 1) := by decide +kernel
theorem dX6_may_12 : decode cX6_may 12 = .ok (.if_icmp .ne 7, 3) := by decide +kernel
theorem dX6_may_15 : decode cX6_may 15 = .ok (.iconst 1, 1) := by decide +kernel
theorem dX6_may_16 : decode cX6_may 16 = .ok (.goto 4, 3) := by decide +kernel
theorem dX6_may_19 : decode cX6_may 19 = .ok (.iconst 0, 1) := by decide +kernel
theorem dX6_may_20 : decode cX6_may 20 = .ok (.istore_n 2, 1) := by decide +kernel
theorem dX6_may_21 : decode cX6_may 21 = .ok (.aload_n 0, 1) := by decide +kernel
theorem dX6_may_22 : decode cX6_may 22 = .ok (.dup, 1) := by decide +kernel
theorem dX6_may_23 : decode cX6_may 23 = .ok (.getfield 180, 3) := by decide +kernel
theorem dX6_may_26 : decode cX6_may 26 = .ok (.iload_n 2, 1) := by decide +kernel
theorem dX6_may_27 : decode cX6_may 27 = .ok (.ifCond .eq 7, 3) := by decide +kernel
theorem dX6_may_30 : decode cX6_may 30 = .ok (.iconst 1, 1) := by decide +kernel
theorem dX6_may_31 : decode cX6_may 31 = .ok (.goto 4, 3) := by decide +kernel
theorem dX6_may_34 : decode cX6_may 34 = .ok (.iconst 0, 1) := by decide +kernel
theorem dX6_may_35 : decode cX6_may 35 = .ok (.iadd, 1) := by decide +kernel
theorem dX6_may_36 : decode cX6_may 36 = .ok (.putfield 180, 3) := by decide +kernel
theorem dX6_may_39 : decode cX6_may 39 = .ok (.iload_n 2, 1) := by decide +kernel
theorem dX6_may_40 : decode cX6_may 40 = .ok (.ireturn, 1) := by decide +kernel
theorem dX6_must_0 : decode cX6_must 0 = .ok (.aload_n 0, 1) := by decide +kernel
theorem dX6_must_1 : decode cX6_must 1 = .ok (.iload_n 1, 1) := by decide +kernel
theorem dX6_must_2 : decode cX6_must 2 = .ok (.invokevirtual 193, 3) := by decide +kernel
theorem dX6_must_5 : decode cX6_must 5 = .ok (.ifCond .ne 7, 3) := by decide +kernel
theorem dX6_must_8 : decode cX6_must 8 = .ok (.aload_n 0, 1) := by decide +kernel
theorem dX6_must_9 : decode cX6_must 9 = .ok (.invokevirtual 196, 3) := by decide +kernel
theorem dX6_must_12 : decode cX6_must 12 = .ok (.return_, 1) := by decide +kernel
theorem dX6_emit_0 : decode cX6_emit 0 = .ok (.aload_n 0, 1) := by decide +kernel
theorem dX6_emit_1 : decode cX6_emit 1 = .ok (.getfield 186, 3) := by decide +kernel
theorem dX6_emit_4 : decode cX6_emit 4 = .ok (.ifCond .ge 23, 3) := by decide +kernel
theorem dX6_emit_7 : decode cX6_emit 7 = .ok (.aload_n 0, 1) := by decide +kernel
theorem dX6_emit_8 : decode cX6_emit 8 = .ok (.getfield 37, 3) := by decide +kernel
theorem dX6_emit_11 : decode cX6_emit 11 = .ok (.aload_n 0, 1) := by decide +kernel
theorem dX6_emit_12 : decode cX6_emit 12 = .ok (.getfield 199, 3) := by decide +kernel
theorem dX6_emit_15 : decode cX6_emit 15 = .ok (.iload_n 1, 1) := by decide +kernel
theorem dX6_emit_16 : decode cX6_emit 16 = .ok (.iastore, 1) := by decide +kernel
theorem dX6_emit_17 : decode cX6_emit 17 = .ok (.aload_n 0, 1) := by decide +kernel
theorem dX6_emit_18 : decode cX6_emit 18 = .ok (.dup, 1) := by decide +kernel
theorem dX6_emit_19 : decode cX6_emit 19 = .ok (.getfield 199, 3) := by decide +kernel
theorem dX6_emit_22 : decode cX6_emit 22 = .ok (.iconst 1, 1) := by decide +kernel
theorem dX6_emit_23 : decode cX6_emit 23 = .ok (.iadd, 1) := by decide +kernel
theorem dX6_emit_24 : decode cX6_emit 24 = .ok (.putfield 199, 3) := by decide +kernel
theorem dX6_emit_27 : decode cX6_emit 27 = .ok (.return_, 1) := by decide +kernel
theorem dX6_isDigit_0 : decode cX6_isDigit 0 = .ok (.iload_n 0, 1) := by decide +kernel
theorem dX6_isDigit_1 : decode cX6_isDigit 1 = .ok (.bipush 48, 2) := by decide +kernel
theorem dX6_isDigit_3 : decode cX6_isDigit 3 = .ok (.bipush 57, 2) := by decide +kernel
theorem dX6_isDigit_5 : decode cX6_isDigit 5 = .ok (.invokestatic 57, 3) := by decide +kernel
theorem dX6_isDigit_8 : decode cX6_isDigit 8 = .ok (.ireturn, 1) := by decide +kernel
theorem dX6_nameOf_0 : decode cX6_nameOf 0 = .ok (.iload_n 0, 1) := by decide +kernel
theorem dX6_nameOf_1 : decode cX6_nameOf 1 = .ok (.tableswitch 99 98 115 #[89, 99, 95, 99, 99, 91, 99, 99, 99, 93, 99, 99, 99, 99, 97, 99, 99, 87], 87) := by decide +kernel
theorem dX6_nameOf_88 : decode cX6_nameOf 88 = .ok (.iconst 0, 1) := by decide +kernel
theorem dX6_nameOf_89 : decode cX6_nameOf 89 = .ok (.ireturn, 1) := by decide +kernel
theorem dX6_nameOf_90 : decode cX6_nameOf 90 = .ok (.iconst 1, 1) := by decide +kernel
theorem dX6_nameOf_91 : decode cX6_nameOf 91 = .ok (.ireturn, 1) := by decide +kernel
theorem dX6_nameOf_92 : decode cX6_nameOf 92 = .ok (.iconst 2, 1) := by decide +kernel
theorem dX6_nameOf_93 : decode cX6_nameOf 93 = .ok (.ireturn, 1) := by decide +kernel
theorem dX6_nameOf_94 : decode cX6_nameOf 94 = .ok (.iconst 3, 1) := by decide +kernel
theorem dX6_nameOf_95 : decode cX6_nameOf 95 = .ok (.ireturn, 1) := by decide +kernel
theorem dX6_nameOf_96 : decode cX6_nameOf 96 = .ok (.iconst 4, 1) := by decide +kernel
theorem dX6_nameOf_97 : decode cX6_nameOf 97 = .ok (.ireturn, 1) := by decide +kernel
theorem dX6_nameOf_98 : decode cX6_nameOf 98 = .ok (.iconst 5, 1) := by decide +kernel
theorem dX6_nameOf_99 : decode cX6_nameOf 99 = .ok (.ireturn, 1) := by decide +kernel
theorem dX6_nameOf_100 : decode cX6_nameOf 100 = .ok (.iconst (-1), 1) := by decide +kernel
theorem dX6_nameOf_101 : decode cX6_nameOf 101 = .ok (.ireturn, 1) := by decide +kernel
theorem dX6_number_0 : decode cX6_number 0 = .ok (.iconst 0, 1) := by decide +kernel
theorem dX6_number_1 : decode cX6_number 1 = .ok (.istore_n 1, 1) := by decide +kernel
theorem dX6_number_2 : decode cX6_number 2 = .ok (.iconst 0, 1) := by decide +kernel
theorem dX6_number_3 : decode cX6_number 3 = .ok (.istore_n 2, 1) := by decide +kernel
theorem dX6_number_4 : decode cX6_number 4 = .ok (.iload_n 2, 1) := by decide +kernel
theorem dX6_number_5 : decode cX6_number 5 = .ok (.iconst 3, 1) := by decide +kernel
theorem dX6_number_6 : decode cX6_number 6 = .ok (.if_icmp .ge 42, 3) := by decide +kernel
theorem dX6_number_9 : decode cX6_number 9 = .ok (.aload_n 0, 1) := by decide +kernel
theorem dX6_number_10 : decode cX6_number 10 = .ok (.invokevirtual 189, 3) := by decide +kernel
theorem dX6_number_13 : decode cX6_number 13 = .ok (.invokestatic 202, 3) := by decide +kernel
theorem dX6_number_16 : decode cX6_number 16 = .ok (.ifCond .eq 32, 3) := by decide +kernel
theorem dX6_number_19 : decode cX6_number 19 = .ok (.bipush 10, 2) := by decide +kernel
theorem dX6_number_21 : decode cX6_number 21 = .ok (.iload_n 1, 1) := by decide +kernel
theorem dX6_number_22 : decode cX6_number 22 = .ok (.imul, 1) := by decide +kernel
theorem dX6_number_23 : decode cX6_number 23 = .ok (.aload_n 0, 1) := by decide +kernel
theorem dX6_number_24 : decode cX6_number 24 = .ok (.invokevirtual 189, 3) := by decide +kernel
theorem dX6_number_27 : decode cX6_number 27 = .ok (.iadd, 1) := by decide +kernel
theorem dX6_number_28 : decode cX6_number 28 = .ok (.bipush 48, 2) := by decide +kernel
theorem dX6_number_30 : decode cX6_number 30 = .ok (.isub, 1) := by decide +kernel
theorem dX6_number_31 : decode cX6_number 31 = .ok (.istore_n 1, 1) := by decide +kernel
theorem dX6_number_32 : decode cX6_number 32 = .ok (.iinc 2 1, 3) := by decide +kernel
theorem dX6_number_35 : decode cX6_number 35 = .ok (.aload_n 0, 1) := by decide +kernel
theorem dX6_number_36 : decode cX6_number 36 = .ok (.dup, 1) := by decide +kernel
theorem dX6_number_37 : decode cX6_number 37 = .ok (.getfield 180, 3) := by decide +kernel
theorem dX6_number_40 : decode cX6_number 40 = .ok (.iconst 1, 1) := by decide +kernel
theorem dX6_number_41 : decode cX6_number 41 = .ok (.iadd, 1) := by decide +kernel
theorem dX6_number_42 : decode cX6_number 42 = .ok (.putfield 180, 3) := by decide +kernel
theorem dX6_number_45 : decode cX6_number 45 = .ok (.goto (-41), 3) := by decide +kernel
theorem dX6_number_48 : decode cX6_number 48 = .ok (.aload_n 0, 1) := by decide +kernel
theorem dX6_number_49 : decode cX6_number 49 = .ok (.iload_n 1, 1) := by decide +kernel
theorem dX6_number_50 : decode cX6_number 50 = .ok (.invokevirtual 205, 3) := by decide +kernel
theorem dX6_number_53 : decode cX6_number 53 = .ok (.return_, 1) := by decide +kernel
theorem dX6_opens_0 : decode cX6_opens 0 = .ok (.aload_n 0, 1) := by decide +kernel
theorem dX6_opens_1 : decode cX6_opens 1 = .ok (.getfield 186, 3) := by decide +kernel
theorem dX6_opens_4 : decode cX6_opens 4 = .ok (.ifCond .ge 11, 3) := by decide +kernel
theorem dX6_opens_7 : decode cX6_opens 7 = .ok (.aload_n 0, 1) := by decide +kernel
theorem dX6_opens_8 : decode cX6_opens 8 = .ok (.invokevirtual 189, 3) := by decide +kernel
theorem dX6_opens_11 : decode cX6_opens 11 = .ok (.iload_n 1, 1) := by decide +kernel
theorem dX6_opens_12 : decode cX6_opens 12 = .ok (.if_icmp .eq 5, 3) := by decide +kernel
theorem dX6_opens_15 : decode cX6_opens 15 = .ok (.iconst 0, 1) := by decide +kernel
theorem dX6_opens_16 : decode cX6_opens 16 = .ok (.ireturn, 1) := by decide +kernel
theorem dX6_opens_17 : decode cX6_opens 17 = .ok (.aload_n 0, 1) := by decide +kernel
theorem dX6_opens_18 : decode cX6_opens 18 = .ok (.getfield 208, 3) := by decide +kernel
theorem dX6_opens_21 : decode cX6_opens 21 = .ok (.iconst 5, 1) := by decide +kernel
theorem dX6_opens_22 : decode cX6_opens 22 = .ok (.if_icmp .ne 9, 3) := by decide +kernel
theorem dX6_opens_25 : decode cX6_opens 25 = .ok (.aload_n 0, 1) := by decide +kernel
theorem dX6_opens_26 : decode cX6_opens 26 = .ok (.invokevirtual 196, 3) := by decide +kernel
theorem dX6_opens_29 : decode cX6_opens 29 = .ok (.iconst 0, 1) := by decide +kernel
theorem dX6_opens_30 : decode cX6_opens 30 = .ok (.ireturn, 1) := by decide +kernel
theorem dX6_opens_31 : decode cX6_opens 31 = .ok (.aload_n 0, 1) := by decide +kernel
theorem dX6_opens_32 : decode cX6_opens 32 = .ok (.dup, 1) := by decide +kernel
theorem dX6_opens_33 : decode cX6_opens 33 = .ok (.getfield 208, 3) := by decide +kernel
theorem dX6_opens_36 : decode cX6_opens 36 = .ok (.iconst 1, 1) := by decide +kernel
theorem dX6_opens_37 : decode cX6_opens 37 = .ok (.iadd, 1) := by decide +kernel
theorem dX6_opens_38 : decode cX6_opens 38 = .ok (.putfield 208, 3) := by decide +kernel
theorem dX6_opens_41 : decode cX6_opens 41 = .ok (.aload_n 0, 1) := by decide +kernel
theorem dX6_opens_42 : decode cX6_opens 42 = .ok (.dup, 1) := by decide +kernel
theorem dX6_opens_43 : decode cX6_opens 43 = .ok (.getfield 180, 3) := by decide +kernel
theorem dX6_opens_46 : decode cX6_opens 46 = .ok (.iconst 1, 1) := by decide +kernel
theorem dX6_opens_47 : decode cX6_opens 47 = .ok (.iadd, 1) := by decide +kernel
theorem dX6_opens_48 : decode cX6_opens 48 = .ok (.putfield 180, 3) := by decide +kernel
theorem dX6_opens_51 : decode cX6_opens 51 = .ok (.iconst 1, 1) := by decide +kernel
theorem dX6_opens_52 : decode cX6_opens 52 = .ok (.ireturn, 1) := by decide +kernel
theorem dX6_factor_0 : decode cX6_factor 0 = .ok (.aload_n 0, 1) := by decide +kernel
theorem dX6_factor_1 : decode cX6_factor 1 = .ok (.getfield 186, 3) := by decide +kernel
theorem dX6_factor_4 : decode cX6_factor 4 = .ok (.ifCond .lt 4, 3) := by decide +kernel
theorem dX6_factor_7 : decode cX6_factor 7 = .ok (.return_, 1) := by decide +kernel
theorem dX6_factor_8 : decode cX6_factor 8 = .ok (.aload_n 0, 1) := by decide +kernel
theorem dX6_factor_9 : decode cX6_factor 9 = .ok (.invokevirtual 189, 3) := by decide +kernel
theorem dX6_factor_12 : decode cX6_factor 12 = .ok (.invokestatic 202, 3) := by decide +kernel
theorem dX6_factor_15 : decode cX6_factor 15 = .ok (.ifCond .eq 10, 3) := by decide +kernel
theorem dX6_factor_18 : decode cX6_factor 18 = .ok (.aload_n 0, 1) := by decide +kernel
theorem dX6_factor_19 : decode cX6_factor 19 = .ok (.invokevirtual 211, 3) := by decide +kernel
theorem dX6_factor_22 : decode cX6_factor 22 = .ok (.goto 159, 3) := by decide +kernel
theorem dX6_factor_25 : decode cX6_factor 25 = .ok (.aload_n 0, 1) := by decide +kernel
theorem dX6_factor_26 : decode cX6_factor 26 = .ok (.invokevirtual 189, 3) := by decide +kernel
theorem dX6_factor_29 : decode cX6_factor 29 = .ok (.invokestatic 214, 3) := by decide +kernel
theorem dX6_factor_32 : decode cX6_factor 32 = .ok (.ifCond .lt 31, 3) := by decide +kernel
theorem dX6_factor_35 : decode cX6_factor 35 = .ok (.aload_n 0, 1) := by decide +kernel
theorem dX6_factor_36 : decode cX6_factor 36 = .ok (.sipush 1000, 3) := by decide +kernel
theorem dX6_factor_39 : decode cX6_factor 39 = .ok (.aload_n 0, 1) := by decide +kernel
theorem dX6_factor_40 : decode cX6_factor 40 = .ok (.invokevirtual 189, 3) := by decide +kernel
theorem dX6_factor_43 : decode cX6_factor 43 = .ok (.invokestatic 214, 3) := by decide +kernel
theorem dX6_factor_46 : decode cX6_factor 46 = .ok (.iadd, 1) := by decide +kernel
theorem dX6_factor_47 : decode cX6_factor 47 = .ok (.invokevirtual 205, 3) := by decide +kernel
theorem dX6_factor_50 : decode cX6_factor 50 = .ok (.aload_n 0, 1) := by decide +kernel
theorem dX6_factor_51 : decode cX6_factor 51 = .ok (.dup, 1) := by decide +kernel
theorem dX6_factor_52 : decode cX6_factor 52 = .ok (.getfield 180, 3) := by decide +kernel
theorem dX6_factor_55 : decode cX6_factor 55 = .ok (.iconst 1, 1) := by decide +kernel
theorem dX6_factor_56 : decode cX6_factor 56 = .ok (.iadd, 1) := by decide +kernel
theorem dX6_factor_57 : decode cX6_factor 57 = .ok (.putfield 180, 3) := by decide +kernel
theorem dX6_factor_60 : decode cX6_factor 60 = .ok (.goto 121, 3) := by decide +kernel
end
section
theorem dX6_factor_63 : decode cX6_factor 63 = .ok (.aload_n 0, 1) := by decide +kernel
theorem dX6_factor_64 : decode cX6_factor 64 = .ok (.bipush 45, 2) := by decide +kernel
theorem dX6_factor_66 : decode cX6_factor 66 = .ok (.invokevirtual 217, 3) := by decide +kernel
theorem dX6_factor_69 : decode cX6_factor 69 = .ok (.ifCond .eq 27, 3) := by decide +kernel
theorem dX6_factor_72 : decode cX6_factor 72 = .ok (.aload_n 0, 1) := by decide +kernel
theorem dX6_factor_73 : decode cX6_factor 73 = .ok (.invokevirtual 220, 3) := by decide +kernel
theorem dX6_factor_76 : decode cX6_factor 76 = .ok (.aload_n 0, 1) := by decide +kernel
theorem dX6_factor_77 : decode cX6_factor 77 = .ok (.sipush 2004, 3) := by decide +kernel
theorem dX6_factor_80 : decode cX6_factor 80 = .ok (.invokevirtual 205, 3) := by decide +kernel
theorem dX6_factor_83 : decode cX6_factor 83 = .ok (.aload_n 0, 1) := by decide +kernel
theorem dX6_factor_84 : decode cX6_factor 84 = .ok (.dup, 1) := by decide +kernel
theorem dX6_factor_85 : decode cX6_factor 85 = .ok (.getfield 208, 3) := by decide +kernel
theorem dX6_factor_88 : decode cX6_factor 88 = .ok (.iconst 1, 1) := by decide +kernel
theorem dX6_factor_89 : decode cX6_factor 89 = .ok (.isub, 1) := by decide +kernel
theorem dX6_factor_90 : decode cX6_factor 90 = .ok (.putfield 208, 3) := by decide +kernel
theorem dX6_factor_93 : decode cX6_factor 93 = .ok (.goto 88, 3) := by decide +kernel
theorem dX6_factor_96 : decode cX6_factor 96 = .ok (.aload_n 0, 1) := by decide +kernel
theorem dX6_factor_97 : decode cX6_factor 97 = .ok (.bipush 40, 2) := by decide +kernel
theorem dX6_factor_99 : decode cX6_factor 99 = .ok (.invokevirtual 217, 3) := by decide +kernel
theorem dX6_factor_102 : decode cX6_factor 102 = .ok (.ifCond .eq 26, 3) := by decide +kernel
theorem dX6_factor_105 : decode cX6_factor 105 = .ok (.aload_n 0, 1) := by decide +kernel
theorem dX6_factor_106 : decode cX6_factor 106 = .ok (.invokevirtual 223, 3) := by decide +kernel
theorem dX6_factor_109 : decode cX6_factor 109 = .ok (.aload_n 0, 1) := by decide +kernel
theorem dX6_factor_110 : decode cX6_factor 110 = .ok (.bipush 41, 2) := by decide +kernel
theorem dX6_factor_112 : decode cX6_factor 112 = .ok (.invokevirtual 226, 3) := by decide +kernel
theorem dX6_factor_115 : decode cX6_factor 115 = .ok (.aload_n 0, 1) := by decide +kernel
theorem dX6_factor_116 : decode cX6_factor 116 = .ok (.dup, 1) := by decide +kernel
theorem dX6_factor_117 : decode cX6_factor 117 = .ok (.getfield 208, 3) := by decide +kernel
theorem dX6_factor_120 : decode cX6_factor 120 = .ok (.iconst 1, 1) := by decide +kernel
theorem dX6_factor_121 : decode cX6_factor 121 = .ok (.isub, 1) := by decide +kernel
theorem dX6_factor_122 : decode cX6_factor 122 = .ok (.putfield 208, 3) := by decide +kernel
theorem dX6_factor_125 : decode cX6_factor 125 = .ok (.goto 56, 3) := by decide +kernel
theorem dX6_factor_128 : decode cX6_factor 128 = .ok (.aload_n 0, 1) := by decide +kernel
theorem dX6_factor_129 : decode cX6_factor 129 = .ok (.bipush 91, 2) := by decide +kernel
theorem dX6_factor_131 : decode cX6_factor 131 = .ok (.invokevirtual 217, 3) := by decide +kernel
theorem dX6_factor_134 : decode cX6_factor 134 = .ok (.ifCond .eq 43, 3) := by decide +kernel
theorem dX6_factor_137 : decode cX6_factor 137 = .ok (.aload_n 0, 1) := by decide +kernel
theorem dX6_factor_138 : decode cX6_factor 138 = .ok (.invokevirtual 223, 3) := by decide +kernel
theorem dX6_factor_141 : decode cX6_factor 141 = .ok (.aload_n 0, 1) := by decide +kernel
theorem dX6_factor_142 : decode cX6_factor 142 = .ok (.bipush 44, 2) := by decide +kernel
theorem dX6_factor_144 : decode cX6_factor 144 = .ok (.invokevirtual 226, 3) := by decide +kernel
theorem dX6_factor_147 : decode cX6_factor 147 = .ok (.aload_n 0, 1) := by decide +kernel
theorem dX6_factor_148 : decode cX6_factor 148 = .ok (.invokevirtual 223, 3) := by decide +kernel
theorem dX6_factor_151 : decode cX6_factor 151 = .ok (.aload_n 0, 1) := by decide +kernel
theorem dX6_factor_152 : decode cX6_factor 152 = .ok (.bipush 93, 2) := by decide +kernel
theorem dX6_factor_154 : decode cX6_factor 154 = .ok (.invokevirtual 226, 3) := by decide +kernel
theorem dX6_factor_157 : decode cX6_factor 157 = .ok (.aload_n 0, 1) := by decide +kernel
theorem dX6_factor_158 : decode cX6_factor 158 = .ok (.sipush 2005, 3) := by decide +kernel
theorem dX6_factor_161 : decode cX6_factor 161 = .ok (.invokevirtual 205, 3) := by decide +kernel
theorem dX6_factor_164 : decode cX6_factor 164 = .ok (.aload_n 0, 1) := by decide +kernel
theorem dX6_factor_165 : decode cX6_factor 165 = .ok (.dup, 1) := by decide +kernel
theorem dX6_factor_166 : decode cX6_factor 166 = .ok (.getfield 208, 3) := by decide +kernel
theorem dX6_factor_169 : decode cX6_factor 169 = .ok (.iconst 1, 1) := by decide +kernel
theorem dX6_factor_170 : decode cX6_factor 170 = .ok (.isub, 1) := by decide +kernel
theorem dX6_factor_171 : decode cX6_factor 171 = .ok (.putfield 208, 3) := by decide +kernel
theorem dX6_factor_174 : decode cX6_factor 174 = .ok (.goto 7, 3) := by decide +kernel
theorem dX6_factor_177 : decode cX6_factor 177 = .ok (.aload_n 0, 1) := by decide +kernel
theorem dX6_factor_178 : decode cX6_factor 178 = .ok (.invokevirtual 196, 3) := by decide +kernel
theorem dX6_factor_181 : decode cX6_factor 181 = .ok (.return_, 1) := by decide +kernel
theorem dX6_term_0 : decode cX6_term 0 = .ok (.aload_n 0, 1) := by decide +kernel
theorem dX6_term_1 : decode cX6_term 1 = .ok (.invokevirtual 220, 3) := by decide +kernel
theorem dX6_term_4 : decode cX6_term 4 = .ok (.iconst 1, 1) := by decide +kernel
theorem dX6_term_5 : decode cX6_term 5 = .ok (.istore_n 1, 1) := by decide +kernel
theorem dX6_term_6 : decode cX6_term 6 = .ok (.iload_n 1, 1) := by decide +kernel
theorem dX6_term_7 : decode cX6_term 7 = .ok (.ifCond .eq 61, 3) := by decide +kernel
theorem dX6_term_10 : decode cX6_term 10 = .ok (.aload_n 0, 1) := by decide +kernel
theorem dX6_term_11 : decode cX6_term 11 = .ok (.bipush 42, 2) := by decide +kernel
theorem dX6_term_13 : decode cX6_term 13 = .ok (.invokevirtual 193, 3) := by decide +kernel
theorem dX6_term_16 : decode cX6_term 16 = .ok (.ifCond .eq 9, 3) := by decide +kernel
theorem dX6_term_19 : decode cX6_term 19 = .ok (.sipush 2002, 3) := by decide +kernel
theorem dX6_term_22 : decode cX6_term 22 = .ok (.goto 19, 3) := by decide +kernel
theorem dX6_term_25 : decode cX6_term 25 = .ok (.aload_n 0, 1) := by decide +kernel
theorem dX6_term_26 : decode cX6_term 26 = .ok (.bipush 47, 2) := by decide +kernel
theorem dX6_term_28 : decode cX6_term 28 = .ok (.invokevirtual 193, 3) := by decide +kernel
theorem dX6_term_31 : decode cX6_term 31 = .ok (.ifCond .eq 9, 3) := by decide +kernel
theorem dX6_term_34 : decode cX6_term 34 = .ok (.sipush 2003, 3) := by decide +kernel
theorem dX6_term_37 : decode cX6_term 37 = .ok (.goto 4, 3) := by decide +kernel
theorem dX6_term_40 : decode cX6_term 40 = .ok (.iconst (-1), 1) := by decide +kernel
theorem dX6_term_41 : decode cX6_term 41 = .ok (.istore_n 2, 1) := by decide +kernel
theorem dX6_term_42 : decode cX6_term 42 = .ok (.iload_n 2, 1) := by decide +kernel
theorem dX6_term_43 : decode cX6_term 43 = .ok (.ifCond .lt 7, 3) := by decide +kernel
theorem dX6_term_46 : decode cX6_term 46 = .ok (.iconst 1, 1) := by decide +kernel
theorem dX6_term_47 : decode cX6_term 47 = .ok (.goto 4, 3) := by decide +kernel
theorem dX6_term_50 : decode cX6_term 50 = .ok (.iconst 0, 1) := by decide +kernel
theorem dX6_term_51 : decode cX6_term 51 = .ok (.istore_n 1, 1) := by decide +kernel
theorem dX6_term_52 : decode cX6_term 52 = .ok (.iload_n 1, 1) := by decide +kernel
theorem dX6_term_53 : decode cX6_term 53 = .ok (.ifCond .eq 12, 3) := by decide +kernel
theorem dX6_term_56 : decode cX6_term 56 = .ok (.aload_n 0, 1) := by decide +kernel
theorem dX6_term_57 : decode cX6_term 57 = .ok (.invokevirtual 220, 3) := by decide +kernel
theorem dX6_term_60 : decode cX6_term 60 = .ok (.aload_n 0, 1) := by decide +kernel
theorem dX6_term_61 : decode cX6_term 61 = .ok (.iload_n 2, 1) := by decide +kernel
theorem dX6_term_62 : decode cX6_term 62 = .ok (.invokevirtual 205, 3) := by decide +kernel
theorem dX6_term_65 : decode cX6_term 65 = .ok (.goto (-59), 3) := by decide +kernel
theorem dX6_term_68 : decode cX6_term 68 = .ok (.return_, 1) := by decide +kernel
theorem dX6_sum_0 : decode cX6_sum 0 = .ok (.aload_n 0, 1) := by decide +kernel
theorem dX6_sum_1 : decode cX6_sum 1 = .ok (.invokevirtual 229, 3) := by decide +kernel
theorem dX6_sum_4 : decode cX6_sum 4 = .ok (.iconst 1, 1) := by decide +kernel
theorem dX6_sum_5 : decode cX6_sum 5 = .ok (.istore_n 1, 1) := by decide +kernel
theorem dX6_sum_6 : decode cX6_sum 6 = .ok (.iload_n 1, 1) := by decide +kernel
theorem dX6_sum_7 : decode cX6_sum 7 = .ok (.ifCond .eq 61, 3) := by decide +kernel
theorem dX6_sum_10 : decode cX6_sum 10 = .ok (.aload_n 0, 1) := by decide +kernel
theorem dX6_sum_11 : decode cX6_sum 11 = .ok (.bipush 43, 2) := by decide +kernel
theorem dX6_sum_13 : decode cX6_sum 13 = .ok (.invokevirtual 193, 3) := by decide +kernel
theorem dX6_sum_16 : decode cX6_sum 16 = .ok (.ifCond .eq 9, 3) := by decide +kernel
theorem dX6_sum_19 : decode cX6_sum 19 = .ok (.sipush 2000, 3) := by decide +kernel
theorem dX6_sum_22 : decode cX6_sum 22 = .ok (.goto 19, 3) := by decide +kernel
theorem dX6_sum_25 : decode cX6_sum 25 = .ok (.aload_n 0, 1) := by decide +kernel
theorem dX6_sum_26 : decode cX6_sum 26 = .ok (.bipush 45, 2) := by decide +kernel
theorem dX6_sum_28 : decode cX6_sum 28 = .ok (.invokevirtual 193, 3) := by decide +kernel
theorem dX6_sum_31 : decode cX6_sum 31 = .ok (.ifCond .eq 9, 3) := by decide +kernel
theorem dX6_sum_34 : decode cX6_sum 34 = .ok (.sipush 2001, 3) := by decide +kernel
theorem dX6_sum_37 : decode cX6_sum 37 = .ok (.goto 4, 3) := by decide +kernel
theorem dX6_sum_40 : decode cX6_sum 40 = .ok (.iconst (-1), 1) := by decide +kernel
theorem dX6_sum_41 : decode cX6_sum 41 = .ok (.istore_n 2, 1) := by decide +kernel
theorem dX6_sum_42 : decode cX6_sum 42 = .ok (.iload_n 2, 1) := by decide +kernel
theorem dX6_sum_43 : decode cX6_sum 43 = .ok (.ifCond .lt 7, 3) := by decide +kernel
theorem dX6_sum_46 : decode cX6_sum 46 = .ok (.iconst 1, 1) := by decide +kernel
theorem dX6_sum_47 : decode cX6_sum 47 = .ok (.goto 4, 3) := by decide +kernel
theorem dX6_sum_50 : decode cX6_sum 50 = .ok (.iconst 0, 1) := by decide +kernel
theorem dX6_sum_51 : decode cX6_sum 51 = .ok (.istore_n 1, 1) := by decide +kernel
theorem dX6_sum_52 : decode cX6_sum 52 = .ok (.iload_n 1, 1) := by decide +kernel
theorem dX6_sum_53 : decode cX6_sum 53 = .ok (.ifCond .eq 12, 3) := by decide +kernel
theorem dX6_sum_56 : decode cX6_sum 56 = .ok (.aload_n 0, 1) := by decide +kernel
theorem dX6_sum_57 : decode cX6_sum 57 = .ok (.invokevirtual 229, 3) := by decide +kernel
theorem dX6_sum_60 : decode cX6_sum 60 = .ok (.aload_n 0, 1) := by decide +kernel
theorem dX6_sum_61 : decode cX6_sum 61 = .ok (.iload_n 2, 1) := by decide +kernel
theorem dX6_sum_62 : decode cX6_sum 62 = .ok (.invokevirtual 205, 3) := by decide +kernel
theorem dX6_sum_65 : decode cX6_sum 65 = .ok (.goto (-59), 3) := by decide +kernel
theorem dX6_sum_68 : decode cX6_sum 68 = .ok (.return_, 1) := by decide +kernel
theorem dX6_feed_0 : decode cX6_feed 0 = .ok (.iload_n 2, 1) := by decide +kernel
theorem dX6_feed_1 : decode cX6_feed 1 = .ok (.iconst 1, 1) := by decide +kernel
theorem dX6_feed_2 : decode cX6_feed 2 = .ok (.iconst 4, 1) := by decide +kernel
theorem dX6_feed_3 : decode cX6_feed 3 = .ok (.invokestatic 57, 3) := by decide +kernel
theorem dX6_feed_6 : decode cX6_feed 6 = .ok (.ifCond .ne 9, 3) := by decide +kernel
theorem dX6_feed_9 : decode cX6_feed 9 = .ok (.aload_n 0, 1) := by decide +kernel
theorem dX6_feed_10 : decode cX6_feed 10 = .ok (.iconst 0, 1) := by decide +kernel
theorem dX6_feed_11 : decode cX6_feed 11 = .ok (.invokevirtual 85, 3) := by decide +kernel
theorem dX6_feed_14 : decode cX6_feed 14 = .ok (.ireturn, 1) := by decide +kernel
theorem dX6_feed_15 : decode cX6_feed 15 = .ok (.aload_n 0, 1) := by decide +kernel
theorem dX6_feed_16 : decode cX6_feed 16 = .ok (.getfield 183, 3) := by decide +kernel
theorem dX6_feed_19 : decode cX6_feed 19 = .ok (.iload_n 2, 1) := by decide +kernel
theorem dX6_feed_20 : decode cX6_feed 20 = .ok (.iadd, 1) := by decide +kernel
theorem dX6_feed_21 : decode cX6_feed 21 = .ok (.bipush 60, 2) := by decide +kernel
theorem dX6_feed_23 : decode cX6_feed 23 = .ok (.if_icmp .le 9, 3) := by decide +kernel
theorem dX6_feed_26 : decode cX6_feed 26 = .ok (.aload_n 0, 1) := by decide +kernel
theorem dX6_feed_27 : decode cX6_feed 27 = .ok (.iconst 1, 1) := by decide +kernel
theorem dX6_feed_28 : decode cX6_feed 28 = .ok (.invokevirtual 85, 3) := by decide +kernel
theorem dX6_feed_31 : decode cX6_feed 31 = .ok (.ireturn, 1) := by decide +kernel
theorem dX6_feed_32 : decode cX6_feed 32 = .ok (.iload_n 2, 1) := by decide +kernel
theorem dX6_feed_33 : decode cX6_feed 33 = .ok (.iconst 1, 1) := by decide +kernel
theorem dX6_feed_34 : decode cX6_feed 34 = .ok (.isub, 1) := by decide +kernel
theorem dX6_feed_35 : decode cX6_feed 35 = .ok (.istore_n 3, 1) := by decide +kernel
theorem dX6_feed_36 : decode cX6_feed 36 = .ok (.iload_n 3, 1) := by decide +kernel
theorem dX6_feed_37 : decode cX6_feed 37 = .ok (.ifCond .lt 38, 3) := by decide +kernel
theorem dX6_feed_40 : decode cX6_feed 40 = .ok (.aload_n 0, 1) := by decide +kernel
theorem dX6_feed_41 : decode cX6_feed 41 = .ok (.getfield 19, 3) := by decide +kernel
theorem dX6_feed_44 : decode cX6_feed 44 = .ok (.aload_n 0, 1) := by decide +kernel
theorem dX6_feed_45 : decode cX6_feed 45 = .ok (.getfield 183, 3) := by decide +kernel
theorem dX6_feed_48 : decode cX6_feed 48 = .ok (.iload_n 1, 1) := by decide +kernel
theorem dX6_feed_49 : decode cX6_feed 49 = .ok (.bipush 8, 2) := by decide +kernel
theorem dX6_feed_51 : decode cX6_feed 51 = .ok (.iload_n 3, 1) := by decide +kernel
theorem dX6_feed_52 : decode cX6_feed 52 = .ok (.imul, 1) := by decide +kernel
theorem dX6_feed_53 : decode cX6_feed 53 = .ok (.ishr, 1) := by decide +kernel
theorem dX6_feed_54 : decode cX6_feed 54 = .ok (.sipush 255, 3) := by decide +kernel
theorem dX6_feed_57 : decode cX6_feed 57 = .ok (.iand, 1) := by decide +kernel
theorem dX6_feed_58 : decode cX6_feed 58 = .ok (.iastore, 1) := by decide +kernel
theorem dX6_feed_59 : decode cX6_feed 59 = .ok (.aload_n 0, 1) := by decide +kernel
theorem dX6_feed_60 : decode cX6_feed 60 = .ok (.dup, 1) := by decide +kernel
theorem dX6_feed_61 : decode cX6_feed 61 = .ok (.getfield 183, 3) := by decide +kernel
theorem dX6_feed_64 : decode cX6_feed 64 = .ok (.iconst 1, 1) := by decide +kernel
theorem dX6_feed_65 : decode cX6_feed 65 = .ok (.iadd, 1) := by decide +kernel
theorem dX6_feed_66 : decode cX6_feed 66 = .ok (.putfield 183, 3) := by decide +kernel
theorem dX6_feed_69 : decode cX6_feed 69 = .ok (.iinc 3 (-1), 3) := by decide +kernel
theorem dX6_feed_72 : decode cX6_feed 72 = .ok (.goto (-36), 3) := by decide +kernel
theorem dX6_feed_75 : decode cX6_feed 75 = .ok (.aload_n 0, 1) := by decide +kernel
theorem dX6_feed_76 : decode cX6_feed 76 = .ok (.getfield 183, 3) := by decide +kernel
theorem dX6_feed_79 : decode cX6_feed 79 = .ok (.ireturn, 1) := by decide +kernel
theorem dX6_wipe_0 : decode cX6_wipe 0 = .ok (.aload_n 0, 1) := by decide +kernel
theorem dX6_wipe_1 : decode cX6_wipe 1 = .ok (.getfield 183, 3) := by decide +kernel
theorem dX6_wipe_4 : decode cX6_wipe 4 = .ok (.istore_n 1, 1) := by decide +kernel
theorem dX6_wipe_5 : decode cX6_wipe 5 = .ok (.aload_n 0, 1) := by decide +kernel
theorem dX6_wipe_6 : decode cX6_wipe 6 = .ok (.iconst 0, 1) := by decide +kernel
theorem dX6_wipe_7 : decode cX6_wipe 7 = .ok (.putfield 183, 3) := by decide +kernel
theorem dX6_wipe_10 : decode cX6_wipe 10 = .ok (.iload_n 1, 1) := by decide +kernel
theorem dX6_wipe_11 : decode cX6_wipe 11 = .ok (.ireturn, 1) := by decide +kernel
theorem dX6_law_0 : decode cX6_law 0 = .ok (.aload_n 0, 1) := by decide +kernel
theorem dX6_law_1 : decode cX6_law 1 = .ok (.iconst 0, 1) := by decide +kernel
theorem dX6_law_2 : decode cX6_law 2 = .ok (.putfield 199, 3) := by decide +kernel
theorem dX6_law_5 : decode cX6_law 5 = .ok (.aload_n 0, 1) := by decide +kernel
theorem dX6_law_6 : decode cX6_law 6 = .ok (.iconst 0, 1) := by decide +kernel
theorem dX6_law_7 : decode cX6_law 7 = .ok (.putfield 180, 3) := by decide +kernel
theorem dX6_law_10 : decode cX6_law 10 = .ok (.aload_n 0, 1) := by decide +kernel
theorem dX6_law_11 : decode cX6_law 11 = .ok (.iconst (-1), 1) := by decide +kernel
theorem dX6_law_12 : decode cX6_law 12 = .ok (.putfield 186, 3) := by decide +kernel
theorem dX6_law_15 : decode cX6_law 15 = .ok (.aload_n 0, 1) := by decide +kernel
theorem dX6_law_16 : decode cX6_law 16 = .ok (.iconst 0, 1) := by decide +kernel
theorem dX6_law_17 : decode cX6_law 17 = .ok (.putfield 208, 3) := by decide +kernel
theorem dX6_law_20 : decode cX6_law 20 = .ok (.aload_n 0, 1) := by decide +kernel
theorem dX6_law_21 : decode cX6_law 21 = .ok (.invokevirtual 223, 3) := by decide +kernel
theorem dX6_law_24 : decode cX6_law 24 = .ok (.aload_n 0, 1) := by decide +kernel
theorem dX6_law_25 : decode cX6_law 25 = .ok (.getfield 186, 3) := by decide +kernel
theorem dX6_law_28 : decode cX6_law 28 = .ok (.ifCond .ge 18, 3) := by decide +kernel
theorem dX6_law_31 : decode cX6_law 31 = .ok (.aload_n 0, 1) := by decide +kernel
theorem dX6_law_32 : decode cX6_law 32 = .ok (.getfield 180, 3) := by decide +kernel
theorem dX6_law_35 : decode cX6_law 35 = .ok (.aload_n 0, 1) := by decide +kernel
theorem dX6_law_36 : decode cX6_law 36 = .ok (.getfield 183, 3) := by decide +kernel
theorem dX6_law_39 : decode cX6_law 39 = .ok (.if_icmp .ge 7, 3) := by decide +kernel
theorem dX6_law_42 : decode cX6_law 42 = .ok (.aload_n 0, 1) := by decide +kernel
theorem dX6_law_43 : decode cX6_law 43 = .ok (.invokevirtual 196, 3) := by decide +kernel
theorem dX6_law_46 : decode cX6_law 46 = .ok (.aload_n 0, 1) := by decide +kernel
theorem dX6_law_47 : decode cX6_law 47 = .ok (.getfield 186, 3) := by decide +kernel
theorem dX6_law_50 : decode cX6_law 50 = .ok (.ifCond .lt 10, 3) := by decide +kernel
theorem dX6_law_53 : decode cX6_law 53 = .ok (.iconst (-1), 1) := by decide +kernel
theorem dX6_law_54 : decode cX6_law 54 = .ok (.aload_n 0, 1) := by decide +kernel
theorem dX6_law_55 : decode cX6_law 55 = .ok (.getfield 186, 3) := by decide +kernel
theorem dX6_law_58 : decode cX6_law 58 = .ok (.isub, 1) := by decide +kernel
theorem dX6_law_59 : decode cX6_law 59 = .ok (.ireturn, 1) := by decide +kernel
theorem dX6_law_60 : decode cX6_law 60 = .ok (.aload_n 0, 1) := by decide +kernel
theorem dX6_law_61 : decode cX6_law 61 = .ok (.getfield 9, 3) := by decide +kernel
theorem dX6_law_64 : decode cX6_law 64 = .ok (.iconst 5, 1) := by decide +kernel
theorem dX6_law_65 : decode cX6_law 65 = .ok (.aload_n 0, 1) := by decide +kernel
theorem dX6_law_66 : decode cX6_law 66 = .ok (.getfield 199, 3) := by decide +kernel
theorem dX6_law_69 : decode cX6_law 69 = .ok (.iastore, 1) := by decide +kernel
theorem dX6_law_70 : decode cX6_law 70 = .ok (.iconst 0, 1) := by decide +kernel
theorem dX6_law_71 : decode cX6_law 71 = .ok (.istore_n 1, 1) := by decide +kernel
theorem dX6_law_72 : decode cX6_law 72 = .ok (.iload_n 1, 1) := by decide +kernel
theorem dX6_law_73 : decode cX6_law 73 = .ok (.aload_n 0, 1) := by decide +kernel
theorem dX6_law_74 : decode cX6_law 74 = .ok (.getfield 199, 3) := by decide +kernel
theorem dX6_law_77 : decode cX6_law 77 = .ok (.if_icmp .ge 24, 3) := by decide +kernel
theorem dX6_law_80 : decode cX6_law 80 = .ok (.aload_n 0, 1) := by decide +kernel
theorem dX6_law_81 : decode cX6_law 81 = .ok (.getfield 9, 3) := by decide +kernel
theorem dX6_law_84 : decode cX6_law 84 = .ok (.bipush 14, 2) := by decide +kernel
theorem dX6_law_86 : decode cX6_law 86 = .ok (.iload_n 1, 1) := by decide +kernel
theorem dX6_law_87 : decode cX6_law 87 = .ok (.iadd, 1) := by decide +kernel
theorem dX6_law_88 : decode cX6_law 88 = .ok (.aload_n 0, 1) := by decide +kernel
theorem dX6_law_89 : decode cX6_law 89 = .ok (.getfield 37, 3) := by decide +kernel
theorem dX6_law_92 : decode cX6_law 92 = .ok (.iload_n 1, 1) := by decide +kernel
theorem dX6_law_93 : decode cX6_law 93 = .ok (.iaload, 1) := by decide +kernel
theorem dX6_law_94 : decode cX6_law 94 = .ok (.iastore, 1) := by decide +kernel
theorem dX6_law_95 : decode cX6_law 95 = .ok (.iinc 1 1, 3) := by decide +kernel
theorem dX6_law_98 : decode cX6_law 98 = .ok (.goto (-26), 3) := by decide +kernel
theorem dX6_law_101 : decode cX6_law 101 = .ok (.aload_n 0, 1) := by decide +kernel
theorem dX6_law_102 : decode cX6_law 102 = .ok (.iconst 0, 1) := by decide +kernel
theorem dX6_law_103 : decode cX6_law 103 = .ok (.putfield 183, 3) := by decide +kernel
theorem dX6_law_106 : decode cX6_law 106 = .ok (.iconst 0, 1) := by decide +kernel
theorem dX6_law_107 : decode cX6_law 107 = .ok (.ireturn, 1) := by decide +kernel
theorem dX6_plain_0 : decode cX6_plain 0 = .ok (.aload_n 0, 1) := by decide +kernel
theorem dX6_plain_1 : decode cX6_plain 1 = .ok (.getfield 9, 3) := by decide +kernel
theorem dX6_plain_4 : decode cX6_plain 4 = .ok (.iconst 5, 1) := by decide +kernel
theorem dX6_plain_5 : decode cX6_plain 5 = .ok (.iaload, 1) := by decide +kernel
theorem dX6_plain_6 : decode cX6_plain 6 = .ok (.ifCond .ge 7, 3) := by decide +kernel
theorem dX6_plain_9 : decode cX6_plain 9 = .ok (.iconst 0, 1) := by decide +kernel
theorem dX6_plain_10 : decode cX6_plain 10 = .ok (.goto 4, 3) := by decide +kernel
theorem dX6_plain_13 : decode cX6_plain 13 = .ok (.iconst 1, 1) := by decide +kernel
theorem dX6_plain_14 : decode cX6_plain 14 = .ok (.istore_n 1, 1) := by decide +kernel
theorem dX6_plain_15 : decode cX6_plain 15 = .ok (.aload_n 0, 1) := by decide +kernel
theorem dX6_plain_16 : decode cX6_plain 16 = .ok (.getfield 9, 3) := by decide +kernel
theorem dX6_plain_19 : decode cX6_plain 19 = .ok (.iconst 5, 1) := by decide +kernel
theorem dX6_plain_20 : decode cX6_plain 20 = .ok (.iconst (-1), 1) := by decide +kernel
theorem dX6_plain_21 : decode cX6_plain 21 = .ok (.iastore, 1) := by decide +kernel
theorem dX6_plain_22 : decode cX6_plain 22 = .ok (.iload_n 1, 1) := by decide +kernel
theorem dX6_plain_23 : decode cX6_plain 23 = .ok (.ireturn, 1) := by decide +kernel
theorem dX6_worthOf_0 : decode cX6_worthOf 0 = .ok (.iload_n 1, 1) := by decide +kernel
theorem dX6_worthOf_1 : decode cX6_worthOf 1 = .ok (.tableswitch 60 0 4 #[35, 37, 44, 51, 53], 35) := by decide +kernel
theorem dX6_worthOf_36 : decode cX6_worthOf 36 = .ok (.iload_n 3, 1) := by decide +kernel
theorem dX6_worthOf_37 : decode cX6_worthOf 37 = .ok (.ireturn, 1) := by decide +kernel
theorem dX6_worthOf_38 : decode cX6_worthOf 38 = .ok (.aload_n 0, 1) := by decide +kernel
theorem dX6_worthOf_39 : decode cX6_worthOf 39 = .ok (.iload_n 2, 1) := by decide +kernel
theorem dX6_worthOf_40 : decode cX6_worthOf 40 = .ok (.iconst 1, 1) := by decide +kernel
theorem dX6_worthOf_41 : decode cX6_worthOf 41 = .ok (.invokevirtual 61, 3) := by decide +kernel
theorem dX6_worthOf_44 : decode cX6_worthOf 44 = .ok (.ireturn, 1) := by decide +kernel
theorem dX6_worthOf_45 : decode cX6_worthOf 45 = .ok (.aload_n 0, 1) := by decide +kernel
theorem dX6_worthOf_46 : decode cX6_worthOf 46 = .ok (.iload_n 2, 1) := by decide +kernel
theorem dX6_worthOf_47 : decode cX6_worthOf 47 = .ok (.iconst 2, 1) := by decide +kernel
theorem dX6_worthOf_48 : decode cX6_worthOf 48 = .ok (.invokevirtual 61, 3) := by decide +kernel
theorem dX6_worthOf_51 : decode cX6_worthOf 51 = .ok (.ireturn, 1) := by decide +kernel
theorem dX6_worthOf_52 : decode cX6_worthOf 52 = .ok (.iload_n 2, 1) := by decide +kernel
theorem dX6_worthOf_53 : decode cX6_worthOf 53 = .ok (.ireturn, 1) := by decide +kernel
theorem dX6_worthOf_54 : decode cX6_worthOf 54 = .ok (.aload_n 0, 1) := by decide +kernel
theorem dX6_worthOf_55 : decode cX6_worthOf 55 = .ok (.iload_n 2, 1) := by decide +kernel
theorem dX6_worthOf_56 : decode cX6_worthOf 56 = .ok (.iconst 4, 1) := by decide +kernel
theorem dX6_worthOf_57 : decode cX6_worthOf 57 = .ok (.invokevirtual 61, 3) := by decide +kernel
theorem dX6_worthOf_60 : decode cX6_worthOf 60 = .ok (.ireturn, 1) := by decide +kernel
theorem dX6_worthOf_61 : decode cX6_worthOf 61 = .ok (.aload_n 0, 1) := by decide +kernel
theorem dX6_worthOf_62 : decode cX6_worthOf 62 = .ok (.getfield 9, 3) := by decide +kernel
theorem dX6_worthOf_65 : decode cX6_worthOf 65 = .ok (.iconst 2, 1) := by decide +kernel
theorem dX6_worthOf_66 : decode cX6_worthOf 66 = .ok (.iaload, 1) := by decide +kernel
theorem dX6_worthOf_67 : decode cX6_worthOf 67 = .ok (.ireturn, 1) := by decide +kernel
theorem dX6_done_0 : decode cX6_done 0 = .ok (.iload_n 0, 1) := by decide +kernel
theorem dX6_done_1 : decode cX6_done 1 = .ok (.tableswitch 65 2000 2003 #[31, 35, 39, 43], 31) := by decide +kernel
theorem dX6_done_32 : decode cX6_done 32 = .ok (.iload_n 1, 1) := by decide +kernel
theorem dX6_done_33 : decode cX6_done 33 = .ok (.iload_n 2, 1) := by decide +kernel
theorem dX6_done_34 : decode cX6_done 34 = .ok (.iadd, 1) := by decide +kernel
theorem dX6_done_35 : decode cX6_done 35 = .ok (.ireturn, 1) := by decide +kernel
theorem dX6_done_36 : decode cX6_done 36 = .ok (.iload_n 1, 1) := by decide +kernel
theorem dX6_done_37 : decode cX6_done 37 = .ok (.iload_n 2, 1) := by decide +kernel
theorem dX6_done_38 : decode cX6_done 38 = .ok (.isub, 1) := by decide +kernel
theorem dX6_done_39 : decode cX6_done 39 = .ok (.ireturn, 1) := by decide +kernel
theorem dX6_done_40 : decode cX6_done 40 = .ok (.iload_n 1, 1) := by decide +kernel
theorem dX6_done_41 : decode cX6_done 41 = .ok (.iload_n 2, 1) := by decide +kernel
theorem dX6_done_42 : decode cX6_done 42 = .ok (.imul, 1) := by decide +kernel
theorem dX6_done_43 : decode cX6_done 43 = .ok (.ireturn, 1) := by decide +kernel
theorem dX6_done_44 : decode cX6_done 44 = .ok (.iload_n 2, 1) := by decide +kernel
theorem dX6_done_45 : decode cX6_done 45 = .ok (.ifCond .ne 7, 3) := by decide +kernel
theorem dX6_done_48 : decode cX6_done 48 = .ok (.iconst 0, 1) := by decide +kernel
theorem dX6_done_49 : decode cX6_done 49 = .ok (.goto 16, 3) := by decide +kernel
theorem dX6_done_52 : decode cX6_done 52 = .ok (.iload_n 2, 1) := by decide +kernel
theorem dX6_done_53 : decode cX6_done 53 = .ok (.iconst (-1), 1) := by decide +kernel
theorem dX6_done_54 : decode cX6_done 54 = .ok (.if_icmp .ne 8, 3) := by decide +kernel
theorem dX6_done_57 : decode cX6_done 57 = .ok (.iload_n 1, 1) := by decide +kernel
theorem dX6_done_58 : decode cX6_done 58 = .ok (.ineg, 1) := by decide +kernel
theorem dX6_done_59 : decode cX6_done 59 = .ok (.goto 6, 3) := by decide +kernel
theorem dX6_done_62 : decode cX6_done 62 = .ok (.iload_n 1, 1) := by decide +kernel
theorem dX6_done_63 : decode cX6_done 63 = .ok (.iload_n 2, 1) := by decide +kernel
theorem dX6_done_64 : decode cX6_done 64 = .ok (.idiv, 1) := by decide +kernel
theorem dX6_done_65 : decode cX6_done 65 = .ok (.ireturn, 1) := by decide +kernel
theorem dX6_done_66 : decode cX6_done 66 = .ok (.iload_n 1, 1) := by decide +kernel
theorem dX6_done_67 : decode cX6_done 67 = .ok (.iload_n 2, 1) := by decide +kernel
theorem dX6_done_68 : decode cX6_done 68 = .ok (.invokestatic 71, 3) := by decide +kernel
theorem dX6_done_71 : decode cX6_done 71 = .ok (.ireturn, 1) := by decide +kernel
theorem dX6_given_0 : decode cX6_given 0 = .ok (.iconst 0, 1) := by decide +kernel
theorem dX6_given_1 : decode cX6_given 1 = .ok (.istore_n 3, 1) := by decide +kernel
theorem dX6_given_2 : decode cX6_given 2 = .ok (.iconst 0, 1) := by decide +kernel
theorem dX6_given_3 : decode cX6_given 3 = .ok (.istore 4, 2) := by decide +kernel
theorem dX6_given_5 : decode cX6_given 5 = .ok (.iload 4, 2) := by decide +kernel
theorem dX6_given_7 : decode cX6_given 7 = .ok (.aload_n 0, 1) := by decide +kernel
theorem dX6_given_8 : decode cX6_given 8 = .ok (.getfield 9, 3) := by decide +kernel
theorem dX6_given_11 : decode cX6_given 11 = .ok (.iconst 5, 1) := by decide +kernel
theorem dX6_given_12 : decode cX6_given 12 = .ok (.iaload, 1) := by decide +kernel
theorem dX6_given_13 : decode cX6_given 13 = .ok (.if_icmp .ge 124, 3) := by decide +kernel
theorem dX6_given_16 : decode cX6_given 16 = .ok (.aload_n 0, 1) := by decide +kernel
theorem dX6_given_17 : decode cX6_given 17 = .ok (.getfield 9, 3) := by decide +kernel
theorem dX6_given_20 : decode cX6_given 20 = .ok (.bipush 14, 2) := by decide +kernel
theorem dX6_given_22 : decode cX6_given 22 = .ok (.iload 4, 2) := by decide +kernel
theorem dX6_given_24 : decode cX6_given 24 = .ok (.iadd, 1) := by decide +kernel
theorem dX6_given_25 : decode cX6_given 25 = .ok (.iaload, 1) := by decide +kernel
theorem dX6_given_26 : decode cX6_given 26 = .ok (.istore 5, 2) := by decide +kernel
theorem dX6_given_28 : decode cX6_given 28 = .ok (.iload 5, 2) := by decide +kernel
theorem dX6_given_30 : decode cX6_given 30 = .ok (.sipush 2000, 3) := by decide +kernel
theorem dX6_given_33 : decode cX6_given 33 = .ok (.if_icmp .ge 40, 3) := by decide +kernel
theorem dX6_given_36 : decode cX6_given 36 = .ok (.aload_n 0, 1) := by decide +kernel
theorem dX6_given_37 : decode cX6_given 37 = .ok (.getfield 40, 3) := by decide +kernel
theorem dX6_given_40 : decode cX6_given 40 = .ok (.iload_n 3, 1) := by decide +kernel
theorem dX6_given_41 : decode cX6_given 41 = .ok (.iload 5, 2) := by decide +kernel
theorem dX6_given_43 : decode cX6_given 43 = .ok (.sipush 1000, 3) := by decide +kernel
theorem dX6_given_46 : decode cX6_given 46 = .ok (.if_icmp .ge 8, 3) := by decide +kernel
theorem dX6_given_49 : decode cX6_given 49 = .ok (.iload 5, 2) := by decide +kernel
theorem dX6_given_51 : decode cX6_given 51 = .ok (.goto 15, 3) := by decide +kernel
theorem dX6_given_54 : decode cX6_given 54 = .ok (.aload_n 0, 1) := by decide +kernel
theorem dX6_given_55 : decode cX6_given 55 = .ok (.iload 5, 2) := by decide +kernel
theorem dX6_given_57 : decode cX6_given 57 = .ok (.sipush 1000, 3) := by decide +kernel
theorem dX6_given_60 : decode cX6_given 60 = .ok (.isub, 1) := by decide +kernel
theorem dX6_given_61 : decode cX6_given 61 = .ok (.iload_n 1, 1) := by decide +kernel
theorem dX6_given_62 : decode cX6_given 62 = .ok (.iload_n 2, 1) := by decide +kernel
theorem dX6_given_63 : decode cX6_given 63 = .ok (.invokevirtual 232, 3) := by decide +kernel
theorem dX6_given_66 : decode cX6_given 66 = .ok (.iastore, 1) := by decide +kernel
theorem dX6_given_67 : decode cX6_given 67 = .ok (.iinc 3 1, 3) := by decide +kernel
theorem dX6_given_70 : decode cX6_given 70 = .ok (.goto 61, 3) := by decide +kernel
theorem dX6_given_73 : decode cX6_given 73 = .ok (.iload 5, 2) := by decide +kernel
theorem dX6_given_75 : decode cX6_given 75 = .ok (.sipush 2004, 3) := by decide +kernel
theorem dX6_given_78 : decode cX6_given 78 = .ok (.if_icmp .ne 23, 3) := by decide +kernel
theorem dX6_given_81 : decode cX6_given 81 = .ok (.aload_n 0, 1) := by decide +kernel
theorem dX6_given_82 : decode cX6_given 82 = .ok (.getfield 40, 3) := by decide +kernel
theorem dX6_given_85 : decode cX6_given 85 = .ok (.iload_n 3, 1) := by decide +kernel
theorem dX6_given_86 : decode cX6_given 86 = .ok (.iconst 1, 1) := by decide +kernel
theorem dX6_given_87 : decode cX6_given 87 = .ok (.isub, 1) := by decide +kernel
theorem dX6_given_88 : decode cX6_given 88 = .ok (.aload_n 0, 1) := by decide +kernel
theorem dX6_given_89 : decode cX6_given 89 = .ok (.getfield 40, 3) := by decide +kernel
theorem dX6_given_92 : decode cX6_given 92 = .ok (.iload_n 3, 1) := by decide +kernel
theorem dX6_given_93 : decode cX6_given 93 = .ok (.iconst 1, 1) := by decide +kernel
theorem dX6_given_94 : decode cX6_given 94 = .ok (.isub, 1) := by decide +kernel
theorem dX6_given_95 : decode cX6_given 95 = .ok (.iaload, 1) := by decide +kernel
theorem dX6_given_96 : decode cX6_given 96 = .ok (.ineg, 1) := by decide +kernel
theorem dX6_given_97 : decode cX6_given 97 = .ok (.iastore, 1) := by decide +kernel
theorem dX6_given_98 : decode cX6_given 98 = .ok (.goto 33, 3) := by decide +kernel
theorem dX6_given_101 : decode cX6_given 101 = .ok (.iinc 3 (-1), 3) := by decide +kernel
theorem dX6_given_104 : decode cX6_given 104 = .ok (.aload_n 0, 1) := by decide +kernel
theorem dX6_given_105 : decode cX6_given 105 = .ok (.getfield 40, 3) := by decide +kernel
theorem dX6_given_108 : decode cX6_given 108 = .ok (.iload_n 3, 1) := by decide +kernel
theorem dX6_given_109 : decode cX6_given 109 = .ok (.iconst 1, 1) := by decide +kernel
theorem dX6_given_110 : decode cX6_given 110 = .ok (.isub, 1) := by decide +kernel
theorem dX6_given_111 : decode cX6_given 111 = .ok (.iload 5, 2) := by decide +kernel
theorem dX6_given_113 : decode cX6_given 113 = .ok (.aload_n 0, 1) := by decide +kernel
theorem dX6_given_114 : decode cX6_given 114 = .ok (.getfield 40, 3) := by decide +kernel
theorem dX6_given_117 : decode cX6_given 117 = .ok (.iload_n 3, 1) := by decide +kernel
theorem dX6_given_118 : decode cX6_given 118 = .ok (.iconst 1, 1) := by decide +kernel
theorem dX6_given_119 : decode cX6_given 119 = .ok (.isub, 1) := by decide +kernel
theorem dX6_given_120 : decode cX6_given 120 = .ok (.iaload, 1) := by decide +kernel
theorem dX6_given_121 : decode cX6_given 121 = .ok (.aload_n 0, 1) := by decide +kernel
theorem dX6_given_122 : decode cX6_given 122 = .ok (.getfield 40, 3) := by decide +kernel
theorem dX6_given_125 : decode cX6_given 125 = .ok (.iload_n 3, 1) := by decide +kernel
theorem dX6_given_126 : decode cX6_given 126 = .ok (.iaload, 1) := by decide +kernel
theorem dX6_given_127 : decode cX6_given 127 = .ok (.invokestatic 235, 3) := by decide +kernel
theorem dX6_given_130 : decode cX6_given 130 = .ok (.iastore, 1) := by decide +kernel
theorem dX6_given_131 : decode cX6_given 131 = .ok (.iinc 4 1, 3) := by decide +kernel
theorem dX6_given_134 : decode cX6_given 134 = .ok (.goto (-129), 3) := by decide +kernel
theorem dX6_given_137 : decode cX6_given 137 = .ok (.aload_n 0, 1) := by decide +kernel
theorem dX6_given_138 : decode cX6_given 138 = .ok (.getfield 40, 3) := by decide +kernel
theorem dX6_given_141 : decode cX6_given 141 = .ok (.iconst 0, 1) := by decide +kernel
theorem dX6_given_142 : decode cX6_given 142 = .ok (.iaload, 1) := by decide +kernel
theorem dX6_given_143 : decode cX6_given 143 = .ok (.ireturn, 1) := by decide +kernel
theorem dX6_says_0 : decode cX6_says 0 = .ok (.aload_n 0, 1) := by decide +kernel
theorem dX6_says_1 : decode cX6_says 1 = .ok (.iload_n 1, 1) := by decide +kernel
theorem dX6_says_2 : decode cX6_says 2 = .ok (.invokevirtual 92, 3) := by decide +kernel
theorem dX6_says_5 : decode cX6_says 5 = .ok (.ifCond .ne 9, 3) := by decide +kernel
theorem dX6_says_8 : decode cX6_says 8 = .ok (.aload_n 0, 1) := by decide +kernel
theorem dX6_says_9 : decode cX6_says 9 = .ok (.iconst 0, 1) := by decide +kernel
theorem dX6_says_10 : decode cX6_says 10 = .ok (.invokevirtual 85, 3) := by decide +kernel
theorem dX6_says_13 : decode cX6_says 13 = .ok (.ireturn, 1) := by decide +kernel
theorem dX6_says_14 : decode cX6_says 14 = .ok (.aload_n 0, 1) := by decide +kernel
theorem dX6_says_15 : decode cX6_says 15 = .ok (.getfield 9, 3) := by decide +kernel
theorem dX6_says_18 : decode cX6_says 18 = .ok (.iconst 5, 1) := by decide +kernel
theorem dX6_says_19 : decode cX6_says 19 = .ok (.iaload, 1) := by decide +kernel
theorem dX6_says_20 : decode cX6_says 20 = .ok (.ifCond .ge 11, 3) := by decide +kernel
theorem dX6_says_23 : decode cX6_says 23 = .ok (.aload_n 0, 1) := by decide +kernel
theorem dX6_says_24 : decode cX6_says 24 = .ok (.iconst 3, 1) := by decide +kernel
theorem dX6_says_25 : decode cX6_says 25 = .ok (.invokevirtual 85, 3) := by decide +kernel
theorem dX6_says_28 : decode cX6_says 28 = .ok (.goto 15, 3) := by decide +kernel
theorem dX6_says_31 : decode cX6_says 31 = .ok (.aload_n 0, 1) := by decide +kernel
theorem dX6_says_32 : decode cX6_says 32 = .ok (.iload_n 1, 1) := by decide +kernel
theorem dX6_says_33 : decode cX6_says 33 = .ok (.aload_n 0, 1) := by decide +kernel
theorem dX6_says_34 : decode cX6_says 34 = .ok (.iload_n 1, 1) := by decide +kernel
theorem dX6_says_35 : decode cX6_says 35 = .ok (.bipush 6, 2) := by decide +kernel
theorem dX6_says_37 : decode cX6_says 37 = .ok (.invokevirtual 61, 3) := by decide +kernel
theorem dX6_says_40 : decode cX6_says 40 = .ok (.invokevirtual 74, 3) := by decide +kernel
theorem dX6_says_43 : decode cX6_says 43 = .ok (.ireturn, 1) := by decide +kernel
theorem dX6_isSheet_0 : decode cX6_isSheet 0 = .ok (.iload_n 0, 1) := by decide +kernel
theorem dX6_isSheet_1 : decode cX6_isSheet 1 = .ok (.iconst 0, 1) := by decide +kernel
theorem dX6_isSheet_2 : decode cX6_isSheet 2 = .ok (.iconst 3, 1) := by decide +kernel
theorem dX6_isSheet_3 : decode cX6_isSheet 3 = .ok (.invokestatic 57, 3) := by decide +kernel
theorem dX6_isSheet_6 : decode cX6_isSheet 6 = .ok (.ireturn, 1) := by decide +kernel
theorem dX6_longOf_0 : decode cX6_longOf 0 = .ok (.aload_n 0, 1) := by decide +kernel
theorem dX6_longOf_1 : decode cX6_longOf 1 = .ok (.getfield 46, 3) := by decide +kernel
theorem dX6_longOf_4 : decode cX6_longOf 4 = .ok (.iload_n 1, 1) := by decide +kernel
theorem dX6_longOf_5 : decode cX6_longOf 5 = .ok (.iaload, 1) := by decide +kernel
theorem dX6_longOf_6 : decode cX6_longOf 6 = .ok (.ireturn, 1) := by decide +kernel
theorem dX6_sheet_0 : decode cX6_sheet 0 = .ok (.iload_n 1, 1) := by decide +kernel
theorem dX6_sheet_1 : decode cX6_sheet 1 = .ok (.invokestatic 174, 3) := by decide +kernel
theorem dX6_sheet_4 : decode cX6_sheet 4 = .ok (.ifCond .eq 25, 3) := by decide +kernel
theorem dX6_sheet_7 : decode cX6_sheet 7 = .ok (.iload_n 2, 1) := by decide +kernel
theorem dX6_sheet_8 : decode cX6_sheet 8 = .ok (.ifCond .eq 27, 3) := by decide +kernel
theorem dX6_sheet_11 : decode cX6_sheet 11 = .ok (.iload_n 2, 1) := by decide +kernel
theorem dX6_sheet_12 : decode cX6_sheet 12 = .ok (.bipush 8, 2) := by decide +kernel
theorem dX6_sheet_14 : decode cX6_sheet 14 = .ok (.if_icmp .eq 21, 3) := by decide +kernel
theorem dX6_sheet_17 : decode cX6_sheet 17 = .ok (.iload_n 2, 1) := by decide +kernel
theorem dX6_sheet_18 : decode cX6_sheet 18 = .ok (.bipush 16, 2) := by decide +kernel
theorem dX6_sheet_20 : decode cX6_sheet 20 = .ok (.if_icmp .eq 15, 3) := by decide +kernel
theorem dX6_sheet_23 : decode cX6_sheet 23 = .ok (.iload_n 2, 1) := by decide +kernel
theorem dX6_sheet_24 : decode cX6_sheet 24 = .ok (.bipush 64, 2) := by decide +kernel
theorem dX6_sheet_26 : decode cX6_sheet 26 = .ok (.if_icmp .eq 9, 3) := by decide +kernel
theorem dX6_sheet_29 : decode cX6_sheet 29 = .ok (.aload_n 0, 1) := by decide +kernel
theorem dX6_sheet_30 : decode cX6_sheet 30 = .ok (.iconst 0, 1) := by decide +kernel
theorem dX6_sheet_31 : decode cX6_sheet 31 = .ok (.invokevirtual 85, 3) := by decide +kernel
theorem dX6_sheet_34 : decode cX6_sheet 34 = .ok (.ireturn, 1) := by decide +kernel
theorem dX6_sheet_35 : decode cX6_sheet 35 = .ok (.iload_n 3, 1) := by decide +kernel
theorem dX6_sheet_36 : decode cX6_sheet 36 = .ok (.ifCond .ge 10, 3) := by decide +kernel
theorem dX6_sheet_39 : decode cX6_sheet 39 = .ok (.aload_n 0, 1) := by decide +kernel
theorem dX6_sheet_40 : decode cX6_sheet 40 = .ok (.bipush 6, 2) := by decide +kernel
theorem dX6_sheet_42 : decode cX6_sheet 42 = .ok (.invokevirtual 85, 3) := by decide +kernel
theorem dX6_sheet_45 : decode cX6_sheet 45 = .ok (.ireturn, 1) := by decide +kernel
theorem dX6_sheet_46 : decode cX6_sheet 46 = .ok (.iload_n 3, 1) := by decide +kernel
theorem dX6_sheet_47 : decode cX6_sheet 47 = .ok (.bipush 40, 2) := by decide +kernel
theorem dX6_sheet_49 : decode cX6_sheet 49 = .ok (.if_icmp .le 9, 3) := by decide +kernel
theorem dX6_sheet_52 : decode cX6_sheet 52 = .ok (.aload_n 0, 1) := by decide +kernel
theorem dX6_sheet_53 : decode cX6_sheet 53 = .ok (.iconst 0, 1) := by decide +kernel
theorem dX6_sheet_54 : decode cX6_sheet 54 = .ok (.invokevirtual 85, 3) := by decide +kernel
theorem dX6_sheet_57 : decode cX6_sheet 57 = .ok (.ireturn, 1) := by decide +kernel
theorem dX6_sheet_58 : decode cX6_sheet 58 = .ok (.aload_n 0, 1) := by decide +kernel
theorem dX6_sheet_59 : decode cX6_sheet 59 = .ok (.getfield 43, 3) := by decide +kernel
theorem dX6_sheet_62 : decode cX6_sheet 62 = .ok (.iload_n 1, 1) := by decide +kernel
theorem dX6_sheet_63 : decode cX6_sheet 63 = .ok (.iload_n 2, 1) := by decide +kernel
theorem dX6_sheet_64 : decode cX6_sheet 64 = .ok (.iastore, 1) := by decide +kernel
theorem dX6_sheet_65 : decode cX6_sheet 65 = .ok (.aload_n 0, 1) := by decide +kernel
theorem dX6_sheet_66 : decode cX6_sheet 66 = .ok (.getfield 46, 3) := by decide +kernel
theorem dX6_sheet_69 : decode cX6_sheet 69 = .ok (.iload_n 1, 1) := by decide +kernel
theorem dX6_sheet_70 : decode cX6_sheet 70 = .ok (.iload_n 2, 1) := by decide +kernel
theorem dX6_sheet_71 : decode cX6_sheet 71 = .ok (.ifCond .ne 7, 3) := by decide +kernel
theorem dX6_sheet_74 : decode cX6_sheet 74 = .ok (.iconst 0, 1) := by decide +kernel
theorem dX6_sheet_75 : decode cX6_sheet 75 = .ok (.goto 4, 3) := by decide +kernel
theorem dX6_sheet_78 : decode cX6_sheet 78 = .ok (.iload_n 3, 1) := by decide +kernel
theorem dX6_sheet_79 : decode cX6_sheet 79 = .ok (.iastore, 1) := by decide +kernel
theorem dX6_sheet_80 : decode cX6_sheet 80 = .ok (.iconst 0, 1) := by decide +kernel
theorem dX6_sheet_81 : decode cX6_sheet 81 = .ok (.istore 4, 2) := by decide +kernel
theorem dX6_sheet_83 : decode cX6_sheet 83 = .ok (.iload 4, 2) := by decide +kernel
theorem dX6_sheet_85 : decode cX6_sheet 85 = .ok (.bipush 40, 2) := by decide +kernel
theorem dX6_sheet_87 : decode cX6_sheet 87 = .ok (.if_icmp .ge 22, 3) := by decide +kernel
theorem dX6_sheet_90 : decode cX6_sheet 90 = .ok (.aload_n 0, 1) := by decide +kernel
theorem dX6_sheet_91 : decode cX6_sheet 91 = .ok (.getfield 49, 3) := by decide +kernel
theorem dX6_sheet_94 : decode cX6_sheet 94 = .ok (.bipush 40, 2) := by decide +kernel
theorem dX6_sheet_96 : decode cX6_sheet 96 = .ok (.iload_n 1, 1) := by decide +kernel
theorem dX6_sheet_97 : decode cX6_sheet 97 = .ok (.imul, 1) := by decide +kernel
theorem dX6_sheet_98 : decode cX6_sheet 98 = .ok (.iload 4, 2) := by decide +kernel
theorem dX6_sheet_100 : decode cX6_sheet 100 = .ok (.iadd, 1) := by decide +kernel
theorem dX6_sheet_101 : decode cX6_sheet 101 = .ok (.lconst 0, 1) := by decide +kernel
theorem dX6_sheet_102 : decode cX6_sheet 102 = .ok (.lastore, 1) := by decide +kernel
theorem dX6_sheet_103 : decode cX6_sheet 103 = .ok (.iinc 4 1, 3) := by decide +kernel
theorem dX6_sheet_106 : decode cX6_sheet 106 = .ok (.goto (-23), 3) := by decide +kernel
theorem dX6_sheet_109 : decode cX6_sheet 109 = .ok (.aload_n 0, 1) := by decide +kernel
theorem dX6_sheet_110 : decode cX6_sheet 110 = .ok (.getfield 46, 3) := by decide +kernel
theorem dX6_sheet_113 : decode cX6_sheet 113 = .ok (.iload_n 1, 1) := by decide +kernel
theorem dX6_sheet_114 : decode cX6_sheet 114 = .ok (.iaload, 1) := by decide +kernel
theorem dX6_sheet_115 : decode cX6_sheet 115 = .ok (.ireturn, 1) := by decide +kernel
theorem dX6_write_0 : decode cX6_write 0 = .ok (.iload_n 1, 1) := by decide +kernel
theorem dX6_write_1 : decode cX6_write 1 = .ok (.invokestatic 174, 3) := by decide +kernel
theorem dX6_write_4 : decode cX6_write 4 = .ok (.ifCond .ne 10, 3) := by decide +kernel
theorem dX6_write_7 : decode cX6_write 7 = .ok (.aload_n 0, 1) := by decide +kernel
theorem dX6_write_8 : decode cX6_write 8 = .ok (.iconst 0, 1) := by decide +kernel
theorem dX6_write_9 : decode cX6_write 9 = .ok (.invokevirtual 85, 3) := by decide +kernel
theorem dX6_write_12 : decode cX6_write 12 = .ok (.i2l, 1) := by decide +kernel
theorem dX6_write_13 : decode cX6_write 13 = .ok (.lreturn, 1) := by decide +kernel
theorem dX6_write_14 : decode cX6_write 14 = .ok (.aload_n 0, 1) := by decide +kernel
theorem dX6_write_15 : decode cX6_write 15 = .ok (.getfield 43, 3) := by decide +kernel
theorem dX6_write_18 : decode cX6_write 18 = .ok (.iload_n 1, 1) := by decide +kernel
theorem dX6_write_19 : decode cX6_write 19 = .ok (.iaload, 1) := by decide +kernel
theorem dX6_write_20 : decode cX6_write 20 = .ok (.ifCond .ne 10, 3) := by decide +kernel
theorem dX6_write_23 : decode cX6_write 23 = .ok (.aload_n 0, 1) := by decide +kernel
theorem dX6_write_24 : decode cX6_write 24 = .ok (.iconst 5, 1) := by decide +kernel
theorem dX6_write_25 : decode cX6_write 25 = .ok (.invokevirtual 85, 3) := by decide +kernel
theorem dX6_write_28 : decode cX6_write 28 = .ok (.i2l, 1) := by decide +kernel
theorem dX6_write_29 : decode cX6_write 29 = .ok (.lreturn, 1) := by decide +kernel
theorem dX6_write_30 : decode cX6_write 30 = .ok (.iload_n 2, 1) := by decide +kernel
theorem dX6_write_31 : decode cX6_write 31 = .ok (.iconst 0, 1) := by decide +kernel
theorem dX6_write_32 : decode cX6_write 32 = .ok (.aload_n 0, 1) := by decide +kernel
theorem dX6_write_33 : decode cX6_write 33 = .ok (.getfield 46, 3) := by decide +kernel
theorem dX6_write_36 : decode cX6_write 36 = .ok (.iload_n 1, 1) := by decide +kernel
theorem dX6_write_37 : decode cX6_write 37 = .ok (.iaload, 1) := by decide +kernel
theorem dX6_write_38 : decode cX6_write 38 = .ok (.iconst 1, 1) := by decide +kernel
theorem dX6_write_39 : decode cX6_write 39 = .ok (.isub, 1) := by decide +kernel
theorem dX6_write_40 : decode cX6_write 40 = .ok (.invokestatic 57, 3) := by decide +kernel
theorem dX6_write_43 : decode cX6_write 43 = .ok (.ifCond .ne 10, 3) := by decide +kernel
theorem dX6_write_46 : decode cX6_write 46 = .ok (.aload_n 0, 1) := by decide +kernel
theorem dX6_write_47 : decode cX6_write 47 = .ok (.iconst 0, 1) := by decide +kernel
theorem dX6_write_48 : decode cX6_write 48 = .ok (.invokevirtual 85, 3) := by decide +kernel
theorem dX6_write_51 : decode cX6_write 51 = .ok (.i2l, 1) := by decide +kernel
theorem dX6_write_52 : decode cX6_write 52 = .ok (.lreturn, 1) := by decide +kernel
theorem dX6_write_53 : decode cX6_write 53 = .ok (.aload_n 0, 1) := by decide +kernel
theorem dX6_write_54 : decode cX6_write 54 = .ok (.getfield 49, 3) := by decide +kernel
theorem dX6_write_57 : decode cX6_write 57 = .ok (.bipush 40, 2) := by decide +kernel
theorem dX6_write_59 : decode cX6_write 59 = .ok (.iload_n 1, 1) := by decide +kernel
theorem dX6_write_60 : decode cX6_write 60 = .ok (.imul, 1) := by decide +kernel
theorem dX6_write_61 : decode cX6_write 61 = .ok (.iload_n 2, 1) := by decide +kernel
theorem dX6_write_62 : decode cX6_write 62 = .ok (.iadd, 1) := by decide +kernel
theorem dX6_write_63 : decode cX6_write 63 = .ok (.laload, 1) := by decide +kernel
theorem dX6_write_64 : decode cX6_write 64 = .ok (.lstore 5, 2) := by decide +kernel
theorem dX6_write_66 : decode cX6_write 66 = .ok (.aload_n 0, 1) := by decide +kernel
theorem dX6_write_67 : decode cX6_write 67 = .ok (.getfield 49, 3) := by decide +kernel
theorem dX6_write_70 : decode cX6_write 70 = .ok (.bipush 40, 2) := by decide +kernel
theorem dX6_write_72 : decode cX6_write 72 = .ok (.iload_n 1, 1) := by decide +kernel
theorem dX6_write_73 : decode cX6_write 73 = .ok (.imul, 1) := by decide +kernel
theorem dX6_write_74 : decode cX6_write 74 = .ok (.iload_n 2, 1) := by decide +kernel
theorem dX6_write_75 : decode cX6_write 75 = .ok (.iadd, 1) := by decide +kernel
theorem dX6_write_76 : decode cX6_write 76 = .ok (.aload_n 0, 1) := by decide +kernel
theorem dX6_write_77 : decode cX6_write 77 = .ok (.getfield 43, 3) := by decide +kernel
theorem dX6_write_80 : decode cX6_write 80 = .ok (.iload_n 1, 1) := by decide +kernel
theorem dX6_write_81 : decode cX6_write 81 = .ok (.iaload, 1) := by decide +kernel
theorem dX6_write_82 : decode cX6_write 82 = .ok (.bipush 8, 2) := by decide +kernel
theorem dX6_write_84 : decode cX6_write 84 = .ok (.if_icmp .ne 10, 3) := by decide +kernel
theorem dX6_write_87 : decode cX6_write 87 = .ok (.lload_n 3, 1) := by decide +kernel
theorem dX6_write_88 : decode cX6_write 88 = .ok (.l2i, 1) := by decide +kernel
theorem dX6_write_89 : decode cX6_write 89 = .ok (.i2b, 1) := by decide +kernel
theorem dX6_write_90 : decode cX6_write 90 = .ok (.i2l, 1) := by decide +kernel
theorem dX6_write_91 : decode cX6_write 91 = .ok (.goto 22, 3) := by decide +kernel
theorem dX6_write_94 : decode cX6_write 94 = .ok (.aload_n 0, 1) := by decide +kernel
theorem dX6_write_95 : decode cX6_write 95 = .ok (.getfield 43, 3) := by decide +kernel
theorem dX6_write_98 : decode cX6_write 98 = .ok (.iload_n 1, 1) := by decide +kernel
theorem dX6_write_99 : decode cX6_write 99 = .ok (.iaload, 1) := by decide +kernel
theorem dX6_write_100 : decode cX6_write 100 = .ok (.bipush 16, 2) := by decide +kernel
theorem dX6_write_102 : decode cX6_write 102 = .ok (.if_icmp .ne 10, 3) := by decide +kernel
theorem dX6_write_105 : decode cX6_write 105 = .ok (.lload_n 3, 1) := by decide +kernel
theorem dX6_write_106 : decode cX6_write 106 = .ok (.l2i, 1) := by decide +kernel
theorem dX6_write_107 : decode cX6_write 107 = .ok (.i2s, 1) := by decide +kernel
theorem dX6_write_108 : decode cX6_write 108 = .ok (.i2l, 1) := by decide +kernel
theorem dX6_write_109 : decode cX6_write 109 = .ok (.goto 4, 3) := by decide +kernel
theorem dX6_write_112 : decode cX6_write 112 = .ok (.lload_n 3, 1) := by decide +kernel
theorem dX6_write_113 : decode cX6_write 113 = .ok (.lastore, 1) := by decide +kernel
theorem dX6_write_114 : decode cX6_write 114 = .ok (.lload 5, 2) := by decide +kernel
theorem dX6_write_116 : decode cX6_write 116 = .ok (.lreturn, 1) := by decide +kernel
theorem dX6_copy_0 : decode cX6_copy 0 = .ok (.iload_n 1, 1) := by decide +kernel
theorem dX6_copy_1 : decode cX6_copy 1 = .ok (.invokestatic 174, 3) := by decide +kernel
theorem dX6_copy_4 : decode cX6_copy 4 = .ok (.ifCond .eq 10, 3) := by decide +kernel
theorem dX6_copy_7 : decode cX6_copy 7 = .ok (.iload_n 3, 1) := by decide +kernel
theorem dX6_copy_8 : decode cX6_copy 8 = .ok (.invokestatic 174, 3) := by decide +kernel
theorem dX6_copy_11 : decode cX6_copy 11 = .ok (.ifCond .ne 9, 3) := by decide +kernel
theorem dX6_copy_14 : decode cX6_copy 14 = .ok (.aload_n 0, 1) := by decide +kernel
theorem dX6_copy_15 : decode cX6_copy 15 = .ok (.iconst 0, 1) := by decide +kernel
theorem dX6_copy_16 : decode cX6_copy 16 = .ok (.invokevirtual 85, 3) := by decide +kernel
theorem dX6_copy_19 : decode cX6_copy 19 = .ok (.ireturn, 1) := by decide +kernel
theorem dX6_copy_20 : decode cX6_copy 20 = .ok (.aload_n 0, 1) := by decide +kernel
theorem dX6_copy_21 : decode cX6_copy 21 = .ok (.getfield 43, 3) := by decide +kernel
theorem dX6_copy_24 : decode cX6_copy 24 = .ok (.iload_n 1, 1) := by decide +kernel
theorem dX6_copy_25 : decode cX6_copy 25 = .ok (.iaload, 1) := by decide +kernel
theorem dX6_copy_26 : decode cX6_copy 26 = .ok (.ifCond .eq 12, 3) := by decide +kernel
theorem dX6_copy_29 : decode cX6_copy 29 = .ok (.aload_n 0, 1) := by decide +kernel
theorem dX6_copy_30 : decode cX6_copy 30 = .ok (.getfield 43, 3) := by decide +kernel
theorem dX6_copy_33 : decode cX6_copy 33 = .ok (.iload_n 3, 1) := by decide +kernel
theorem dX6_copy_34 : decode cX6_copy 34 = .ok (.iaload, 1) := by decide +kernel
theorem dX6_copy_35 : decode cX6_copy 35 = .ok (.ifCond .ne 9, 3) := by decide +kernel
theorem dX6_copy_38 : decode cX6_copy 38 = .ok (.aload_n 0, 1) := by decide +kernel
theorem dX6_copy_39 : decode cX6_copy 39 = .ok (.iconst 5, 1) := by decide +kernel
theorem dX6_copy_40 : decode cX6_copy 40 = .ok (.invokevirtual 85, 3) := by decide +kernel
theorem dX6_copy_43 : decode cX6_copy 43 = .ok (.ireturn, 1) := by decide +kernel
theorem dX6_copy_44 : decode cX6_copy 44 = .ok (.aload_n 0, 1) := by decide +kernel
theorem dX6_copy_45 : decode cX6_copy 45 = .ok (.getfield 43, 3) := by decide +kernel
theorem dX6_copy_48 : decode cX6_copy 48 = .ok (.iload_n 1, 1) := by decide +kernel
theorem dX6_copy_49 : decode cX6_copy 49 = .ok (.iaload, 1) := by decide +kernel
theorem dX6_copy_50 : decode cX6_copy 50 = .ok (.aload_n 0, 1) := by decide +kernel
theorem dX6_copy_51 : decode cX6_copy 51 = .ok (.getfield 43, 3) := by decide +kernel
theorem dX6_copy_54 : decode cX6_copy 54 = .ok (.iload_n 3, 1) := by decide +kernel
theorem dX6_copy_55 : decode cX6_copy 55 = .ok (.iaload, 1) := by decide +kernel
theorem dX6_copy_56 : decode cX6_copy 56 = .ok (.if_icmp .eq 9, 3) := by decide +kernel
theorem dX6_copy_59 : decode cX6_copy 59 = .ok (.aload_n 0, 1) := by decide +kernel
theorem dX6_copy_60 : decode cX6_copy 60 = .ok (.iconst 2, 1) := by decide +kernel
theorem dX6_copy_61 : decode cX6_copy 61 = .ok (.invokevirtual 85, 3) := by decide +kernel
theorem dX6_copy_64 : decode cX6_copy 64 = .ok (.ireturn, 1) := by decide +kernel
theorem dX6_copy_65 : decode cX6_copy 65 = .ok (.iload_n 2, 1) := by decide +kernel
theorem dX6_copy_66 : decode cX6_copy 66 = .ok (.ifCond .lt 40, 3) := by decide +kernel
theorem dX6_copy_69 : decode cX6_copy 69 = .ok (.iload 4, 2) := by decide +kernel
theorem dX6_copy_71 : decode cX6_copy 71 = .ok (.ifCond .lt 35, 3) := by decide +kernel
theorem dX6_copy_74 : decode cX6_copy 74 = .ok (.iload 5, 2) := by decide +kernel
theorem dX6_copy_76 : decode cX6_copy 76 = .ok (.ifCond .lt 30, 3) := by decide +kernel
theorem dX6_copy_79 : decode cX6_copy 79 = .ok (.iload_n 2, 1) := by decide +kernel
theorem dX6_copy_80 : decode cX6_copy 80 = .ok (.aload_n 0, 1) := by decide +kernel
theorem dX6_copy_81 : decode cX6_copy 81 = .ok (.getfield 46, 3) := by decide +kernel
theorem dX6_copy_84 : decode cX6_copy 84 = .ok (.iload_n 1, 1) := by decide +kernel
theorem dX6_copy_85 : decode cX6_copy 85 = .ok (.iaload, 1) := by decide +kernel
theorem dX6_copy_86 : decode cX6_copy 86 = .ok (.iload 5, 2) := by decide +kernel
theorem dX6_copy_88 : decode cX6_copy 88 = .ok (.isub, 1) := by decide +kernel
theorem dX6_copy_89 : decode cX6_copy 89 = .ok (.if_icmp .gt 17, 3) := by decide +kernel
theorem dX6_copy_92 : decode cX6_copy 92 = .ok (.iload 4, 2) := by decide +kernel
theorem dX6_copy_94 : decode cX6_copy 94 = .ok (.aload_n 0, 1) := by decide +kernel
theorem dX6_copy_95 : decode cX6_copy 95 = .ok (.getfield 46, 3) := by decide +kernel
theorem dX6_copy_98 : decode cX6_copy 98 = .ok (.iload_n 3, 1) := by decide +kernel
theorem dX6_copy_99 : decode cX6_copy 99 = .ok (.iaload, 1) := by decide +kernel
theorem dX6_copy_100 : decode cX6_copy 100 = .ok (.iload 5, 2) := by decide +kernel
theorem dX6_copy_102 : decode cX6_copy 102 = .ok (.isub, 1) := by decide +kernel
theorem dX6_copy_103 : decode cX6_copy 103 = .ok (.if_icmp .le 9, 3) := by decide +kernel
theorem dX6_copy_106 : decode cX6_copy 106 = .ok (.aload_n 0, 1) := by decide +kernel
theorem dX6_copy_107 : decode cX6_copy 107 = .ok (.iconst 0, 1) := by decide +kernel
theorem dX6_copy_108 : decode cX6_copy 108 = .ok (.invokevirtual 85, 3) := by decide +kernel
theorem dX6_copy_111 : decode cX6_copy 111 = .ok (.ireturn, 1) := by decide +kernel
theorem dX6_copy_112 : decode cX6_copy 112 = .ok (.iconst 0, 1) := by decide +kernel
theorem dX6_copy_113 : decode cX6_copy 113 = .ok (.istore 6, 2) := by decide +kernel
theorem dX6_copy_115 : decode cX6_copy 115 = .ok (.iload 6, 2) := by decide +kernel
theorem dX6_copy_117 : decode cX6_copy 117 = .ok (.iload 5, 2) := by decide +kernel
theorem dX6_copy_119 : decode cX6_copy 119 = .ok (.if_icmp .ge 30, 3) := by decide +kernel
theorem dX6_copy_122 : decode cX6_copy 122 = .ok (.aload_n 0, 1) := by decide +kernel
theorem dX6_copy_123 : decode cX6_copy 123 = .ok (.getfield 53, 3) := by decide +kernel
theorem dX6_copy_126 : decode cX6_copy 126 = .ok (.iload 6, 2) := by decide +kernel
theorem dX6_copy_128 : decode cX6_copy 128 = .ok (.aload_n 0, 1) := by decide +kernel
theorem dX6_copy_129 : decode cX6_copy 129 = .ok (.getfield 49, 3) := by decide +kernel
theorem dX6_copy_132 : decode cX6_copy 132 = .ok (.bipush 40, 2) := by decide +kernel
theorem dX6_copy_134 : decode cX6_copy 134 = .ok (.iload_n 1, 1) := by decide +kernel
theorem dX6_copy_135 : decode cX6_copy 135 = .ok (.imul, 1) := by decide +kernel
theorem dX6_copy_136 : decode cX6_copy 136 = .ok (.iload_n 2, 1) := by decide +kernel
theorem dX6_copy_137 : decode cX6_copy 137 = .ok (.iadd, 1) := by decide +kernel
theorem dX6_copy_138 : decode cX6_copy 138 = .ok (.iload 6, 2) := by decide +kernel
theorem dX6_copy_140 : decode cX6_copy 140 = .ok (.iadd, 1) := by decide +kernel
theorem dX6_copy_141 : decode cX6_copy 141 = .ok (.laload, 1) := by decide +kernel
theorem dX6_copy_142 : decode cX6_copy 142 = .ok (.lastore, 1) := by decide +kernel
theorem dX6_copy_143 : decode cX6_copy 143 = .ok (.iinc 6 1, 3) := by decide +kernel
theorem dX6_copy_146 : decode cX6_copy 146 = .ok (.goto (-31), 3) := by decide +kernel
theorem dX6_copy_149 : decode cX6_copy 149 = .ok (.iconst 0, 1) := by decide +kernel
theorem dX6_copy_150 : decode cX6_copy 150 = .ok (.istore 6, 2) := by decide +kernel
theorem dX6_copy_152 : decode cX6_copy 152 = .ok (.iload 6, 2) := by decide +kernel
theorem dX6_copy_154 : decode cX6_copy 154 = .ok (.iload 5, 2) := by decide +kernel
theorem dX6_copy_156 : decode cX6_copy 156 = .ok (.if_icmp .ge 31, 3) := by decide +kernel
theorem dX6_copy_159 : decode cX6_copy 159 = .ok (.aload_n 0, 1) := by decide +kernel
theorem dX6_copy_160 : decode cX6_copy 160 = .ok (.getfield 49, 3) := by decide +kernel
theorem dX6_copy_163 : decode cX6_copy 163 = .ok (.bipush 40, 2) := by decide +kernel
theorem dX6_copy_165 : decode cX6_copy 165 = .ok (.iload_n 3, 1) := by decide +kernel
theorem dX6_copy_166 : decode cX6_copy 166 = .ok (.imul, 1) := by decide +kernel
theorem dX6_copy_167 : decode cX6_copy 167 = .ok (.iload 4, 2) := by decide +kernel
theorem dX6_copy_169 : decode cX6_copy 169 = .ok (.iadd, 1) := by decide +kernel
theorem dX6_copy_170 : decode cX6_copy 170 = .ok (.iload 6, 2) := by decide +kernel
theorem dX6_copy_172 : decode cX6_copy 172 = .ok (.iadd, 1) := by decide +kernel
theorem dX6_copy_173 : decode cX6_copy 173 = .ok (.aload_n 0, 1) := by decide +kernel
theorem dX6_copy_174 : decode cX6_copy 174 = .ok (.getfield 53, 3) := by decide +kernel
theorem dX6_copy_177 : decode cX6_copy 177 = .ok (.iload 6, 2) := by decide +kernel
theorem dX6_copy_179 : decode cX6_copy 179 = .ok (.laload, 1) := by decide +kernel
theorem dX6_copy_180 : decode cX6_copy 180 = .ok (.lastore, 1) := by decide +kernel
theorem dX6_copy_181 : decode cX6_copy 181 = .ok (.iinc 6 1, 3) := by decide +kernel
theorem dX6_copy_184 : decode cX6_copy 184 = .ok (.goto (-32), 3) := by decide +kernel
theorem dX6_copy_187 : decode cX6_copy 187 = .ok (.iload 5, 2) := by decide +kernel
theorem dX6_copy_189 : decode cX6_copy 189 = .ok (.ireturn, 1) := by decide +kernel
theorem dX6_draws_0 : decode cX6_draws 0 = .ok (.iload_n 1, 1) := by decide +kernel
theorem dX6_draws_1 : decode cX6_draws 1 = .ok (.invokestatic 174, 3) := by decide +kernel
theorem dX6_draws_4 : decode cX6_draws 4 = .ok (.ifCond .ne 9, 3) := by decide +kernel
theorem dX6_draws_7 : decode cX6_draws 7 = .ok (.aload_n 0, 1) := by decide +kernel
theorem dX6_draws_8 : decode cX6_draws 8 = .ok (.iconst 0, 1) := by decide +kernel
theorem dX6_draws_9 : decode cX6_draws 9 = .ok (.invokevirtual 85, 3) := by decide +kernel
theorem dX6_draws_12 : decode cX6_draws 12 = .ok (.ireturn, 1) := by decide +kernel
theorem dX6_draws_13 : decode cX6_draws 13 = .ok (.aload_n 0, 1) := by decide +kernel
theorem dX6_draws_14 : decode cX6_draws 14 = .ok (.getfield 43, 3) := by decide +kernel
theorem dX6_draws_17 : decode cX6_draws 17 = .ok (.iload_n 1, 1) := by decide +kernel
theorem dX6_draws_18 : decode cX6_draws 18 = .ok (.iaload, 1) := by decide +kernel
theorem dX6_draws_19 : decode cX6_draws 19 = .ok (.ifCond .ne 9, 3) := by decide +kernel
theorem dX6_draws_22 : decode cX6_draws 22 = .ok (.aload_n 0, 1) := by decide +kernel
theorem dX6_draws_23 : decode cX6_draws 23 = .ok (.iconst 5, 1) := by decide +kernel
theorem dX6_draws_24 : decode cX6_draws 24 = .ok (.invokevirtual 85, 3) := by decide +kernel
theorem dX6_draws_27 : decode cX6_draws 27 = .ok (.ireturn, 1) := by decide +kernel
theorem dX6_draws_28 : decode cX6_draws 28 = .ok (.aload_n 0, 1) := by decide +kernel
theorem dX6_draws_29 : decode cX6_draws 29 = .ok (.getfield 9, 3) := by decide +kernel
theorem dX6_draws_32 : decode cX6_draws 32 = .ok (.iconst 2, 1) := by decide +kernel
theorem dX6_draws_33 : decode cX6_draws 33 = .ok (.iaload, 1) := by decide +kernel
theorem dX6_draws_34 : decode cX6_draws 34 = .ok (.istore_n 2, 1) := by decide +kernel
theorem dX6_draws_35 : decode cX6_draws 35 = .ok (.iconst 0, 1) := by decide +kernel
theorem dX6_draws_36 : decode cX6_draws 36 = .ok (.istore_n 3, 1) := by decide +kernel
theorem dX6_draws_37 : decode cX6_draws 37 = .ok (.iconst 0, 1) := by decide +kernel
theorem dX6_draws_38 : decode cX6_draws 38 = .ok (.istore 4, 2) := by decide +kernel
theorem dX6_draws_40 : decode cX6_draws 40 = .ok (.iload 4, 2) := by decide +kernel
theorem dX6_draws_42 : decode cX6_draws 42 = .ok (.aload_n 0, 1) := by decide +kernel
theorem dX6_draws_43 : decode cX6_draws 43 = .ok (.getfield 46, 3) := by decide +kernel
theorem dX6_draws_46 : decode cX6_draws 46 = .ok (.iload_n 1, 1) := by decide +kernel
theorem dX6_draws_47 : decode cX6_draws 47 = .ok (.iaload, 1) := by decide +kernel
theorem dX6_draws_48 : decode cX6_draws 48 = .ok (.if_icmp .ge 57, 3) := by decide +kernel
theorem dX6_draws_51 : decode cX6_draws 51 = .ok (.aload_n 0, 1) := by decide +kernel
theorem dX6_draws_52 : decode cX6_draws 52 = .ok (.getfield 49, 3) := by decide +kernel
theorem dX6_draws_55 : decode cX6_draws 55 = .ok (.bipush 40, 2) := by decide +kernel
theorem dX6_draws_57 : decode cX6_draws 57 = .ok (.iload_n 1, 1) := by decide +kernel
theorem dX6_draws_58 : decode cX6_draws 58 = .ok (.imul, 1) := by decide +kernel
theorem dX6_draws_59 : decode cX6_draws 59 = .ok (.iload 4, 2) := by decide +kernel
theorem dX6_draws_61 : decode cX6_draws 61 = .ok (.iadd, 1) := by decide +kernel
theorem dX6_draws_62 : decode cX6_draws 62 = .ok (.laload, 1) := by decide +kernel
theorem dX6_draws_63 : decode cX6_draws 63 = .ok (.lstore 5, 2) := by decide +kernel
theorem dX6_draws_65 : decode cX6_draws 65 = .ok (.lload 5, 2) := by decide +kernel
theorem dX6_draws_67 : decode cX6_draws 67 = .ok (.ldc2_w 238, 3) := by decide +kernel
theorem dX6_draws_70 : decode cX6_draws 70 = .ok (.lcmp, 1) := by decide +kernel
theorem dX6_draws_71 : decode cX6_draws 71 = .ok (.ifCond .lt 28, 3) := by decide +kernel
theorem dX6_draws_74 : decode cX6_draws 74 = .ok (.lload 5, 2) := by decide +kernel
theorem dX6_draws_76 : decode cX6_draws 76 = .ok (.ldc2_w 240, 3) := by decide +kernel
theorem dX6_draws_79 : decode cX6_draws 79 = .ok (.lcmp, 1) := by decide +kernel
theorem dX6_draws_80 : decode cX6_draws 80 = .ok (.ifCond .gt 19, 3) := by decide +kernel
theorem dX6_draws_83 : decode cX6_draws 83 = .ok (.aload_n 0, 1) := by decide +kernel
theorem dX6_draws_84 : decode cX6_draws 84 = .ok (.getfield 9, 3) := by decide +kernel
theorem dX6_draws_87 : decode cX6_draws 87 = .ok (.iconst 2, 1) := by decide +kernel
theorem dX6_draws_88 : decode cX6_draws 88 = .ok (.lload 5, 2) := by decide +kernel
theorem dX6_draws_90 : decode cX6_draws 90 = .ok (.l2i, 1) := by decide +kernel
theorem dX6_draws_91 : decode cX6_draws 91 = .ok (.iastore, 1) := by decide +kernel
theorem dX6_draws_92 : decode cX6_draws 92 = .ok (.aload_n 0, 1) := by decide +kernel
theorem dX6_draws_93 : decode cX6_draws 93 = .ok (.invokevirtual 140, 3) := by decide +kernel
theorem dX6_draws_96 : decode cX6_draws 96 = .ok (.iinc 3 1, 3) := by decide +kernel
theorem dX6_draws_99 : decode cX6_draws 99 = .ok (.iinc 4 1, 3) := by decide +kernel
theorem dX6_draws_102 : decode cX6_draws 102 = .ok (.goto (-62), 3) := by decide +kernel
theorem dX6_draws_105 : decode cX6_draws 105 = .ok (.aload_n 0, 1) := by decide +kernel
theorem dX6_draws_106 : decode cX6_draws 106 = .ok (.getfield 9, 3) := by decide +kernel
theorem dX6_draws_109 : decode cX6_draws 109 = .ok (.iconst 2, 1) := by decide +kernel
theorem dX6_draws_110 : decode cX6_draws 110 = .ok (.iload_n 2, 1) := by decide +kernel
theorem dX6_draws_111 : decode cX6_draws 111 = .ok (.iastore, 1) := by decide +kernel
theorem dX6_draws_112 : decode cX6_draws 112 = .ok (.iload_n 3, 1) := by decide +kernel
theorem dX6_draws_113 : decode cX6_draws 113 = .ok (.ireturn, 1) := by decide +kernel
theorem dX6_read_0 : decode cX6_read 0 = .ok (.iload_n 1, 1) := by decide +kernel
theorem dX6_read_1 : decode cX6_read 1 = .ok (.invokestatic 174, 3) := by decide +kernel
theorem dX6_read_4 : decode cX6_read 4 = .ok (.ifCond .ne 9, 3) := by decide +kernel
theorem dX6_read_7 : decode cX6_read 7 = .ok (.aload_n 0, 1) := by decide +kernel
theorem dX6_read_8 : decode cX6_read 8 = .ok (.iconst 0, 1) := by decide +kernel
theorem dX6_read_9 : decode cX6_read 9 = .ok (.invokevirtual 85, 3) := by decide +kernel
theorem dX6_read_12 : decode cX6_read 12 = .ok (.ireturn, 1) := by decide +kernel
theorem dX6_read_13 : decode cX6_read 13 = .ok (.aload_n 0, 1) := by decide +kernel
theorem dX6_read_14 : decode cX6_read 14 = .ok (.getfield 43, 3) := by decide +kernel
theorem dX6_read_17 : decode cX6_read 17 = .ok (.iload_n 1, 1) := by decide +kernel
theorem dX6_read_18 : decode cX6_read 18 = .ok (.iaload, 1) := by decide +kernel
theorem dX6_read_19 : decode cX6_read 19 = .ok (.ifCond .ne 9, 3) := by decide +kernel
theorem dX6_read_22 : decode cX6_read 22 = .ok (.aload_n 0, 1) := by decide +kernel
theorem dX6_read_23 : decode cX6_read 23 = .ok (.iconst 5, 1) := by decide +kernel
theorem dX6_read_24 : decode cX6_read 24 = .ok (.invokevirtual 85, 3) := by decide +kernel
theorem dX6_read_27 : decode cX6_read 27 = .ok (.ireturn, 1) := by decide +kernel
theorem dX6_read_28 : decode cX6_read 28 = .ok (.iconst 0, 1) := by decide +kernel
theorem dX6_read_29 : decode cX6_read 29 = .ok (.istore_n 2, 1) := by decide +kernel
theorem dX6_read_30 : decode cX6_read 30 = .ok (.iload_n 2, 1) := by decide +kernel
theorem dX6_read_31 : decode cX6_read 31 = .ok (.aload_n 0, 1) := by decide +kernel
theorem dX6_read_32 : decode cX6_read 32 = .ok (.getfield 46, 3) := by decide +kernel
theorem dX6_read_35 : decode cX6_read 35 = .ok (.iload_n 1, 1) := by decide +kernel
theorem dX6_read_36 : decode cX6_read 36 = .ok (.iaload, 1) := by decide +kernel
theorem dX6_read_37 : decode cX6_read 37 = .ok (.if_icmp .ge 43, 3) := by decide +kernel
theorem dX6_read_40 : decode cX6_read 40 = .ok (.aload_n 0, 1) := by decide +kernel
theorem dX6_read_41 : decode cX6_read 41 = .ok (.iload_n 2, 1) := by decide +kernel
theorem dX6_read_42 : decode cX6_read 42 = .ok (.invokevirtual 92, 3) := by decide +kernel
theorem dX6_read_45 : decode cX6_read 45 = .ok (.ifCond .eq 25, 3) := by decide +kernel
theorem dX6_read_48 : decode cX6_read 48 = .ok (.aload_n 0, 1) := by decide +kernel
theorem dX6_read_49 : decode cX6_read 49 = .ok (.getfield 49, 3) := by decide +kernel
theorem dX6_read_52 : decode cX6_read 52 = .ok (.bipush 40, 2) := by decide +kernel
theorem dX6_read_54 : decode cX6_read 54 = .ok (.iload_n 1, 1) := by decide +kernel
theorem dX6_read_55 : decode cX6_read 55 = .ok (.imul, 1) := by decide +kernel
theorem dX6_read_56 : decode cX6_read 56 = .ok (.iload_n 2, 1) := by decide +kernel
theorem dX6_read_57 : decode cX6_read 57 = .ok (.iadd, 1) := by decide +kernel
theorem dX6_read_58 : decode cX6_read 58 = .ok (.laload, 1) := by decide +kernel
theorem dX6_read_59 : decode cX6_read 59 = .ok (.aload_n 0, 1) := by decide +kernel
theorem dX6_read_60 : decode cX6_read 60 = .ok (.iload_n 2, 1) := by decide +kernel
theorem dX6_read_61 : decode cX6_read 61 = .ok (.iconst 5, 1) := by decide +kernel
theorem dX6_read_62 : decode cX6_read 62 = .ok (.invokevirtual 61, 3) := by decide +kernel
theorem dX6_read_65 : decode cX6_read 65 = .ok (.i2l, 1) := by decide +kernel
theorem dX6_read_66 : decode cX6_read 66 = .ok (.lcmp, 1) := by decide +kernel
theorem dX6_read_67 : decode cX6_read 67 = .ok (.ifCond .eq 7, 3) := by decide +kernel
theorem dX6_read_70 : decode cX6_read 70 = .ok (.iconst 1, 1) := by decide +kernel
theorem dX6_read_71 : decode cX6_read 71 = .ok (.iload_n 2, 1) := by decide +kernel
theorem dX6_read_72 : decode cX6_read 72 = .ok (.iadd, 1) := by decide +kernel
theorem dX6_read_73 : decode cX6_read 73 = .ok (.ireturn, 1) := by decide +kernel
theorem dX6_read_74 : decode cX6_read 74 = .ok (.iinc 2 1, 3) := by decide +kernel
theorem dX6_read_77 : decode cX6_read 77 = .ok (.goto (-47), 3) := by decide +kernel
theorem dX6_read_80 : decode cX6_read 80 = .ok (.iconst 0, 1) := by decide +kernel
theorem dX6_read_81 : decode cX6_read 81 = .ok (.ireturn, 1) := by decide +kernel
theorem dX6_image_0 : decode cX6_image 0 = .ok (.aload_n 0, 1) := by decide +kernel
theorem dX6_image_1 : decode cX6_image 1 = .ok (.getfield 9, 3) := by decide +kernel
theorem dX6_image_4 : decode cX6_image 4 = .ok (.aload_n 0, 1) := by decide +kernel
theorem dX6_image_5 : decode cX6_image 5 = .ok (.getfield 13, 3) := by decide +kernel
theorem dX6_image_8 : decode cX6_image 8 = .ok (.invokestatic 149, 3) := by decide +kernel
theorem dX6_image_11 : decode cX6_image 11 = .ok (.aload_n 0, 1) := by decide +kernel
theorem dX6_image_12 : decode cX6_image 12 = .ok (.iconst 1, 1) := by decide +kernel
theorem dX6_image_13 : decode cX6_image 13 = .ok (.putfield 242, 3) := by decide +kernel
theorem dX6_image_16 : decode cX6_image 16 = .ok (.iconst 1, 1) := by decide +kernel
theorem dX6_image_17 : decode cX6_image 17 = .ok (.ireturn, 1) := by decide +kernel
theorem dX6_undo_0 : decode cX6_undo 0 = .ok (.aload_n 0, 1) := by decide +kernel
theorem dX6_undo_1 : decode cX6_undo 1 = .ok (.getfield 242, 3) := by decide +kernel
theorem dX6_undo_4 : decode cX6_undo 4 = .ok (.ifCond .ne 9, 3) := by decide +kernel
theorem dX6_undo_7 : decode cX6_undo 7 = .ok (.aload_n 0, 1) := by decide +kernel
theorem dX6_undo_8 : decode cX6_undo 8 = .ok (.iconst 3, 1) := by decide +kernel
theorem dX6_undo_9 : decode cX6_undo 9 = .ok (.invokevirtual 85, 3) := by decide +kernel
theorem dX6_undo_12 : decode cX6_undo 12 = .ok (.ireturn, 1) := by decide +kernel
theorem dX6_undo_13 : decode cX6_undo 13 = .ok (.aload_n 0, 1) := by decide +kernel
theorem dX6_undo_14 : decode cX6_undo 14 = .ok (.getfield 13, 3) := by decide +kernel
theorem dX6_undo_17 : decode cX6_undo 17 = .ok (.aload_n 0, 1) := by decide +kernel
theorem dX6_undo_18 : decode cX6_undo 18 = .ok (.getfield 9, 3) := by decide +kernel
theorem dX6_undo_21 : decode cX6_undo 21 = .ok (.invokestatic 149, 3) := by decide +kernel
theorem dX6_undo_24 : decode cX6_undo 24 = .ok (.aload_n 0, 1) := by decide +kernel
theorem dX6_undo_25 : decode cX6_undo 25 = .ok (.getfield 9, 3) := by decide +kernel
theorem dX6_undo_28 : decode cX6_undo 28 = .ok (.iconst 0, 1) := by decide +kernel
theorem dX6_undo_29 : decode cX6_undo 29 = .ok (.iaload, 1) := by decide +kernel
theorem dX6_undo_30 : decode cX6_undo 30 = .ok (.ireturn, 1) := by decide +kernel
theorem dX6_tear_0 : decode cX6_tear 0 = .ok (.aload_n 0, 1) := by decide +kernel
theorem dX6_tear_1 : decode cX6_tear 1 = .ok (.getfield 242, 3) := by decide +kernel
theorem dX6_tear_4 : decode cX6_tear 4 = .ok (.ifCond .eq 7, 3) := by decide +kernel
theorem dX6_tear_7 : decode cX6_tear 7 = .ok (.iconst 1, 1) := by decide +kernel
theorem dX6_tear_8 : decode cX6_tear 8 = .ok (.goto 4, 3) := by decide +kernel
theorem dX6_tear_11 : decode cX6_tear 11 = .ok (.iconst 0, 1) := by decide +kernel
theorem dX6_tear_12 : decode cX6_tear 12 = .ok (.istore_n 1, 1) := by decide +kernel
theorem dX6_tear_13 : decode cX6_tear 13 = .ok (.aload_n 0, 1) := by decide +kernel
theorem dX6_tear_14 : decode cX6_tear 14 = .ok (.iconst 0, 1) := by decide +kernel
theorem dX6_tear_15 : decode cX6_tear 15 = .ok (.putfield 242, 3) := by decide +kernel
theorem dX6_tear_18 : decode cX6_tear 18 = .ok (.iload_n 1, 1) := by decide +kernel
theorem dX6_tear_19 : decode cX6_tear 19 = .ok (.ireturn, 1) := by decide +kernel
theorem dX6_count_0 : decode cX6_count 0 = .ok (.iload_n 1, 1) := by decide +kernel
theorem dX6_count_1 : decode cX6_count 1 = .ok (.tableswitch 110 0 7 #[47, 54, 61, 68, 83, 88, 95, 102], 47) := by decide +kernel
theorem dX6_count_48 : decode cX6_count 48 = .ok (.aload_n 0, 1) := by decide +kernel
theorem dX6_count_49 : decode cX6_count 49 = .ok (.getfield 9, 3) := by decide +kernel
theorem dX6_count_52 : decode cX6_count 52 = .ok (.iconst 0, 1) := by decide +kernel
theorem dX6_count_53 : decode cX6_count 53 = .ok (.iaload, 1) := by decide +kernel
theorem dX6_count_54 : decode cX6_count 54 = .ok (.ireturn, 1) := by decide +kernel
theorem dX6_count_55 : decode cX6_count 55 = .ok (.aload_n 0, 1) := by decide +kernel
theorem dX6_count_56 : decode cX6_count 56 = .ok (.getfield 9, 3) := by decide +kernel
theorem dX6_count_59 : decode cX6_count 59 = .ok (.iconst 3, 1) := by decide +kernel
theorem dX6_count_60 : decode cX6_count 60 = .ok (.iaload, 1) := by decide +kernel
theorem dX6_count_61 : decode cX6_count 61 = .ok (.ireturn, 1) := by decide +kernel
theorem dX6_count_62 : decode cX6_count 62 = .ok (.aload_n 0, 1) := by decide +kernel
theorem dX6_count_63 : decode cX6_count 63 = .ok (.getfield 9, 3) := by decide +kernel
theorem dX6_count_66 : decode cX6_count 66 = .ok (.iconst 4, 1) := by decide +kernel
theorem dX6_count_67 : decode cX6_count 67 = .ok (.iaload, 1) := by decide +kernel
theorem dX6_count_68 : decode cX6_count 68 = .ok (.ireturn, 1) := by decide +kernel
theorem dX6_count_69 : decode cX6_count 69 = .ok (.aload_n 0, 1) := by decide +kernel
theorem dX6_count_70 : decode cX6_count 70 = .ok (.getfield 9, 3) := by decide +kernel
theorem dX6_count_73 : decode cX6_count 73 = .ok (.iconst 5, 1) := by decide +kernel
theorem dX6_count_74 : decode cX6_count 74 = .ok (.iaload, 1) := by decide +kernel
theorem dX6_count_75 : decode cX6_count 75 = .ok (.ifCond .ge 7, 3) := by decide +kernel
theorem dX6_count_78 : decode cX6_count 78 = .ok (.iconst 0, 1) := by decide +kernel
theorem dX6_count_79 : decode cX6_count 79 = .ok (.goto 4, 3) := by decide +kernel
theorem dX6_count_82 : decode cX6_count 82 = .ok (.iconst 1, 1) := by decide +kernel
theorem dX6_count_83 : decode cX6_count 83 = .ok (.ireturn, 1) := by decide +kernel
theorem dX6_count_84 : decode cX6_count 84 = .ok (.aload_n 0, 1) := by decide +kernel
theorem dX6_count_85 : decode cX6_count 85 = .ok (.getfield 183, 3) := by decide +kernel
theorem dX6_count_88 : decode cX6_count 88 = .ok (.ireturn, 1) := by decide +kernel
theorem dX6_count_89 : decode cX6_count 89 = .ok (.aload_n 0, 1) := by decide +kernel
theorem dX6_count_90 : decode cX6_count 90 = .ok (.getfield 9, 3) := by decide +kernel
theorem dX6_count_93 : decode cX6_count 93 = .ok (.iconst 2, 1) := by decide +kernel
theorem dX6_count_94 : decode cX6_count 94 = .ok (.iaload, 1) := by decide +kernel
theorem dX6_count_95 : decode cX6_count 95 = .ok (.ireturn, 1) := by decide +kernel
theorem dX6_count_96 : decode cX6_count 96 = .ok (.aload_n 0, 1) := by decide +kernel
theorem dX6_count_97 : decode cX6_count 97 = .ok (.getfield 9, 3) := by decide +kernel
theorem dX6_count_100 : decode cX6_count 100 = .ok (.iconst 1, 1) := by decide +kernel
theorem dX6_count_101 : decode cX6_count 101 = .ok (.iaload, 1) := by decide +kernel
theorem dX6_count_102 : decode cX6_count 102 = .ok (.ireturn, 1) := by decide +kernel
theorem dX6_count_103 : decode cX6_count 103 = .ok (.aload_n 0, 1) := by decide +kernel
theorem dX6_count_104 : decode cX6_count 104 = .ok (.getfield 9, 3) := by decide +kernel
theorem dX6_count_107 : decode cX6_count 107 = .ok (.bipush 13, 2) := by decide +kernel
theorem dX6_count_109 : decode cX6_count 109 = .ok (.iaload, 1) := by decide +kernel
theorem dX6_count_110 : decode cX6_count 110 = .ok (.ireturn, 1) := by decide +kernel
theorem dX6_count_111 : decode cX6_count 111 = .ok (.aload_n 0, 1) := by decide +kernel
theorem dX6_count_112 : decode cX6_count 112 = .ok (.iconst 0, 1) := by decide +kernel
theorem dX6_count_113 : decode cX6_count 113 = .ok (.invokevirtual 85, 3) := by decide +kernel
theorem dX6_count_116 : decode cX6_count 116 = .ok (.ireturn, 1) := by decide +kernel
theorem dX6_status_0 : decode cX6_status 0 = .ok (.iload_n 1, 1) := by decide +kernel
theorem dX6_status_1 : decode cX6_status 1 = .ok (.iconst (-1), 1) := by decide +kernel
theorem dX6_status_2 : decode cX6_status 2 = .ok (.bipush 6, 2) := by decide +kernel
theorem dX6_status_4 : decode cX6_status 4 = .ok (.invokestatic 57, 3) := by decide +kernel
theorem dX6_status_7 : decode cX6_status 7 = .ok (.ifCond .ne 9, 3) := by decide +kernel
theorem dX6_status_10 : decode cX6_status 10 = .ok (.aload_n 0, 1) := by decide +kernel
theorem dX6_status_11 : decode cX6_status 11 = .ok (.iconst 0, 1) := by decide +kernel
theorem dX6_status_12 : decode cX6_status 12 = .ok (.invokevirtual 85, 3) := by decide +kernel
theorem dX6_status_15 : decode cX6_status 15 = .ok (.ireturn, 1) := by decide +kernel
theorem dX6_status_16 : decode cX6_status 16 = .ok (.iconst 0, 1) := by decide +kernel
theorem dX6_status_17 : decode cX6_status 17 = .ok (.istore_n 2, 1) := by decide +kernel
theorem dX6_status_18 : decode cX6_status 18 = .ok (.iconst 0, 1) := by decide +kernel
theorem dX6_status_19 : decode cX6_status 19 = .ok (.istore_n 3, 1) := by decide +kernel
theorem dX6_status_20 : decode cX6_status 20 = .ok (.iload_n 3, 1) := by decide +kernel
theorem dX6_status_21 : decode cX6_status 21 = .ok (.bipush 7, 2) := by decide +kernel
theorem dX6_status_23 : decode cX6_status 23 = .ok (.if_icmp .ge 31, 3) := by decide +kernel
theorem dX6_status_26 : decode cX6_status 26 = .ok (.iload_n 2, 1) := by decide +kernel
theorem dX6_status_27 : decode cX6_status 27 = .ok (.iload_n 1, 1) := by decide +kernel
theorem dX6_status_28 : decode cX6_status 28 = .ok (.ifCond .lt 8, 3) := by decide +kernel
theorem dX6_status_31 : decode cX6_status 31 = .ok (.iload_n 1, 1) := by decide +kernel
theorem dX6_status_32 : decode cX6_status 32 = .ok (.iload_n 3, 1) := by decide +kernel
theorem dX6_status_33 : decode cX6_status 33 = .ok (.if_icmp .ne 12, 3) := by decide +kernel
theorem dX6_status_36 : decode cX6_status 36 = .ok (.aload_n 0, 1) := by decide +kernel
theorem dX6_status_37 : decode cX6_status 37 = .ok (.getfield 22, 3) := by decide +kernel
theorem dX6_status_40 : decode cX6_status 40 = .ok (.iload_n 3, 1) := by decide +kernel
theorem dX6_status_41 : decode cX6_status 41 = .ok (.iaload, 1) := by decide +kernel
theorem dX6_status_42 : decode cX6_status 42 = .ok (.goto 4, 3) := by decide +kernel
theorem dX6_status_45 : decode cX6_status 45 = .ok (.iconst 0, 1) := by decide +kernel
theorem dX6_status_46 : decode cX6_status 46 = .ok (.iadd, 1) := by decide +kernel
theorem dX6_status_47 : decode cX6_status 47 = .ok (.istore_n 2, 1) := by decide +kernel
theorem dX6_status_48 : decode cX6_status 48 = .ok (.iinc 3 1, 3) := by decide +kernel
theorem dX6_status_51 : decode cX6_status 51 = .ok (.goto (-31), 3) := by decide +kernel
theorem dX6_status_54 : decode cX6_status 54 = .ok (.iload_n 2, 1) := by decide +kernel
theorem dX6_status_55 : decode cX6_status 55 = .ok (.ireturn, 1) := by decide +kernel
end
section
theorem dL_law_0 : decode cL_law 0 = .ok (.new 7, 3) := by decide +kernel
theorem dL_law_3 : decode cL_law 3 = .ok (.dup, 1) := by decide +kernel
theorem dL_law_4 : decode cL_law 4 = .ok (.invokespecial 9, 3) := by decide +kernel
theorem dL_law_7 : decode cL_law 7 = .ok (.astore_n 1, 1) := by decide +kernel
theorem dL_law_8 : decode cL_law 8 = .ok (.new 10, 3) := by decide +kernel
theorem dL_law_11 : decode cL_law 11 = .ok (.dup, 1) := by decide +kernel
theorem dL_law_12 : decode cL_law 12 = .ok (.invokespecial 12, 3) := by decide +kernel
theorem dL_law_15 : decode cL_law 15 = .ok (.astore_n 2, 1) := by decide +kernel
theorem dL_law_16 : decode cL_law 16 = .ok (.iconst 0, 1) := by decide +kernel
theorem dL_law_17 : decode cL_law 17 = .ok (.istore_n 3, 1) := by decide +kernel
theorem dL_law_18 : decode cL_law 18 = .ok (.iload_n 3, 1) := by decide +kernel
theorem dL_law_19 : decode cL_law 19 = .ok (.aload_n 0, 1) := by decide +kernel
theorem dL_law_20 : decode cL_law 20 = .ok (.arraylength, 1) := by decide +kernel
theorem dL_law_21 : decode cL_law 21 = .ok (.bipush 6, 2) := by decide +kernel
theorem dL_law_23 : decode cL_law 23 = .ok (.isub, 1) := by decide +kernel
theorem dL_law_24 : decode cL_law 24 = .ok (.if_icmp .gt 1271, 3) := by decide +kernel
theorem dL_law_27 : decode cL_law 27 = .ok (.aload_n 0, 1) := by decide +kernel
theorem dL_law_28 : decode cL_law 28 = .ok (.iload_n 3, 1) := by decide +kernel
theorem dL_law_29 : decode cL_law 29 = .ok (.iaload, 1) := by decide +kernel
theorem dL_law_30 : decode cL_law 30 = .ok (.bipush 63, 2) := by decide +kernel
theorem dL_law_32 : decode cL_law 32 = .ok (.iand, 1) := by decide +kernel
theorem dL_law_33 : decode cL_law 33 = .ok (.tableswitch 1256 0 36 #[163, 216, 249, 292, 325, 358, 391, 424, 457, 480, 503, 536, 569, 592, 605, 618, 651, 675, 708, 731, 774, 807, 850, 883, 896, 909, 922, 945, 988, 1062, 1125, 1148, 1171, 1184, 1197, 1210, 1233], 163) := by decide +kernel
theorem dL_law_196 : decode cL_law 196 = .ok (.aload_n 1, 1) := by decide +kernel
theorem dL_law_197 : decode cL_law 197 = .ok (.aload_n 0, 1) := by decide +kernel
theorem dL_law_198 : decode cL_law 198 = .ok (.iload_n 3, 1) := by decide +kernel
theorem dL_law_199 : decode cL_law 199 = .ok (.iconst 1, 1) := by decide +kernel
theorem dL_law_200 : decode cL_law 200 = .ok (.iadd, 1) := by decide +kernel
theorem dL_law_201 : decode cL_law 201 = .ok (.iaload, 1) := by decide +kernel
theorem dL_law_202 : decode cL_law 202 = .ok (.aload_n 0, 1) := by decide +kernel
theorem dL_law_203 : decode cL_law 203 = .ok (.iload_n 3, 1) := by decide +kernel
theorem dL_law_204 : decode cL_law 204 = .ok (.iconst 2, 1) := by decide +kernel
theorem dL_law_205 : decode cL_law 205 = .ok (.iadd, 1) := by decide +kernel
theorem dL_law_206 : decode cL_law 206 = .ok (.iaload, 1) := by decide +kernel
theorem dL_law_207 : decode cL_law 207 = .ok (.aload_n 0, 1) := by decide +kernel
theorem dL_law_208 : decode cL_law 208 = .ok (.iload_n 3, 1) := by decide +kernel
theorem dL_law_209 : decode cL_law 209 = .ok (.iconst 3, 1) := by decide +kernel
theorem dL_law_210 : decode cL_law 210 = .ok (.iadd, 1) := by decide +kernel
theorem dL_law_211 : decode cL_law 211 = .ok (.iaload, 1) := by decide +kernel
theorem dL_law_212 : decode cL_law 212 = .ok (.aload_n 0, 1) := by decide +kernel
theorem dL_law_213 : decode cL_law 213 = .ok (.iload_n 3, 1) := by decide +kernel
theorem dL_law_214 : decode cL_law 214 = .ok (.iconst 4, 1) := by decide +kernel
theorem dL_law_215 : decode cL_law 215 = .ok (.iadd, 1) := by decide +kernel
theorem dL_law_216 : decode cL_law 216 = .ok (.iaload, 1) := by decide +kernel
theorem dL_law_217 : decode cL_law 217 = .ok (.invokevirtual 13, 3) := by decide +kernel
theorem dL_law_220 : decode cL_law 220 = .ok (.aload_n 2, 1) := by decide +kernel
theorem dL_law_221 : decode cL_law 221 = .ok (.aload_n 0, 1) := by decide +kernel
theorem dL_law_222 : decode cL_law 222 = .ok (.iload_n 3, 1) := by decide +kernel
theorem dL_law_223 : decode cL_law 223 = .ok (.iconst 1, 1) := by decide +kernel
theorem dL_law_224 : decode cL_law 224 = .ok (.iadd, 1) := by decide +kernel
theorem dL_law_225 : decode cL_law 225 = .ok (.iaload, 1) := by decide +kernel
theorem dL_law_226 : decode cL_law 226 = .ok (.aload_n 0, 1) := by decide +kernel
theorem dL_law_227 : decode cL_law 227 = .ok (.iload_n 3, 1) := by decide +kernel
theorem dL_law_228 : decode cL_law 228 = .ok (.iconst 2, 1) := by decide +kernel
theorem dL_law_229 : decode cL_law 229 = .ok (.iadd, 1) := by decide +kernel
theorem dL_law_230 : decode cL_law 230 = .ok (.iaload, 1) := by decide +kernel
theorem dL_law_231 : decode cL_law 231 = .ok (.aload_n 0, 1) := by decide +kernel
theorem dL_law_232 : decode cL_law 232 = .ok (.iload_n 3, 1) := by decide +kernel
theorem dL_law_233 : decode cL_law 233 = .ok (.iconst 3, 1) := by decide +kernel
theorem dL_law_234 : decode cL_law 234 = .ok (.iadd, 1) := by decide +kernel
theorem dL_law_235 : decode cL_law 235 = .ok (.iaload, 1) := by decide +kernel
theorem dL_law_236 : decode cL_law 236 = .ok (.aload_n 0, 1) := by decide +kernel
theorem dL_law_237 : decode cL_law 237 = .ok (.iload_n 3, 1) := by decide +kernel
theorem dL_law_238 : decode cL_law 238 = .ok (.iconst 4, 1) := by decide +kernel
theorem dL_law_239 : decode cL_law 239 = .ok (.iadd, 1) := by decide +kernel
theorem dL_law_240 : decode cL_law 240 = .ok (.iaload, 1) := by decide +kernel
theorem dL_law_241 : decode cL_law 241 = .ok (.invokevirtual 17, 3) := by decide +kernel
theorem dL_law_244 : decode cL_law 244 = .ok (.if_icmp .eq 1045, 3) := by decide +kernel
theorem dL_law_247 : decode cL_law 247 = .ok (.iconst 0, 1) := by decide +kernel
theorem dL_law_248 : decode cL_law 248 = .ok (.ireturn, 1) := by decide +kernel
theorem dL_law_249 : decode cL_law 249 = .ok (.aload_n 1, 1) := by decide +kernel
theorem dL_law_250 : decode cL_law 250 = .ok (.aload_n 0, 1) := by decide +kernel
theorem dL_law_251 : decode cL_law 251 = .ok (.iload_n 3, 1) := by decide +kernel
theorem dL_law_252 : decode cL_law 252 = .ok (.iconst 1, 1) := by decide +kernel
theorem dL_law_253 : decode cL_law 253 = .ok (.iadd, 1) := by decide +kernel
theorem dL_law_254 : decode cL_law 254 = .ok (.iaload, 1) := by decide +kernel
theorem dL_law_255 : decode cL_law 255 = .ok (.aload_n 0, 1) := by decide +kernel
theorem dL_law_256 : decode cL_law 256 = .ok (.iload_n 3, 1) := by decide +kernel
theorem dL_law_257 : decode cL_law 257 = .ok (.iconst 2, 1) := by decide +kernel
theorem dL_law_258 : decode cL_law 258 = .ok (.iadd, 1) := by decide +kernel
theorem dL_law_259 : decode cL_law 259 = .ok (.iaload, 1) := by decide +kernel
theorem dL_law_260 : decode cL_law 260 = .ok (.invokevirtual 18, 3) := by decide +kernel
theorem dL_law_263 : decode cL_law 263 = .ok (.aload_n 2, 1) := by decide +kernel
theorem dL_law_264 : decode cL_law 264 = .ok (.aload_n 0, 1) := by decide +kernel
theorem dL_law_265 : decode cL_law 265 = .ok (.iload_n 3, 1) := by decide +kernel
theorem dL_law_266 : decode cL_law 266 = .ok (.iconst 1, 1) := by decide +kernel
theorem dL_law_267 : decode cL_law 267 = .ok (.iadd, 1) := by decide +kernel
theorem dL_law_268 : decode cL_law 268 = .ok (.iaload, 1) := by decide +kernel
theorem dL_law_269 : decode cL_law 269 = .ok (.aload_n 0, 1) := by decide +kernel
theorem dL_law_270 : decode cL_law 270 = .ok (.iload_n 3, 1) := by decide +kernel
theorem dL_law_271 : decode cL_law 271 = .ok (.iconst 2, 1) := by decide +kernel
theorem dL_law_272 : decode cL_law 272 = .ok (.iadd, 1) := by decide +kernel
theorem dL_law_273 : decode cL_law 273 = .ok (.iaload, 1) := by decide +kernel
theorem dL_law_274 : decode cL_law 274 = .ok (.invokevirtual 22, 3) := by decide +kernel
theorem dL_law_277 : decode cL_law 277 = .ok (.if_icmp .eq 1012, 3) := by decide +kernel
theorem dL_law_280 : decode cL_law 280 = .ok (.iconst 0, 1) := by decide +kernel
theorem dL_law_281 : decode cL_law 281 = .ok (.ireturn, 1) := by decide +kernel
theorem dL_law_282 : decode cL_law 282 = .ok (.aload_n 1, 1) := by decide +kernel
theorem dL_law_283 : decode cL_law 283 = .ok (.aload_n 0, 1) := by decide +kernel
theorem dL_law_284 : decode cL_law 284 = .ok (.iload_n 3, 1) := by decide +kernel
theorem dL_law_285 : decode cL_law 285 = .ok (.iconst 1, 1) := by decide +kernel
theorem dL_law_286 : decode cL_law 286 = .ok (.iadd, 1) := by decide +kernel
theorem dL_law_287 : decode cL_law 287 = .ok (.iaload, 1) := by decide +kernel
theorem dL_law_288 : decode cL_law 288 = .ok (.aload_n 0, 1) := by decide +kernel
theorem dL_law_289 : decode cL_law 289 = .ok (.iload_n 3, 1) := by decide +kernel
theorem dL_law_290 : decode cL_law 290 = .ok (.iconst 2, 1) := by decide +kernel
theorem dL_law_291 : decode cL_law 291 = .ok (.iadd, 1) := by decide +kernel
theorem dL_law_292 : decode cL_law 292 = .ok (.iaload, 1) := by decide +kernel
theorem dL_law_293 : decode cL_law 293 = .ok (.aload_n 0, 1) := by decide +kernel
theorem dL_law_294 : decode cL_law 294 = .ok (.iload_n 3, 1) := by decide +kernel
theorem dL_law_295 : decode cL_law 295 = .ok (.iconst 3, 1) := by decide +kernel
theorem dL_law_296 : decode cL_law 296 = .ok (.iadd, 1) := by decide +kernel
theorem dL_law_297 : decode cL_law 297 = .ok (.iaload, 1) := by decide +kernel
theorem dL_law_298 : decode cL_law 298 = .ok (.invokevirtual 23, 3) := by decide +kernel
theorem dL_law_301 : decode cL_law 301 = .ok (.aload_n 2, 1) := by decide +kernel
theorem dL_law_302 : decode cL_law 302 = .ok (.aload_n 0, 1) := by decide +kernel
theorem dL_law_303 : decode cL_law 303 = .ok (.iload_n 3, 1) := by decide +kernel
theorem dL_law_304 : decode cL_law 304 = .ok (.iconst 1, 1) := by decide +kernel
theorem dL_law_305 : decode cL_law 305 = .ok (.iadd, 1) := by decide +kernel
theorem dL_law_306 : decode cL_law 306 = .ok (.iaload, 1) := by decide +kernel
theorem dL_law_307 : decode cL_law 307 = .ok (.aload_n 0, 1) := by decide +kernel
theorem dL_law_308 : decode cL_law 308 = .ok (.iload_n 3, 1) := by decide +kernel
theorem dL_law_309 : decode cL_law 309 = .ok (.iconst 2, 1) := by decide +kernel
theorem dL_law_310 : decode cL_law 310 = .ok (.iadd, 1) := by decide +kernel
theorem dL_law_311 : decode cL_law 311 = .ok (.iaload, 1) := by decide +kernel
theorem dL_law_312 : decode cL_law 312 = .ok (.aload_n 0, 1) := by decide +kernel
theorem dL_law_313 : decode cL_law 313 = .ok (.iload_n 3, 1) := by decide +kernel
theorem dL_law_314 : decode cL_law 314 = .ok (.iconst 3, 1) := by decide +kernel
theorem dL_law_315 : decode cL_law 315 = .ok (.iadd, 1) := by decide +kernel
theorem dL_law_316 : decode cL_law 316 = .ok (.iaload, 1) := by decide +kernel
theorem dL_law_317 : decode cL_law 317 = .ok (.invokevirtual 27, 3) := by decide +kernel
theorem dL_law_320 : decode cL_law 320 = .ok (.if_icmp .eq 969, 3) := by decide +kernel
theorem dL_law_323 : decode cL_law 323 = .ok (.iconst 0, 1) := by decide +kernel
theorem dL_law_324 : decode cL_law 324 = .ok (.ireturn, 1) := by decide +kernel
theorem dL_law_325 : decode cL_law 325 = .ok (.aload_n 1, 1) := by decide +kernel
theorem dL_law_326 : decode cL_law 326 = .ok (.aload_n 0, 1) := by decide +kernel
theorem dL_law_327 : decode cL_law 327 = .ok (.iload_n 3, 1) := by decide +kernel
theorem dL_law_328 : decode cL_law 328 = .ok (.iconst 1, 1) := by decide +kernel
theorem dL_law_329 : decode cL_law 329 = .ok (.iadd, 1) := by decide +kernel
theorem dL_law_330 : decode cL_law 330 = .ok (.iaload, 1) := by decide +kernel
theorem dL_law_331 : decode cL_law 331 = .ok (.aload_n 0, 1) := by decide +kernel
theorem dL_law_332 : decode cL_law 332 = .ok (.iload_n 3, 1) := by decide +kernel
theorem dL_law_333 : decode cL_law 333 = .ok (.iconst 2, 1) := by decide +kernel
theorem dL_law_334 : decode cL_law 334 = .ok (.iadd, 1) := by decide +kernel
theorem dL_law_335 : decode cL_law 335 = .ok (.iaload, 1) := by decide +kernel
theorem dL_law_336 : decode cL_law 336 = .ok (.invokevirtual 28, 3) := by decide +kernel
theorem dL_law_339 : decode cL_law 339 = .ok (.aload_n 2, 1) := by decide +kernel
theorem dL_law_340 : decode cL_law 340 = .ok (.aload_n 0, 1) := by decide +kernel
theorem dL_law_341 : decode cL_law 341 = .ok (.iload_n 3, 1) := by decide +kernel
theorem dL_law_342 : decode cL_law 342 = .ok (.iconst 1, 1) := by decide +kernel
theorem dL_law_343 : decode cL_law 343 = .ok (.iadd, 1) := by decide +kernel
theorem dL_law_344 : decode cL_law 344 = .ok (.iaload, 1) := by decide +kernel
theorem dL_law_345 : decode cL_law 345 = .ok (.aload_n 0, 1) := by decide +kernel
theorem dL_law_346 : decode cL_law 346 = .ok (.iload_n 3, 1) := by decide +kernel
theorem dL_law_347 : decode cL_law 347 = .ok (.iconst 2, 1) := by decide +kernel
theorem dL_law_348 : decode cL_law 348 = .ok (.iadd, 1) := by decide +kernel
theorem dL_law_349 : decode cL_law 349 = .ok (.iaload, 1) := by decide +kernel
theorem dL_law_350 : decode cL_law 350 = .ok (.invokevirtual 31, 3) := by decide +kernel
theorem dL_law_353 : decode cL_law 353 = .ok (.if_icmp .eq 936, 3) := by decide +kernel
theorem dL_law_356 : decode cL_law 356 = .ok (.iconst 0, 1) := by decide +kernel
theorem dL_law_357 : decode cL_law 357 = .ok (.ireturn, 1) := by decide +kernel
theorem dL_law_358 : decode cL_law 358 = .ok (.aload_n 1, 1) := by decide +kernel
theorem dL_law_359 : decode cL_law 359 = .ok (.aload_n 0, 1) := by decide +kernel
theorem dL_law_360 : decode cL_law 360 = .ok (.iload_n 3, 1) := by decide +kernel
theorem dL_law_361 : decode cL_law 361 = .ok (.iconst 1, 1) := by decide +kernel
theorem dL_law_362 : decode cL_law 362 = .ok (.iadd, 1) := by decide +kernel
theorem dL_law_363 : decode cL_law 363 = .ok (.iaload, 1) := by decide +kernel
theorem dL_law_364 : decode cL_law 364 = .ok (.aload_n 0, 1) := by decide +kernel
theorem dL_law_365 : decode cL_law 365 = .ok (.iload_n 3, 1) := by decide +kernel
theorem dL_law_366 : decode cL_law 366 = .ok (.iconst 2, 1) := by decide +kernel
theorem dL_law_367 : decode cL_law 367 = .ok (.iadd, 1) := by decide +kernel
theorem dL_law_368 : decode cL_law 368 = .ok (.iaload, 1) := by decide +kernel
theorem dL_law_369 : decode cL_law 369 = .ok (.invokevirtual 32, 3) := by decide +kernel
theorem dL_law_372 : decode cL_law 372 = .ok (.aload_n 2, 1) := by decide +kernel
theorem dL_law_373 : decode cL_law 373 = .ok (.aload_n 0, 1) := by decide +kernel
theorem dL_law_374 : decode cL_law 374 = .ok (.iload_n 3, 1) := by decide +kernel
theorem dL_law_375 : decode cL_law 375 = .ok (.iconst 1, 1) := by decide +kernel
theorem dL_law_376 : decode cL_law 376 = .ok (.iadd, 1) := by decide +kernel
theorem dL_law_377 : decode cL_law 377 = .ok (.iaload, 1) := by decide +kernel
theorem dL_law_378 : decode cL_law 378 = .ok (.aload_n 0, 1) := by decide +kernel
theorem dL_law_379 : decode cL_law 379 = .ok (.iload_n 3, 1) := by decide +kernel
theorem dL_law_380 : decode cL_law 380 = .ok (.iconst 2, 1) := by decide +kernel
theorem dL_law_381 : decode cL_law 381 = .ok (.iadd, 1) := by decide +kernel
theorem dL_law_382 : decode cL_law 382 = .ok (.iaload, 1) := by decide +kernel
theorem dL_law_383 : decode cL_law 383 = .ok (.invokevirtual 35, 3) := by decide +kernel
theorem dL_law_386 : decode cL_law 386 = .ok (.if_icmp .eq 903, 3) := by decide +kernel
theorem dL_law_389 : decode cL_law 389 = .ok (.iconst 0, 1) := by decide +kernel
theorem dL_law_390 : decode cL_law 390 = .ok (.ireturn, 1) := by decide +kernel
theorem dL_law_391 : decode cL_law 391 = .ok (.aload_n 1, 1) := by decide +kernel
theorem dL_law_392 : decode cL_law 392 = .ok (.aload_n 0, 1) := by decide +kernel
theorem dL_law_393 : decode cL_law 393 = .ok (.iload_n 3, 1) := by decide +kernel
theorem dL_law_394 : decode cL_law 394 = .ok (.iconst 1, 1) := by decide +kernel
theorem dL_law_395 : decode cL_law 395 = .ok (.iadd, 1) := by decide +kernel
theorem dL_law_396 : decode cL_law 396 = .ok (.iaload, 1) := by decide +kernel
theorem dL_law_397 : decode cL_law 397 = .ok (.aload_n 0, 1) := by decide +kernel
theorem dL_law_398 : decode cL_law 398 = .ok (.iload_n 3, 1) := by decide +kernel
theorem dL_law_399 : decode cL_law 399 = .ok (.iconst 2, 1) := by decide +kernel
theorem dL_law_400 : decode cL_law 400 = .ok (.iadd, 1) := by decide +kernel
theorem dL_law_401 : decode cL_law 401 = .ok (.iaload, 1) := by decide +kernel
theorem dL_law_402 : decode cL_law 402 = .ok (.invokevirtual 36, 3) := by decide +kernel
theorem dL_law_405 : decode cL_law 405 = .ok (.aload_n 2, 1) := by decide +kernel
theorem dL_law_406 : decode cL_law 406 = .ok (.aload_n 0, 1) := by decide +kernel
theorem dL_law_407 : decode cL_law 407 = .ok (.iload_n 3, 1) := by decide +kernel
theorem dL_law_408 : decode cL_law 408 = .ok (.iconst 1, 1) := by decide +kernel
theorem dL_law_409 : decode cL_law 409 = .ok (.iadd, 1) := by decide +kernel
theorem dL_law_410 : decode cL_law 410 = .ok (.iaload, 1) := by decide +kernel
theorem dL_law_411 : decode cL_law 411 = .ok (.aload_n 0, 1) := by decide +kernel
theorem dL_law_412 : decode cL_law 412 = .ok (.iload_n 3, 1) := by decide +kernel
theorem dL_law_413 : decode cL_law 413 = .ok (.iconst 2, 1) := by decide +kernel
theorem dL_law_414 : decode cL_law 414 = .ok (.iadd, 1) := by decide +kernel
theorem dL_law_415 : decode cL_law 415 = .ok (.iaload, 1) := by decide +kernel
theorem dL_law_416 : decode cL_law 416 = .ok (.invokevirtual 39, 3) := by decide +kernel
theorem dL_law_419 : decode cL_law 419 = .ok (.if_icmp .eq 870, 3) := by decide +kernel
theorem dL_law_422 : decode cL_law 422 = .ok (.iconst 0, 1) := by decide +kernel
theorem dL_law_423 : decode cL_law 423 = .ok (.ireturn, 1) := by decide +kernel
theorem dL_law_424 : decode cL_law 424 = .ok (.aload_n 1, 1) := by decide +kernel
theorem dL_law_425 : decode cL_law 425 = .ok (.aload_n 0, 1) := by decide +kernel
theorem dL_law_426 : decode cL_law 426 = .ok (.iload_n 3, 1) := by decide +kernel
theorem dL_law_427 : decode cL_law 427 = .ok (.iconst 1, 1) := by decide +kernel
theorem dL_law_428 : decode cL_law 428 = .ok (.iadd, 1) := by decide +kernel
theorem dL_law_429 : decode cL_law 429 = .ok (.iaload, 1) := by decide +kernel
theorem dL_law_430 : decode cL_law 430 = .ok (.aload_n 0, 1) := by decide +kernel
theorem dL_law_431 : decode cL_law 431 = .ok (.iload_n 3, 1) := by decide +kernel
theorem dL_law_432 : decode cL_law 432 = .ok (.iconst 2, 1) := by decide +kernel
theorem dL_law_433 : decode cL_law 433 = .ok (.iadd, 1) := by decide +kernel
theorem dL_law_434 : decode cL_law 434 = .ok (.iaload, 1) := by decide +kernel
theorem dL_law_435 : decode cL_law 435 = .ok (.invokevirtual 40, 3) := by decide +kernel
theorem dL_law_438 : decode cL_law 438 = .ok (.aload_n 2, 1) := by decide +kernel
theorem dL_law_439 : decode cL_law 439 = .ok (.aload_n 0, 1) := by decide +kernel
theorem dL_law_440 : decode cL_law 440 = .ok (.iload_n 3, 1) := by decide +kernel
theorem dL_law_441 : decode cL_law 441 = .ok (.iconst 1, 1) := by decide +kernel
theorem dL_law_442 : decode cL_law 442 = .ok (.iadd, 1) := by decide +kernel
theorem dL_law_443 : decode cL_law 443 = .ok (.iaload, 1) := by decide +kernel
theorem dL_law_444 : decode cL_law 444 = .ok (.aload_n 0, 1) := by decide +kernel
theorem dL_law_445 : decode cL_law 445 = .ok (.iload_n 3, 1) := by decide +kernel
theorem dL_law_446 : decode cL_law 446 = .ok (.iconst 2, 1) := by decide +kernel
theorem dL_law_447 : decode cL_law 447 = .ok (.iadd, 1) := by decide +kernel
theorem dL_law_448 : decode cL_law 448 = .ok (.iaload, 1) := by decide +kernel
theorem dL_law_449 : decode cL_law 449 = .ok (.invokevirtual 43, 3) := by decide +kernel
theorem dL_law_452 : decode cL_law 452 = .ok (.if_icmp .eq 837, 3) := by decide +kernel
theorem dL_law_455 : decode cL_law 455 = .ok (.iconst 0, 1) := by decide +kernel
theorem dL_law_456 : decode cL_law 456 = .ok (.ireturn, 1) := by decide +kernel
theorem dL_law_457 : decode cL_law 457 = .ok (.aload_n 1, 1) := by decide +kernel
theorem dL_law_458 : decode cL_law 458 = .ok (.aload_n 0, 1) := by decide +kernel
theorem dL_law_459 : decode cL_law 459 = .ok (.iload_n 3, 1) := by decide +kernel
theorem dL_law_460 : decode cL_law 460 = .ok (.iconst 1, 1) := by decide +kernel
theorem dL_law_461 : decode cL_law 461 = .ok (.iadd, 1) := by decide +kernel
theorem dL_law_462 : decode cL_law 462 = .ok (.iaload, 1) := by decide +kernel
theorem dL_law_463 : decode cL_law 463 = .ok (.aload_n 0, 1) := by decide +kernel
theorem dL_law_464 : decode cL_law 464 = .ok (.iload_n 3, 1) := by decide +kernel
theorem dL_law_465 : decode cL_law 465 = .ok (.iconst 2, 1) := by decide +kernel
theorem dL_law_466 : decode cL_law 466 = .ok (.iadd, 1) := by decide +kernel
theorem dL_law_467 : decode cL_law 467 = .ok (.iaload, 1) := by decide +kernel
theorem dL_law_468 : decode cL_law 468 = .ok (.invokevirtual 44, 3) := by decide +kernel
theorem dL_law_471 : decode cL_law 471 = .ok (.aload_n 2, 1) := by decide +kernel
theorem dL_law_472 : decode cL_law 472 = .ok (.aload_n 0, 1) := by decide +kernel
theorem dL_law_473 : decode cL_law 473 = .ok (.iload_n 3, 1) := by decide +kernel
theorem dL_law_474 : decode cL_law 474 = .ok (.iconst 1, 1) := by decide +kernel
theorem dL_law_475 : decode cL_law 475 = .ok (.iadd, 1) := by decide +kernel
theorem dL_law_476 : decode cL_law 476 = .ok (.iaload, 1) := by decide +kernel
theorem dL_law_477 : decode cL_law 477 = .ok (.aload_n 0, 1) := by decide +kernel
theorem dL_law_478 : decode cL_law 478 = .ok (.iload_n 3, 1) := by decide +kernel
theorem dL_law_479 : decode cL_law 479 = .ok (.iconst 2, 1) := by decide +kernel
theorem dL_law_480 : decode cL_law 480 = .ok (.iadd, 1) := by decide +kernel
theorem dL_law_481 : decode cL_law 481 = .ok (.iaload, 1) := by decide +kernel
theorem dL_law_482 : decode cL_law 482 = .ok (.invokevirtual 47, 3) := by decide +kernel
theorem dL_law_485 : decode cL_law 485 = .ok (.if_icmp .eq 804, 3) := by decide +kernel
theorem dL_law_488 : decode cL_law 488 = .ok (.iconst 0, 1) := by decide +kernel
theorem dL_law_489 : decode cL_law 489 = .ok (.ireturn, 1) := by decide +kernel
theorem dL_law_490 : decode cL_law 490 = .ok (.aload_n 1, 1) := by decide +kernel
theorem dL_law_491 : decode cL_law 491 = .ok (.aload_n 0, 1) := by decide +kernel
theorem dL_law_492 : decode cL_law 492 = .ok (.iload_n 3, 1) := by decide +kernel
theorem dL_law_493 : decode cL_law 493 = .ok (.iconst 1, 1) := by decide +kernel
theorem dL_law_494 : decode cL_law 494 = .ok (.iadd, 1) := by decide +kernel
theorem dL_law_495 : decode cL_law 495 = .ok (.iaload, 1) := by decide +kernel
theorem dL_law_496 : decode cL_law 496 = .ok (.invokevirtual 48, 3) := by decide +kernel
theorem dL_law_499 : decode cL_law 499 = .ok (.aload_n 2, 1) := by decide +kernel
theorem dL_law_500 : decode cL_law 500 = .ok (.aload_n 0, 1) := by decide +kernel
theorem dL_law_501 : decode cL_law 501 = .ok (.iload_n 3, 1) := by decide +kernel
theorem dL_law_502 : decode cL_law 502 = .ok (.iconst 1, 1) := by decide +kernel
theorem dL_law_503 : decode cL_law 503 = .ok (.iadd, 1) := by decide +kernel
theorem dL_law_504 : decode cL_law 504 = .ok (.iaload, 1) := by decide +kernel
theorem dL_law_505 : decode cL_law 505 = .ok (.invokevirtual 52, 3) := by decide +kernel
theorem dL_law_508 : decode cL_law 508 = .ok (.if_icmp .eq 781, 3) := by decide +kernel
theorem dL_law_511 : decode cL_law 511 = .ok (.iconst 0, 1) := by decide +kernel
theorem dL_law_512 : decode cL_law 512 = .ok (.ireturn, 1) := by decide +kernel
theorem dL_law_513 : decode cL_law 513 = .ok (.aload_n 1, 1) := by decide +kernel
theorem dL_law_514 : decode cL_law 514 = .ok (.aload_n 0, 1) := by decide +kernel
theorem dL_law_515 : decode cL_law 515 = .ok (.iload_n 3, 1) := by decide +kernel
theorem dL_law_516 : decode cL_law 516 = .ok (.iconst 1, 1) := by decide +kernel
theorem dL_law_517 : decode cL_law 517 = .ok (.iadd, 1) := by decide +kernel
theorem dL_law_518 : decode cL_law 518 = .ok (.iaload, 1) := by decide +kernel
theorem dL_law_519 : decode cL_law 519 = .ok (.invokevirtual 53, 3) := by decide +kernel
theorem dL_law_522 : decode cL_law 522 = .ok (.aload_n 2, 1) := by decide +kernel
theorem dL_law_523 : decode cL_law 523 = .ok (.aload_n 0, 1) := by decide +kernel
theorem dL_law_524 : decode cL_law 524 = .ok (.iload_n 3, 1) := by decide +kernel
theorem dL_law_525 : decode cL_law 525 = .ok (.iconst 1, 1) := by decide +kernel
theorem dL_law_526 : decode cL_law 526 = .ok (.iadd, 1) := by decide +kernel
theorem dL_law_527 : decode cL_law 527 = .ok (.iaload, 1) := by decide +kernel
theorem dL_law_528 : decode cL_law 528 = .ok (.invokevirtual 56, 3) := by decide +kernel
theorem dL_law_531 : decode cL_law 531 = .ok (.if_icmp .eq 758, 3) := by decide +kernel
theorem dL_law_534 : decode cL_law 534 = .ok (.iconst 0, 1) := by decide +kernel
theorem dL_law_535 : decode cL_law 535 = .ok (.ireturn, 1) := by decide +kernel
theorem dL_law_536 : decode cL_law 536 = .ok (.aload_n 1, 1) := by decide +kernel
theorem dL_law_537 : decode cL_law 537 = .ok (.aload_n 0, 1) := by decide +kernel
theorem dL_law_538 : decode cL_law 538 = .ok (.iload_n 3, 1) := by decide +kernel
theorem dL_law_539 : decode cL_law 539 = .ok (.iconst 1, 1) := by decide +kernel
theorem dL_law_540 : decode cL_law 540 = .ok (.iadd, 1) := by decide +kernel
theorem dL_law_541 : decode cL_law 541 = .ok (.iaload, 1) := by decide +kernel
theorem dL_law_542 : decode cL_law 542 = .ok (.aload_n 0, 1) := by decide +kernel
theorem dL_law_543 : decode cL_law 543 = .ok (.iload_n 3, 1) := by decide +kernel
theorem dL_law_544 : decode cL_law 544 = .ok (.iconst 2, 1) := by decide +kernel
theorem dL_law_545 : decode cL_law 545 = .ok (.iadd, 1) := by decide +kernel
theorem dL_law_546 : decode cL_law 546 = .ok (.iaload, 1) := by decide +kernel
theorem dL_law_547 : decode cL_law 547 = .ok (.invokevirtual 57, 3) := by decide +kernel
theorem dL_law_550 : decode cL_law 550 = .ok (.aload_n 2, 1) := by decide +kernel
theorem dL_law_551 : decode cL_law 551 = .ok (.aload_n 0, 1) := by decide +kernel
theorem dL_law_552 : decode cL_law 552 = .ok (.iload_n 3, 1) := by decide +kernel
theorem dL_law_553 : decode cL_law 553 = .ok (.iconst 1, 1) := by decide +kernel
theorem dL_law_554 : decode cL_law 554 = .ok (.iadd, 1) := by decide +kernel
theorem dL_law_555 : decode cL_law 555 = .ok (.iaload, 1) := by decide +kernel
theorem dL_law_556 : decode cL_law 556 = .ok (.aload_n 0, 1) := by decide +kernel
theorem dL_law_557 : decode cL_law 557 = .ok (.iload_n 3, 1) := by decide +kernel
theorem dL_law_558 : decode cL_law 558 = .ok (.iconst 2, 1) := by decide +kernel
theorem dL_law_559 : decode cL_law 559 = .ok (.iadd, 1) := by decide +kernel
theorem dL_law_560 : decode cL_law 560 = .ok (.iaload, 1) := by decide +kernel
theorem dL_law_561 : decode cL_law 561 = .ok (.invokevirtual 60, 3) := by decide +kernel
theorem dL_law_564 : decode cL_law 564 = .ok (.if_icmp .eq 725, 3) := by decide +kernel
theorem dL_law_567 : decode cL_law 567 = .ok (.iconst 0, 1) := by decide +kernel
theorem dL_law_568 : decode cL_law 568 = .ok (.ireturn, 1) := by decide +kernel
theorem dL_law_569 : decode cL_law 569 = .ok (.aload_n 1, 1) := by decide +kernel
theorem dL_law_570 : decode cL_law 570 = .ok (.aload_n 0, 1) := by decide +kernel
theorem dL_law_571 : decode cL_law 571 = .ok (.iload_n 3, 1) := by decide +kernel
theorem dL_law_572 : decode cL_law 572 = .ok (.iconst 1, 1) := by decide +kernel
theorem dL_law_573 : decode cL_law 573 = .ok (.iadd, 1) := by decide +kernel
theorem dL_law_574 : decode cL_law 574 = .ok (.iaload, 1) := by decide +kernel
theorem dL_law_575 : decode cL_law 575 = .ok (.aload_n 0, 1) := by decide +kernel
theorem dL_law_576 : decode cL_law 576 = .ok (.iload_n 3, 1) := by decide +kernel
theorem dL_law_577 : decode cL_law 577 = .ok (.iconst 2, 1) := by decide +kernel
theorem dL_law_578 : decode cL_law 578 = .ok (.iadd, 1) := by decide +kernel
theorem dL_law_579 : decode cL_law 579 = .ok (.iaload, 1) := by decide +kernel
theorem dL_law_580 : decode cL_law 580 = .ok (.invokevirtual 61, 3) := by decide +kernel
theorem dL_law_583 : decode cL_law 583 = .ok (.aload_n 2, 1) := by decide +kernel
theorem dL_law_584 : decode cL_law 584 = .ok (.aload_n 0, 1) := by decide +kernel
theorem dL_law_585 : decode cL_law 585 = .ok (.iload_n 3, 1) := by decide +kernel
theorem dL_law_586 : decode cL_law 586 = .ok (.iconst 1, 1) := by decide +kernel
theorem dL_law_587 : decode cL_law 587 = .ok (.iadd, 1) := by decide +kernel
theorem dL_law_588 : decode cL_law 588 = .ok (.iaload, 1) := by decide +kernel
theorem dL_law_589 : decode cL_law 589 = .ok (.aload_n 0, 1) := by decide +kernel
theorem dL_law_590 : decode cL_law 590 = .ok (.iload_n 3, 1) := by decide +kernel
theorem dL_law_591 : decode cL_law 591 = .ok (.iconst 2, 1) := by decide +kernel
theorem dL_law_592 : decode cL_law 592 = .ok (.iadd, 1) := by decide +kernel
theorem dL_law_593 : decode cL_law 593 = .ok (.iaload, 1) := by decide +kernel
theorem dL_law_594 : decode cL_law 594 = .ok (.invokevirtual 64, 3) := by decide +kernel
theorem dL_law_597 : decode cL_law 597 = .ok (.if_icmp .eq 692, 3) := by decide +kernel
theorem dL_law_600 : decode cL_law 600 = .ok (.iconst 0, 1) := by decide +kernel
theorem dL_law_601 : decode cL_law 601 = .ok (.ireturn, 1) := by decide +kernel
theorem dL_law_602 : decode cL_law 602 = .ok (.aload_n 1, 1) := by decide +kernel
theorem dL_law_603 : decode cL_law 603 = .ok (.aload_n 0, 1) := by decide +kernel
theorem dL_law_604 : decode cL_law 604 = .ok (.iload_n 3, 1) := by decide +kernel
theorem dL_law_605 : decode cL_law 605 = .ok (.iconst 1, 1) := by decide +kernel
theorem dL_law_606 : decode cL_law 606 = .ok (.iadd, 1) := by decide +kernel
theorem dL_law_607 : decode cL_law 607 = .ok (.iaload, 1) := by decide +kernel
theorem dL_law_608 : decode cL_law 608 = .ok (.invokevirtual 65, 3) := by decide +kernel
theorem dL_law_611 : decode cL_law 611 = .ok (.aload_n 2, 1) := by decide +kernel
theorem dL_law_612 : decode cL_law 612 = .ok (.aload_n 0, 1) := by decide +kernel
theorem dL_law_613 : decode cL_law 613 = .ok (.iload_n 3, 1) := by decide +kernel
theorem dL_law_614 : decode cL_law 614 = .ok (.iconst 1, 1) := by decide +kernel
theorem dL_law_615 : decode cL_law 615 = .ok (.iadd, 1) := by decide +kernel
theorem dL_law_616 : decode cL_law 616 = .ok (.iaload, 1) := by decide +kernel
theorem dL_law_617 : decode cL_law 617 = .ok (.invokevirtual 68, 3) := by decide +kernel
theorem dL_law_620 : decode cL_law 620 = .ok (.if_icmp .eq 669, 3) := by decide +kernel
theorem dL_law_623 : decode cL_law 623 = .ok (.iconst 0, 1) := by decide +kernel
theorem dL_law_624 : decode cL_law 624 = .ok (.ireturn, 1) := by decide +kernel
theorem dL_law_625 : decode cL_law 625 = .ok (.aload_n 1, 1) := by decide +kernel
theorem dL_law_626 : decode cL_law 626 = .ok (.invokevirtual 69, 3) := by decide +kernel
theorem dL_law_629 : decode cL_law 629 = .ok (.aload_n 2, 1) := by decide +kernel
theorem dL_law_630 : decode cL_law 630 = .ok (.invokevirtual 73, 3) := by decide +kernel
theorem dL_law_633 : decode cL_law 633 = .ok (.if_icmp .eq 656, 3) := by decide +kernel
theorem dL_law_636 : decode cL_law 636 = .ok (.iconst 0, 1) := by decide +kernel
theorem dL_law_637 : decode cL_law 637 = .ok (.ireturn, 1) := by decide +kernel
theorem dL_law_638 : decode cL_law 638 = .ok (.aload_n 1, 1) := by decide +kernel
theorem dL_law_639 : decode cL_law 639 = .ok (.invokevirtual 74, 3) := by decide +kernel
theorem dL_law_642 : decode cL_law 642 = .ok (.aload_n 2, 1) := by decide +kernel
theorem dL_law_643 : decode cL_law 643 = .ok (.invokevirtual 77, 3) := by decide +kernel
theorem dL_law_646 : decode cL_law 646 = .ok (.if_icmp .eq 643, 3) := by decide +kernel
theorem dL_law_649 : decode cL_law 649 = .ok (.iconst 0, 1) := by decide +kernel
theorem dL_law_650 : decode cL_law 650 = .ok (.ireturn, 1) := by decide +kernel
theorem dL_law_651 : decode cL_law 651 = .ok (.aload_n 1, 1) := by decide +kernel
theorem dL_law_652 : decode cL_law 652 = .ok (.aload_n 0, 1) := by decide +kernel
theorem dL_law_653 : decode cL_law 653 = .ok (.iload_n 3, 1) := by decide +kernel
theorem dL_law_654 : decode cL_law 654 = .ok (.iconst 1, 1) := by decide +kernel
theorem dL_law_655 : decode cL_law 655 = .ok (.iadd, 1) := by decide +kernel
theorem dL_law_656 : decode cL_law 656 = .ok (.iaload, 1) := by decide +kernel
theorem dL_law_657 : decode cL_law 657 = .ok (.aload_n 0, 1) := by decide +kernel
theorem dL_law_658 : decode cL_law 658 = .ok (.iload_n 3, 1) := by decide +kernel
theorem dL_law_659 : decode cL_law 659 = .ok (.iconst 2, 1) := by decide +kernel
theorem dL_law_660 : decode cL_law 660 = .ok (.iadd, 1) := by decide +kernel
theorem dL_law_661 : decode cL_law 661 = .ok (.iaload, 1) := by decide +kernel
theorem dL_law_662 : decode cL_law 662 = .ok (.invokevirtual 78, 3) := by decide +kernel
theorem dL_law_665 : decode cL_law 665 = .ok (.aload_n 2, 1) := by decide +kernel
theorem dL_law_666 : decode cL_law 666 = .ok (.aload_n 0, 1) := by decide +kernel
theorem dL_law_667 : decode cL_law 667 = .ok (.iload_n 3, 1) := by decide +kernel
theorem dL_law_668 : decode cL_law 668 = .ok (.iconst 1, 1) := by decide +kernel
theorem dL_law_669 : decode cL_law 669 = .ok (.iadd, 1) := by decide +kernel
theorem dL_law_670 : decode cL_law 670 = .ok (.iaload, 1) := by decide +kernel
theorem dL_law_671 : decode cL_law 671 = .ok (.aload_n 0, 1) := by decide +kernel
theorem dL_law_672 : decode cL_law 672 = .ok (.iload_n 3, 1) := by decide +kernel
theorem dL_law_673 : decode cL_law 673 = .ok (.iconst 2, 1) := by decide +kernel
theorem dL_law_674 : decode cL_law 674 = .ok (.iadd, 1) := by decide +kernel
theorem dL_law_675 : decode cL_law 675 = .ok (.iaload, 1) := by decide +kernel
theorem dL_law_676 : decode cL_law 676 = .ok (.invokevirtual 81, 3) := by decide +kernel
theorem dL_law_679 : decode cL_law 679 = .ok (.if_icmp .eq 610, 3) := by decide +kernel
theorem dL_law_682 : decode cL_law 682 = .ok (.iconst 0, 1) := by decide +kernel
theorem dL_law_683 : decode cL_law 683 = .ok (.ireturn, 1) := by decide +kernel
theorem dL_law_684 : decode cL_law 684 = .ok (.aload_n 1, 1) := by decide +kernel
theorem dL_law_685 : decode cL_law 685 = .ok (.aload_n 0, 1) := by decide +kernel
theorem dL_law_686 : decode cL_law 686 = .ok (.iload_n 3, 1) := by decide +kernel
theorem dL_law_687 : decode cL_law 687 = .ok (.iconst 1, 1) := by decide +kernel
theorem dL_law_688 : decode cL_law 688 = .ok (.iadd, 1) := by decide +kernel
theorem dL_law_689 : decode cL_law 689 = .ok (.iaload, 1) := by decide +kernel
theorem dL_law_690 : decode cL_law 690 = .ok (.invokevirtual 82, 3) := by decide +kernel
theorem dL_law_693 : decode cL_law 693 = .ok (.aload_n 2, 1) := by decide +kernel
theorem dL_law_694 : decode cL_law 694 = .ok (.aload_n 0, 1) := by decide +kernel
theorem dL_law_695 : decode cL_law 695 = .ok (.iload_n 3, 1) := by decide +kernel
theorem dL_law_696 : decode cL_law 696 = .ok (.iconst 1, 1) := by decide +kernel
theorem dL_law_697 : decode cL_law 697 = .ok (.iadd, 1) := by decide +kernel
theorem dL_law_698 : decode cL_law 698 = .ok (.iaload, 1) := by decide +kernel
theorem dL_law_699 : decode cL_law 699 = .ok (.invokevirtual 86, 3) := by decide +kernel
theorem dL_law_702 : decode cL_law 702 = .ok (.lcmp, 1) := by decide +kernel
theorem dL_law_703 : decode cL_law 703 = .ok (.ifCond .eq 586, 3) := by decide +kernel
theorem dL_law_706 : decode cL_law 706 = .ok (.iconst 0, 1) := by decide +kernel
theorem dL_law_707 : decode cL_law 707 = .ok (.ireturn, 1) := by decide +kernel
theorem dL_law_708 : decode cL_law 708 = .ok (.aload_n 1, 1) := by decide +kernel
theorem dL_law_709 : decode cL_law 709 = .ok (.aload_n 0, 1) := by decide +kernel
theorem dL_law_710 : decode cL_law 710 = .ok (.iload_n 3, 1) := by decide +kernel
theorem dL_law_711 : decode cL_law 711 = .ok (.iconst 1, 1) := by decide +kernel
theorem dL_law_712 : decode cL_law 712 = .ok (.iadd, 1) := by decide +kernel
theorem dL_law_713 : decode cL_law 713 = .ok (.iaload, 1) := by decide +kernel
theorem dL_law_714 : decode cL_law 714 = .ok (.aload_n 0, 1) := by decide +kernel
theorem dL_law_715 : decode cL_law 715 = .ok (.iload_n 3, 1) := by decide +kernel
theorem dL_law_716 : decode cL_law 716 = .ok (.iconst 2, 1) := by decide +kernel
theorem dL_law_717 : decode cL_law 717 = .ok (.iadd, 1) := by decide +kernel
theorem dL_law_718 : decode cL_law 718 = .ok (.iaload, 1) := by decide +kernel
theorem dL_law_719 : decode cL_law 719 = .ok (.invokevirtual 87, 3) := by decide +kernel
theorem dL_law_722 : decode cL_law 722 = .ok (.aload_n 2, 1) := by decide +kernel
theorem dL_law_723 : decode cL_law 723 = .ok (.aload_n 0, 1) := by decide +kernel
theorem dL_law_724 : decode cL_law 724 = .ok (.iload_n 3, 1) := by decide +kernel
theorem dL_law_725 : decode cL_law 725 = .ok (.iconst 1, 1) := by decide +kernel
theorem dL_law_726 : decode cL_law 726 = .ok (.iadd, 1) := by decide +kernel
theorem dL_law_727 : decode cL_law 727 = .ok (.iaload, 1) := by decide +kernel
theorem dL_law_728 : decode cL_law 728 = .ok (.aload_n 0, 1) := by decide +kernel
theorem dL_law_729 : decode cL_law 729 = .ok (.iload_n 3, 1) := by decide +kernel
theorem dL_law_730 : decode cL_law 730 = .ok (.iconst 2, 1) := by decide +kernel
theorem dL_law_731 : decode cL_law 731 = .ok (.iadd, 1) := by decide +kernel
theorem dL_law_732 : decode cL_law 732 = .ok (.iaload, 1) := by decide +kernel
theorem dL_law_733 : decode cL_law 733 = .ok (.invokevirtual 90, 3) := by decide +kernel
theorem dL_law_736 : decode cL_law 736 = .ok (.if_icmp .eq 553, 3) := by decide +kernel
theorem dL_law_739 : decode cL_law 739 = .ok (.iconst 0, 1) := by decide +kernel
theorem dL_law_740 : decode cL_law 740 = .ok (.ireturn, 1) := by decide +kernel
theorem dL_law_741 : decode cL_law 741 = .ok (.aload_n 1, 1) := by decide +kernel
theorem dL_law_742 : decode cL_law 742 = .ok (.aload_n 0, 1) := by decide +kernel
theorem dL_law_743 : decode cL_law 743 = .ok (.iload_n 3, 1) := by decide +kernel
theorem dL_law_744 : decode cL_law 744 = .ok (.iconst 1, 1) := by decide +kernel
theorem dL_law_745 : decode cL_law 745 = .ok (.iadd, 1) := by decide +kernel
theorem dL_law_746 : decode cL_law 746 = .ok (.iaload, 1) := by decide +kernel
theorem dL_law_747 : decode cL_law 747 = .ok (.invokevirtual 91, 3) := by decide +kernel
theorem dL_law_750 : decode cL_law 750 = .ok (.aload_n 2, 1) := by decide +kernel
theorem dL_law_751 : decode cL_law 751 = .ok (.aload_n 0, 1) := by decide +kernel
theorem dL_law_752 : decode cL_law 752 = .ok (.iload_n 3, 1) := by decide +kernel
theorem dL_law_753 : decode cL_law 753 = .ok (.iconst 1, 1) := by decide +kernel
theorem dL_law_754 : decode cL_law 754 = .ok (.iadd, 1) := by decide +kernel
theorem dL_law_755 : decode cL_law 755 = .ok (.iaload, 1) := by decide +kernel
theorem dL_law_756 : decode cL_law 756 = .ok (.invokevirtual 94, 3) := by decide +kernel
theorem dL_law_759 : decode cL_law 759 = .ok (.if_icmp .eq 530, 3) := by decide +kernel
theorem dL_law_762 : decode cL_law 762 = .ok (.iconst 0, 1) := by decide +kernel
theorem dL_law_763 : decode cL_law 763 = .ok (.ireturn, 1) := by decide +kernel
theorem dL_law_764 : decode cL_law 764 = .ok (.aload_n 1, 1) := by decide +kernel
theorem dL_law_765 : decode cL_law 765 = .ok (.aload_n 0, 1) := by decide +kernel
theorem dL_law_766 : decode cL_law 766 = .ok (.iload_n 3, 1) := by decide +kernel
theorem dL_law_767 : decode cL_law 767 = .ok (.iconst 1, 1) := by decide +kernel
theorem dL_law_768 : decode cL_law 768 = .ok (.iadd, 1) := by decide +kernel
theorem dL_law_769 : decode cL_law 769 = .ok (.iaload, 1) := by decide +kernel
theorem dL_law_770 : decode cL_law 770 = .ok (.aload_n 0, 1) := by decide +kernel
theorem dL_law_771 : decode cL_law 771 = .ok (.iload_n 3, 1) := by decide +kernel
theorem dL_law_772 : decode cL_law 772 = .ok (.iconst 2, 1) := by decide +kernel
theorem dL_law_773 : decode cL_law 773 = .ok (.iadd, 1) := by decide +kernel
theorem dL_law_774 : decode cL_law 774 = .ok (.iaload, 1) := by decide +kernel
theorem dL_law_775 : decode cL_law 775 = .ok (.aload_n 0, 1) := by decide +kernel
theorem dL_law_776 : decode cL_law 776 = .ok (.iload_n 3, 1) := by decide +kernel
theorem dL_law_777 : decode cL_law 777 = .ok (.iconst 3, 1) := by decide +kernel
theorem dL_law_778 : decode cL_law 778 = .ok (.iadd, 1) := by decide +kernel
theorem dL_law_779 : decode cL_law 779 = .ok (.iaload, 1) := by decide +kernel
theorem dL_law_780 : decode cL_law 780 = .ok (.invokevirtual 95, 3) := by decide +kernel
theorem dL_law_783 : decode cL_law 783 = .ok (.aload_n 2, 1) := by decide +kernel
theorem dL_law_784 : decode cL_law 784 = .ok (.aload_n 0, 1) := by decide +kernel
theorem dL_law_785 : decode cL_law 785 = .ok (.iload_n 3, 1) := by decide +kernel
theorem dL_law_786 : decode cL_law 786 = .ok (.iconst 1, 1) := by decide +kernel
theorem dL_law_787 : decode cL_law 787 = .ok (.iadd, 1) := by decide +kernel
theorem dL_law_788 : decode cL_law 788 = .ok (.iaload, 1) := by decide +kernel
theorem dL_law_789 : decode cL_law 789 = .ok (.aload_n 0, 1) := by decide +kernel
theorem dL_law_790 : decode cL_law 790 = .ok (.iload_n 3, 1) := by decide +kernel
theorem dL_law_791 : decode cL_law 791 = .ok (.iconst 2, 1) := by decide +kernel
theorem dL_law_792 : decode cL_law 792 = .ok (.iadd, 1) := by decide +kernel
theorem dL_law_793 : decode cL_law 793 = .ok (.iaload, 1) := by decide +kernel
theorem dL_law_794 : decode cL_law 794 = .ok (.aload_n 0, 1) := by decide +kernel
theorem dL_law_795 : decode cL_law 795 = .ok (.iload_n 3, 1) := by decide +kernel
theorem dL_law_796 : decode cL_law 796 = .ok (.iconst 3, 1) := by decide +kernel
theorem dL_law_797 : decode cL_law 797 = .ok (.iadd, 1) := by decide +kernel
theorem dL_law_798 : decode cL_law 798 = .ok (.iaload, 1) := by decide +kernel
theorem dL_law_799 : decode cL_law 799 = .ok (.invokevirtual 98, 3) := by decide +kernel
theorem dL_law_802 : decode cL_law 802 = .ok (.if_icmp .eq 487, 3) := by decide +kernel
theorem dL_law_805 : decode cL_law 805 = .ok (.iconst 0, 1) := by decide +kernel
theorem dL_law_806 : decode cL_law 806 = .ok (.ireturn, 1) := by decide +kernel
theorem dL_law_807 : decode cL_law 807 = .ok (.aload_n 1, 1) := by decide +kernel
theorem dL_law_808 : decode cL_law 808 = .ok (.aload_n 0, 1) := by decide +kernel
theorem dL_law_809 : decode cL_law 809 = .ok (.iload_n 3, 1) := by decide +kernel
theorem dL_law_810 : decode cL_law 810 = .ok (.iconst 1, 1) := by decide +kernel
theorem dL_law_811 : decode cL_law 811 = .ok (.iadd, 1) := by decide +kernel
theorem dL_law_812 : decode cL_law 812 = .ok (.iaload, 1) := by decide +kernel
theorem dL_law_813 : decode cL_law 813 = .ok (.aload_n 0, 1) := by decide +kernel
theorem dL_law_814 : decode cL_law 814 = .ok (.iload_n 3, 1) := by decide +kernel
theorem dL_law_815 : decode cL_law 815 = .ok (.iconst 2, 1) := by decide +kernel
theorem dL_law_816 : decode cL_law 816 = .ok (.iadd, 1) := by decide +kernel
theorem dL_law_817 : decode cL_law 817 = .ok (.iaload, 1) := by decide +kernel
theorem dL_law_818 : decode cL_law 818 = .ok (.invokevirtual 99, 3) := by decide +kernel
theorem dL_law_821 : decode cL_law 821 = .ok (.aload_n 2, 1) := by decide +kernel
theorem dL_law_822 : decode cL_law 822 = .ok (.aload_n 0, 1) := by decide +kernel
theorem dL_law_823 : decode cL_law 823 = .ok (.iload_n 3, 1) := by decide +kernel
theorem dL_law_824 : decode cL_law 824 = .ok (.iconst 1, 1) := by decide +kernel
theorem dL_law_825 : decode cL_law 825 = .ok (.iadd, 1) := by decide +kernel
theorem dL_law_826 : decode cL_law 826 = .ok (.iaload, 1) := by decide +kernel
theorem dL_law_827 : decode cL_law 827 = .ok (.aload_n 0, 1) := by decide +kernel
theorem dL_law_828 : decode cL_law 828 = .ok (.iload_n 3, 1) := by decide +kernel
theorem dL_law_829 : decode cL_law 829 = .ok (.iconst 2, 1) := by decide +kernel
theorem dL_law_830 : decode cL_law 830 = .ok (.iadd, 1) := by decide +kernel
theorem dL_law_831 : decode cL_law 831 = .ok (.iaload, 1) := by decide +kernel
theorem dL_law_832 : decode cL_law 832 = .ok (.invokevirtual 102, 3) := by decide +kernel
theorem dL_law_835 : decode cL_law 835 = .ok (.if_icmp .eq 454, 3) := by decide +kernel
theorem dL_law_838 : decode cL_law 838 = .ok (.iconst 0, 1) := by decide +kernel
theorem dL_law_839 : decode cL_law 839 = .ok (.ireturn, 1) := by decide +kernel
theorem dL_law_840 : decode cL_law 840 = .ok (.aload_n 1, 1) := by decide +kernel
theorem dL_law_841 : decode cL_law 841 = .ok (.aload_n 0, 1) := by decide +kernel
theorem dL_law_842 : decode cL_law 842 = .ok (.iload_n 3, 1) := by decide +kernel
theorem dL_law_843 : decode cL_law 843 = .ok (.iconst 1, 1) := by decide +kernel
theorem dL_law_844 : decode cL_law 844 = .ok (.iadd, 1) := by decide +kernel
theorem dL_law_845 : decode cL_law 845 = .ok (.iaload, 1) := by decide +kernel
theorem dL_law_846 : decode cL_law 846 = .ok (.aload_n 0, 1) := by decide +kernel
theorem dL_law_847 : decode cL_law 847 = .ok (.iload_n 3, 1) := by decide +kernel
theorem dL_law_848 : decode cL_law 848 = .ok (.iconst 2, 1) := by decide +kernel
theorem dL_law_849 : decode cL_law 849 = .ok (.iadd, 1) := by decide +kernel
theorem dL_law_850 : decode cL_law 850 = .ok (.iaload, 1) := by decide +kernel
theorem dL_law_851 : decode cL_law 851 = .ok (.aload_n 0, 1) := by decide +kernel
theorem dL_law_852 : decode cL_law 852 = .ok (.iload_n 3, 1) := by decide +kernel
theorem dL_law_853 : decode cL_law 853 = .ok (.iconst 3, 1) := by decide +kernel
theorem dL_law_854 : decode cL_law 854 = .ok (.iadd, 1) := by decide +kernel
theorem dL_law_855 : decode cL_law 855 = .ok (.iaload, 1) := by decide +kernel
theorem dL_law_856 : decode cL_law 856 = .ok (.invokevirtual 103, 3) := by decide +kernel
theorem dL_law_859 : decode cL_law 859 = .ok (.aload_n 2, 1) := by decide +kernel
theorem dL_law_860 : decode cL_law 860 = .ok (.aload_n 0, 1) := by decide +kernel
theorem dL_law_861 : decode cL_law 861 = .ok (.iload_n 3, 1) := by decide +kernel
theorem dL_law_862 : decode cL_law 862 = .ok (.iconst 1, 1) := by decide +kernel
theorem dL_law_863 : decode cL_law 863 = .ok (.iadd, 1) := by decide +kernel
theorem dL_law_864 : decode cL_law 864 = .ok (.iaload, 1) := by decide +kernel
theorem dL_law_865 : decode cL_law 865 = .ok (.aload_n 0, 1) := by decide +kernel
theorem dL_law_866 : decode cL_law 866 = .ok (.iload_n 3, 1) := by decide +kernel
theorem dL_law_867 : decode cL_law 867 = .ok (.iconst 2, 1) := by decide +kernel
theorem dL_law_868 : decode cL_law 868 = .ok (.iadd, 1) := by decide +kernel
theorem dL_law_869 : decode cL_law 869 = .ok (.iaload, 1) := by decide +kernel
theorem dL_law_870 : decode cL_law 870 = .ok (.aload_n 0, 1) := by decide +kernel
theorem dL_law_871 : decode cL_law 871 = .ok (.iload_n 3, 1) := by decide +kernel
theorem dL_law_872 : decode cL_law 872 = .ok (.iconst 3, 1) := by decide +kernel
theorem dL_law_873 : decode cL_law 873 = .ok (.iadd, 1) := by decide +kernel
theorem dL_law_874 : decode cL_law 874 = .ok (.iaload, 1) := by decide +kernel
theorem dL_law_875 : decode cL_law 875 = .ok (.invokevirtual 106, 3) := by decide +kernel
theorem dL_law_878 : decode cL_law 878 = .ok (.if_icmp .eq 411, 3) := by decide +kernel
theorem dL_law_881 : decode cL_law 881 = .ok (.iconst 0, 1) := by decide +kernel
theorem dL_law_882 : decode cL_law 882 = .ok (.ireturn, 1) := by decide +kernel
theorem dL_law_883 : decode cL_law 883 = .ok (.aload_n 1, 1) := by decide +kernel
theorem dL_law_884 : decode cL_law 884 = .ok (.aload_n 0, 1) := by decide +kernel
theorem dL_law_885 : decode cL_law 885 = .ok (.iload_n 3, 1) := by decide +kernel
theorem dL_law_886 : decode cL_law 886 = .ok (.iconst 1, 1) := by decide +kernel
theorem dL_law_887 : decode cL_law 887 = .ok (.iadd, 1) := by decide +kernel
theorem dL_law_888 : decode cL_law 888 = .ok (.iaload, 1) := by decide +kernel
theorem dL_law_889 : decode cL_law 889 = .ok (.aload_n 0, 1) := by decide +kernel
theorem dL_law_890 : decode cL_law 890 = .ok (.iload_n 3, 1) := by decide +kernel
theorem dL_law_891 : decode cL_law 891 = .ok (.iconst 2, 1) := by decide +kernel
theorem dL_law_892 : decode cL_law 892 = .ok (.iadd, 1) := by decide +kernel
theorem dL_law_893 : decode cL_law 893 = .ok (.iaload, 1) := by decide +kernel
theorem dL_law_894 : decode cL_law 894 = .ok (.invokevirtual 107, 3) := by decide +kernel
theorem dL_law_897 : decode cL_law 897 = .ok (.aload_n 2, 1) := by decide +kernel
theorem dL_law_898 : decode cL_law 898 = .ok (.aload_n 0, 1) := by decide +kernel
theorem dL_law_899 : decode cL_law 899 = .ok (.iload_n 3, 1) := by decide +kernel
theorem dL_law_900 : decode cL_law 900 = .ok (.iconst 1, 1) := by decide +kernel
theorem dL_law_901 : decode cL_law 901 = .ok (.iadd, 1) := by decide +kernel
theorem dL_law_902 : decode cL_law 902 = .ok (.iaload, 1) := by decide +kernel
theorem dL_law_903 : decode cL_law 903 = .ok (.aload_n 0, 1) := by decide +kernel
theorem dL_law_904 : decode cL_law 904 = .ok (.iload_n 3, 1) := by decide +kernel
theorem dL_law_905 : decode cL_law 905 = .ok (.iconst 2, 1) := by decide +kernel
theorem dL_law_906 : decode cL_law 906 = .ok (.iadd, 1) := by decide +kernel
theorem dL_law_907 : decode cL_law 907 = .ok (.iaload, 1) := by decide +kernel
theorem dL_law_908 : decode cL_law 908 = .ok (.invokevirtual 110, 3) := by decide +kernel
theorem dL_law_911 : decode cL_law 911 = .ok (.if_icmp .eq 378, 3) := by decide +kernel
theorem dL_law_914 : decode cL_law 914 = .ok (.iconst 0, 1) := by decide +kernel
theorem dL_law_915 : decode cL_law 915 = .ok (.ireturn, 1) := by decide +kernel
theorem dL_law_916 : decode cL_law 916 = .ok (.aload_n 1, 1) := by decide +kernel
theorem dL_law_917 : decode cL_law 917 = .ok (.invokevirtual 111, 3) := by decide +kernel
theorem dL_law_920 : decode cL_law 920 = .ok (.aload_n 2, 1) := by decide +kernel
theorem dL_law_921 : decode cL_law 921 = .ok (.invokevirtual 114, 3) := by decide +kernel
theorem dL_law_924 : decode cL_law 924 = .ok (.if_icmp .eq 365, 3) := by decide +kernel
theorem dL_law_927 : decode cL_law 927 = .ok (.iconst 0, 1) := by decide +kernel
theorem dL_law_928 : decode cL_law 928 = .ok (.ireturn, 1) := by decide +kernel
theorem dL_law_929 : decode cL_law 929 = .ok (.aload_n 1, 1) := by decide +kernel
theorem dL_law_930 : decode cL_law 930 = .ok (.invokevirtual 115, 3) := by decide +kernel
theorem dL_law_933 : decode cL_law 933 = .ok (.aload_n 2, 1) := by decide +kernel
theorem dL_law_934 : decode cL_law 934 = .ok (.invokevirtual 118, 3) := by decide +kernel
theorem dL_law_937 : decode cL_law 937 = .ok (.if_icmp .eq 352, 3) := by decide +kernel
theorem dL_law_940 : decode cL_law 940 = .ok (.iconst 0, 1) := by decide +kernel
theorem dL_law_941 : decode cL_law 941 = .ok (.ireturn, 1) := by decide +kernel
theorem dL_law_942 : decode cL_law 942 = .ok (.aload_n 1, 1) := by decide +kernel
theorem dL_law_943 : decode cL_law 943 = .ok (.invokevirtual 119, 3) := by decide +kernel
theorem dL_law_946 : decode cL_law 946 = .ok (.aload_n 2, 1) := by decide +kernel
theorem dL_law_947 : decode cL_law 947 = .ok (.invokevirtual 122, 3) := by decide +kernel
theorem dL_law_950 : decode cL_law 950 = .ok (.if_icmp .eq 339, 3) := by decide +kernel
theorem dL_law_953 : decode cL_law 953 = .ok (.iconst 0, 1) := by decide +kernel
theorem dL_law_954 : decode cL_law 954 = .ok (.ireturn, 1) := by decide +kernel
theorem dL_law_955 : decode cL_law 955 = .ok (.aload_n 1, 1) := by decide +kernel
theorem dL_law_956 : decode cL_law 956 = .ok (.aload_n 0, 1) := by decide +kernel
theorem dL_law_957 : decode cL_law 957 = .ok (.iload_n 3, 1) := by decide +kernel
theorem dL_law_958 : decode cL_law 958 = .ok (.iconst 1, 1) := by decide +kernel
theorem dL_law_959 : decode cL_law 959 = .ok (.iadd, 1) := by decide +kernel
theorem dL_law_960 : decode cL_law 960 = .ok (.iaload, 1) := by decide +kernel
theorem dL_law_961 : decode cL_law 961 = .ok (.invokevirtual 123, 3) := by decide +kernel
theorem dL_law_964 : decode cL_law 964 = .ok (.aload_n 2, 1) := by decide +kernel
theorem dL_law_965 : decode cL_law 965 = .ok (.aload_n 0, 1) := by decide +kernel
theorem dL_law_966 : decode cL_law 966 = .ok (.iload_n 3, 1) := by decide +kernel
theorem dL_law_967 : decode cL_law 967 = .ok (.iconst 1, 1) := by decide +kernel
theorem dL_law_968 : decode cL_law 968 = .ok (.iadd, 1) := by decide +kernel
theorem dL_law_969 : decode cL_law 969 = .ok (.iaload, 1) := by decide +kernel
theorem dL_law_970 : decode cL_law 970 = .ok (.invokevirtual 126, 3) := by decide +kernel
theorem dL_law_973 : decode cL_law 973 = .ok (.if_icmp .eq 316, 3) := by decide +kernel
theorem dL_law_976 : decode cL_law 976 = .ok (.iconst 0, 1) := by decide +kernel
theorem dL_law_977 : decode cL_law 977 = .ok (.ireturn, 1) := by decide +kernel
theorem dL_law_978 : decode cL_law 978 = .ok (.aload_n 1, 1) := by decide +kernel
theorem dL_law_979 : decode cL_law 979 = .ok (.aload_n 0, 1) := by decide +kernel
theorem dL_law_980 : decode cL_law 980 = .ok (.iload_n 3, 1) := by decide +kernel
theorem dL_law_981 : decode cL_law 981 = .ok (.iconst 1, 1) := by decide +kernel
theorem dL_law_982 : decode cL_law 982 = .ok (.iadd, 1) := by decide +kernel
theorem dL_law_983 : decode cL_law 983 = .ok (.iaload, 1) := by decide +kernel
theorem dL_law_984 : decode cL_law 984 = .ok (.aload_n 0, 1) := by decide +kernel
theorem dL_law_985 : decode cL_law 985 = .ok (.iload_n 3, 1) := by decide +kernel
theorem dL_law_986 : decode cL_law 986 = .ok (.iconst 2, 1) := by decide +kernel
theorem dL_law_987 : decode cL_law 987 = .ok (.iadd, 1) := by decide +kernel
theorem dL_law_988 : decode cL_law 988 = .ok (.iaload, 1) := by decide +kernel
theorem dL_law_989 : decode cL_law 989 = .ok (.aload_n 0, 1) := by decide +kernel
theorem dL_law_990 : decode cL_law 990 = .ok (.iload_n 3, 1) := by decide +kernel
theorem dL_law_991 : decode cL_law 991 = .ok (.iconst 3, 1) := by decide +kernel
theorem dL_law_992 : decode cL_law 992 = .ok (.iadd, 1) := by decide +kernel
theorem dL_law_993 : decode cL_law 993 = .ok (.iaload, 1) := by decide +kernel
theorem dL_law_994 : decode cL_law 994 = .ok (.invokevirtual 127, 3) := by decide +kernel
theorem dL_law_997 : decode cL_law 997 = .ok (.aload_n 2, 1) := by decide +kernel
theorem dL_law_998 : decode cL_law 998 = .ok (.aload_n 0, 1) := by decide +kernel
theorem dL_law_999 : decode cL_law 999 = .ok (.iload_n 3, 1) := by decide +kernel
theorem dL_law_1000 : decode cL_law 1000 = .ok (.iconst 1, 1) := by decide +kernel
theorem dL_law_1001 : decode cL_law 1001 = .ok (.iadd, 1) := by decide +kernel
theorem dL_law_1002 : decode cL_law 1002 = .ok (.iaload, 1) := by decide +kernel
theorem dL_law_1003 : decode cL_law 1003 = .ok (.aload_n 0, 1) := by decide +kernel
theorem dL_law_1004 : decode cL_law 1004 = .ok (.iload_n 3, 1) := by decide +kernel
theorem dL_law_1005 : decode cL_law 1005 = .ok (.iconst 2, 1) := by decide +kernel
theorem dL_law_1006 : decode cL_law 1006 = .ok (.iadd, 1) := by decide +kernel
theorem dL_law_1007 : decode cL_law 1007 = .ok (.iaload, 1) := by decide +kernel
theorem dL_law_1008 : decode cL_law 1008 = .ok (.aload_n 0, 1) := by decide +kernel
theorem dL_law_1009 : decode cL_law 1009 = .ok (.iload_n 3, 1) := by decide +kernel
theorem dL_law_1010 : decode cL_law 1010 = .ok (.iconst 3, 1) := by decide +kernel
theorem dL_law_1011 : decode cL_law 1011 = .ok (.iadd, 1) := by decide +kernel
theorem dL_law_1012 : decode cL_law 1012 = .ok (.iaload, 1) := by decide +kernel
theorem dL_law_1013 : decode cL_law 1013 = .ok (.invokevirtual 130, 3) := by decide +kernel
theorem dL_law_1016 : decode cL_law 1016 = .ok (.if_icmp .eq 273, 3) := by decide +kernel
theorem dL_law_1019 : decode cL_law 1019 = .ok (.iconst 0, 1) := by decide +kernel
theorem dL_law_1020 : decode cL_law 1020 = .ok (.ireturn, 1) := by decide +kernel
theorem dL_law_1021 : decode cL_law 1021 = .ok (.aload_n 1, 1) := by decide +kernel
theorem dL_law_1022 : decode cL_law 1022 = .ok (.aload_n 0, 1) := by decide +kernel
theorem dL_law_1023 : decode cL_law 1023 = .ok (.iload_n 3, 1) := by decide +kernel
theorem dL_law_1024 : decode cL_law 1024 = .ok (.iconst 1, 1) := by decide +kernel
theorem dL_law_1025 : decode cL_law 1025 = .ok (.iadd, 1) := by decide +kernel
theorem dL_law_1026 : decode cL_law 1026 = .ok (.iaload, 1) := by decide +kernel
theorem dL_law_1027 : decode cL_law 1027 = .ok (.aload_n 0, 1) := by decide +kernel
theorem dL_law_1028 : decode cL_law 1028 = .ok (.iload_n 3, 1) := by decide +kernel
theorem dL_law_1029 : decode cL_law 1029 = .ok (.iconst 2, 1) := by decide +kernel
theorem dL_law_1030 : decode cL_law 1030 = .ok (.iadd, 1) := by decide +kernel
theorem dL_law_1031 : decode cL_law 1031 = .ok (.iaload, 1) := by decide +kernel
theorem dL_law_1032 : decode cL_law 1032 = .ok (.aload_n 0, 1) := by decide +kernel
theorem dL_law_1033 : decode cL_law 1033 = .ok (.iload_n 3, 1) := by decide +kernel
theorem dL_law_1034 : decode cL_law 1034 = .ok (.iconst 3, 1) := by decide +kernel
theorem dL_law_1035 : decode cL_law 1035 = .ok (.iadd, 1) := by decide +kernel
theorem dL_law_1036 : decode cL_law 1036 = .ok (.iaload, 1) := by decide +kernel
theorem dL_law_1037 : decode cL_law 1037 = .ok (.i2l, 1) := by decide +kernel
theorem dL_law_1038 : decode cL_law 1038 = .ok (.bipush 32, 2) := by decide +kernel
theorem dL_law_1040 : decode cL_law 1040 = .ok (.lshl, 1) := by decide +kernel
theorem dL_law_1041 : decode cL_law 1041 = .ok (.aload_n 0, 1) := by decide +kernel
theorem dL_law_1042 : decode cL_law 1042 = .ok (.iload_n 3, 1) := by decide +kernel
theorem dL_law_1043 : decode cL_law 1043 = .ok (.iconst 4, 1) := by decide +kernel
theorem dL_law_1044 : decode cL_law 1044 = .ok (.iadd, 1) := by decide +kernel
theorem dL_law_1045 : decode cL_law 1045 = .ok (.iaload, 1) := by decide +kernel
theorem dL_law_1046 : decode cL_law 1046 = .ok (.i2l, 1) := by decide +kernel
theorem dL_law_1047 : decode cL_law 1047 = .ok (.ldc2_w 131, 3) := by decide +kernel
theorem dL_law_1050 : decode cL_law 1050 = .ok (.land, 1) := by decide +kernel
theorem dL_law_1051 : decode cL_law 1051 = .ok (.lor, 1) := by decide +kernel
theorem dL_law_1052 : decode cL_law 1052 = .ok (.invokevirtual 133, 3) := by decide +kernel
theorem dL_law_1055 : decode cL_law 1055 = .ok (.aload_n 2, 1) := by decide +kernel
theorem dL_law_1056 : decode cL_law 1056 = .ok (.aload_n 0, 1) := by decide +kernel
theorem dL_law_1057 : decode cL_law 1057 = .ok (.iload_n 3, 1) := by decide +kernel
theorem dL_law_1058 : decode cL_law 1058 = .ok (.iconst 1, 1) := by decide +kernel
theorem dL_law_1059 : decode cL_law 1059 = .ok (.iadd, 1) := by decide +kernel
theorem dL_law_1060 : decode cL_law 1060 = .ok (.iaload, 1) := by decide +kernel
theorem dL_law_1061 : decode cL_law 1061 = .ok (.aload_n 0, 1) := by decide +kernel
theorem dL_law_1062 : decode cL_law 1062 = .ok (.iload_n 3, 1) := by decide +kernel
theorem dL_law_1063 : decode cL_law 1063 = .ok (.iconst 2, 1) := by decide +kernel
theorem dL_law_1064 : decode cL_law 1064 = .ok (.iadd, 1) := by decide +kernel
theorem dL_law_1065 : decode cL_law 1065 = .ok (.iaload, 1) := by decide +kernel
theorem dL_law_1066 : decode cL_law 1066 = .ok (.aload_n 0, 1) := by decide +kernel
theorem dL_law_1067 : decode cL_law 1067 = .ok (.iload_n 3, 1) := by decide +kernel
theorem dL_law_1068 : decode cL_law 1068 = .ok (.iconst 3, 1) := by decide +kernel
theorem dL_law_1069 : decode cL_law 1069 = .ok (.iadd, 1) := by decide +kernel
theorem dL_law_1070 : decode cL_law 1070 = .ok (.iaload, 1) := by decide +kernel
theorem dL_law_1071 : decode cL_law 1071 = .ok (.i2l, 1) := by decide +kernel
theorem dL_law_1072 : decode cL_law 1072 = .ok (.bipush 32, 2) := by decide +kernel
theorem dL_law_1074 : decode cL_law 1074 = .ok (.lshl, 1) := by decide +kernel
theorem dL_law_1075 : decode cL_law 1075 = .ok (.aload_n 0, 1) := by decide +kernel
theorem dL_law_1076 : decode cL_law 1076 = .ok (.iload_n 3, 1) := by decide +kernel
theorem dL_law_1077 : decode cL_law 1077 = .ok (.iconst 4, 1) := by decide +kernel
theorem dL_law_1078 : decode cL_law 1078 = .ok (.iadd, 1) := by decide +kernel
theorem dL_law_1079 : decode cL_law 1079 = .ok (.iaload, 1) := by decide +kernel
theorem dL_law_1080 : decode cL_law 1080 = .ok (.i2l, 1) := by decide +kernel
theorem dL_law_1081 : decode cL_law 1081 = .ok (.ldc2_w 131, 3) := by decide +kernel
theorem dL_law_1084 : decode cL_law 1084 = .ok (.land, 1) := by decide +kernel
theorem dL_law_1085 : decode cL_law 1085 = .ok (.lor, 1) := by decide +kernel
theorem dL_law_1086 : decode cL_law 1086 = .ok (.invokevirtual 137, 3) := by decide +kernel
theorem dL_law_1089 : decode cL_law 1089 = .ok (.lcmp, 1) := by decide +kernel
theorem dL_law_1090 : decode cL_law 1090 = .ok (.ifCond .eq 199, 3) := by decide +kernel
theorem dL_law_1093 : decode cL_law 1093 = .ok (.iconst 0, 1) := by decide +kernel
theorem dL_law_1094 : decode cL_law 1094 = .ok (.ireturn, 1) := by decide +kernel
theorem dL_law_1095 : decode cL_law 1095 = .ok (.aload_n 1, 1) := by decide +kernel
theorem dL_law_1096 : decode cL_law 1096 = .ok (.aload_n 0, 1) := by decide +kernel
theorem dL_law_1097 : decode cL_law 1097 = .ok (.iload_n 3, 1) := by decide +kernel
theorem dL_law_1098 : decode cL_law 1098 = .ok (.iconst 1, 1) := by decide +kernel
theorem dL_law_1099 : decode cL_law 1099 = .ok (.iadd, 1) := by decide +kernel
theorem dL_law_1100 : decode cL_law 1100 = .ok (.iaload, 1) := by decide +kernel
theorem dL_law_1101 : decode cL_law 1101 = .ok (.aload_n 0, 1) := by decide +kernel
theorem dL_law_1102 : decode cL_law 1102 = .ok (.iload_n 3, 1) := by decide +kernel
theorem dL_law_1103 : decode cL_law 1103 = .ok (.iconst 2, 1) := by decide +kernel
theorem dL_law_1104 : decode cL_law 1104 = .ok (.iadd, 1) := by decide +kernel
theorem dL_law_1105 : decode cL_law 1105 = .ok (.iaload, 1) := by decide +kernel
theorem dL_law_1106 : decode cL_law 1106 = .ok (.aload_n 0, 1) := by decide +kernel
theorem dL_law_1107 : decode cL_law 1107 = .ok (.iload_n 3, 1) := by decide +kernel
theorem dL_law_1108 : decode cL_law 1108 = .ok (.iconst 3, 1) := by decide +kernel
theorem dL_law_1109 : decode cL_law 1109 = .ok (.iadd, 1) := by decide +kernel
theorem dL_law_1110 : decode cL_law 1110 = .ok (.iaload, 1) := by decide +kernel
theorem dL_law_1111 : decode cL_law 1111 = .ok (.aload_n 0, 1) := by decide +kernel
theorem dL_law_1112 : decode cL_law 1112 = .ok (.iload_n 3, 1) := by decide +kernel
theorem dL_law_1113 : decode cL_law 1113 = .ok (.iconst 4, 1) := by decide +kernel
theorem dL_law_1114 : decode cL_law 1114 = .ok (.iadd, 1) := by decide +kernel
theorem dL_law_1115 : decode cL_law 1115 = .ok (.iaload, 1) := by decide +kernel
theorem dL_law_1116 : decode cL_law 1116 = .ok (.aload_n 0, 1) := by decide +kernel
theorem dL_law_1117 : decode cL_law 1117 = .ok (.iload_n 3, 1) := by decide +kernel
theorem dL_law_1118 : decode cL_law 1118 = .ok (.iconst 5, 1) := by decide +kernel
theorem dL_law_1119 : decode cL_law 1119 = .ok (.iadd, 1) := by decide +kernel
theorem dL_law_1120 : decode cL_law 1120 = .ok (.iaload, 1) := by decide +kernel
theorem dL_law_1121 : decode cL_law 1121 = .ok (.invokevirtual 138, 3) := by decide +kernel
theorem dL_law_1124 : decode cL_law 1124 = .ok (.aload_n 2, 1) := by decide +kernel
theorem dL_law_1125 : decode cL_law 1125 = .ok (.aload_n 0, 1) := by decide +kernel
theorem dL_law_1126 : decode cL_law 1126 = .ok (.iload_n 3, 1) := by decide +kernel
theorem dL_law_1127 : decode cL_law 1127 = .ok (.iconst 1, 1) := by decide +kernel
theorem dL_law_1128 : decode cL_law 1128 = .ok (.iadd, 1) := by decide +kernel
theorem dL_law_1129 : decode cL_law 1129 = .ok (.iaload, 1) := by decide +kernel
theorem dL_law_1130 : decode cL_law 1130 = .ok (.aload_n 0, 1) := by decide +kernel
theorem dL_law_1131 : decode cL_law 1131 = .ok (.iload_n 3, 1) := by decide +kernel
theorem dL_law_1132 : decode cL_law 1132 = .ok (.iconst 2, 1) := by decide +kernel
theorem dL_law_1133 : decode cL_law 1133 = .ok (.iadd, 1) := by decide +kernel
theorem dL_law_1134 : decode cL_law 1134 = .ok (.iaload, 1) := by decide +kernel
theorem dL_law_1135 : decode cL_law 1135 = .ok (.aload_n 0, 1) := by decide +kernel
theorem dL_law_1136 : decode cL_law 1136 = .ok (.iload_n 3, 1) := by decide +kernel
theorem dL_law_1137 : decode cL_law 1137 = .ok (.iconst 3, 1) := by decide +kernel
theorem dL_law_1138 : decode cL_law 1138 = .ok (.iadd, 1) := by decide +kernel
theorem dL_law_1139 : decode cL_law 1139 = .ok (.iaload, 1) := by decide +kernel
theorem dL_law_1140 : decode cL_law 1140 = .ok (.aload_n 0, 1) := by decide +kernel
theorem dL_law_1141 : decode cL_law 1141 = .ok (.iload_n 3, 1) := by decide +kernel
theorem dL_law_1142 : decode cL_law 1142 = .ok (.iconst 4, 1) := by decide +kernel
theorem dL_law_1143 : decode cL_law 1143 = .ok (.iadd, 1) := by decide +kernel
theorem dL_law_1144 : decode cL_law 1144 = .ok (.iaload, 1) := by decide +kernel
theorem dL_law_1145 : decode cL_law 1145 = .ok (.aload_n 0, 1) := by decide +kernel
theorem dL_law_1146 : decode cL_law 1146 = .ok (.iload_n 3, 1) := by decide +kernel
theorem dL_law_1147 : decode cL_law 1147 = .ok (.iconst 5, 1) := by decide +kernel
theorem dL_law_1148 : decode cL_law 1148 = .ok (.iadd, 1) := by decide +kernel
theorem dL_law_1149 : decode cL_law 1149 = .ok (.iaload, 1) := by decide +kernel
theorem dL_law_1150 : decode cL_law 1150 = .ok (.invokevirtual 142, 3) := by decide +kernel
theorem dL_law_1153 : decode cL_law 1153 = .ok (.if_icmp .eq 136, 3) := by decide +kernel
theorem dL_law_1156 : decode cL_law 1156 = .ok (.iconst 0, 1) := by decide +kernel
theorem dL_law_1157 : decode cL_law 1157 = .ok (.ireturn, 1) := by decide +kernel
theorem dL_law_1158 : decode cL_law 1158 = .ok (.aload_n 1, 1) := by decide +kernel
theorem dL_law_1159 : decode cL_law 1159 = .ok (.aload_n 0, 1) := by decide +kernel
theorem dL_law_1160 : decode cL_law 1160 = .ok (.iload_n 3, 1) := by decide +kernel
theorem dL_law_1161 : decode cL_law 1161 = .ok (.iconst 1, 1) := by decide +kernel
theorem dL_law_1162 : decode cL_law 1162 = .ok (.iadd, 1) := by decide +kernel
theorem dL_law_1163 : decode cL_law 1163 = .ok (.iaload, 1) := by decide +kernel
theorem dL_law_1164 : decode cL_law 1164 = .ok (.invokevirtual 143, 3) := by decide +kernel
theorem dL_law_1167 : decode cL_law 1167 = .ok (.aload_n 2, 1) := by decide +kernel
theorem dL_law_1168 : decode cL_law 1168 = .ok (.aload_n 0, 1) := by decide +kernel
theorem dL_law_1169 : decode cL_law 1169 = .ok (.iload_n 3, 1) := by decide +kernel
theorem dL_law_1170 : decode cL_law 1170 = .ok (.iconst 1, 1) := by decide +kernel
theorem dL_law_1171 : decode cL_law 1171 = .ok (.iadd, 1) := by decide +kernel
theorem dL_law_1172 : decode cL_law 1172 = .ok (.iaload, 1) := by decide +kernel
theorem dL_law_1173 : decode cL_law 1173 = .ok (.invokevirtual 146, 3) := by decide +kernel
theorem dL_law_1176 : decode cL_law 1176 = .ok (.if_icmp .eq 113, 3) := by decide +kernel
theorem dL_law_1179 : decode cL_law 1179 = .ok (.iconst 0, 1) := by decide +kernel
theorem dL_law_1180 : decode cL_law 1180 = .ok (.ireturn, 1) := by decide +kernel
theorem dL_law_1181 : decode cL_law 1181 = .ok (.aload_n 1, 1) := by decide +kernel
theorem dL_law_1182 : decode cL_law 1182 = .ok (.aload_n 0, 1) := by decide +kernel
theorem dL_law_1183 : decode cL_law 1183 = .ok (.iload_n 3, 1) := by decide +kernel
theorem dL_law_1184 : decode cL_law 1184 = .ok (.iconst 1, 1) := by decide +kernel
theorem dL_law_1185 : decode cL_law 1185 = .ok (.iadd, 1) := by decide +kernel
theorem dL_law_1186 : decode cL_law 1186 = .ok (.iaload, 1) := by decide +kernel
theorem dL_law_1187 : decode cL_law 1187 = .ok (.invokevirtual 147, 3) := by decide +kernel
theorem dL_law_1190 : decode cL_law 1190 = .ok (.aload_n 2, 1) := by decide +kernel
theorem dL_law_1191 : decode cL_law 1191 = .ok (.aload_n 0, 1) := by decide +kernel
theorem dL_law_1192 : decode cL_law 1192 = .ok (.iload_n 3, 1) := by decide +kernel
theorem dL_law_1193 : decode cL_law 1193 = .ok (.iconst 1, 1) := by decide +kernel
theorem dL_law_1194 : decode cL_law 1194 = .ok (.iadd, 1) := by decide +kernel
theorem dL_law_1195 : decode cL_law 1195 = .ok (.iaload, 1) := by decide +kernel
theorem dL_law_1196 : decode cL_law 1196 = .ok (.invokevirtual 150, 3) := by decide +kernel
theorem dL_law_1199 : decode cL_law 1199 = .ok (.if_icmp .eq 90, 3) := by decide +kernel
theorem dL_law_1202 : decode cL_law 1202 = .ok (.iconst 0, 1) := by decide +kernel
theorem dL_law_1203 : decode cL_law 1203 = .ok (.ireturn, 1) := by decide +kernel
theorem dL_law_1204 : decode cL_law 1204 = .ok (.aload_n 1, 1) := by decide +kernel
theorem dL_law_1205 : decode cL_law 1205 = .ok (.invokevirtual 151, 3) := by decide +kernel
theorem dL_law_1208 : decode cL_law 1208 = .ok (.aload_n 2, 1) := by decide +kernel
theorem dL_law_1209 : decode cL_law 1209 = .ok (.invokevirtual 154, 3) := by decide +kernel
theorem dL_law_1212 : decode cL_law 1212 = .ok (.if_icmp .eq 77, 3) := by decide +kernel
theorem dL_law_1215 : decode cL_law 1215 = .ok (.iconst 0, 1) := by decide +kernel
theorem dL_law_1216 : decode cL_law 1216 = .ok (.ireturn, 1) := by decide +kernel
theorem dL_law_1217 : decode cL_law 1217 = .ok (.aload_n 1, 1) := by decide +kernel
theorem dL_law_1218 : decode cL_law 1218 = .ok (.invokevirtual 155, 3) := by decide +kernel
theorem dL_law_1221 : decode cL_law 1221 = .ok (.aload_n 2, 1) := by decide +kernel
theorem dL_law_1222 : decode cL_law 1222 = .ok (.invokevirtual 158, 3) := by decide +kernel
theorem dL_law_1225 : decode cL_law 1225 = .ok (.if_icmp .eq 64, 3) := by decide +kernel
theorem dL_law_1228 : decode cL_law 1228 = .ok (.iconst 0, 1) := by decide +kernel
theorem dL_law_1229 : decode cL_law 1229 = .ok (.ireturn, 1) := by decide +kernel
theorem dL_law_1230 : decode cL_law 1230 = .ok (.aload_n 1, 1) := by decide +kernel
theorem dL_law_1231 : decode cL_law 1231 = .ok (.invokevirtual 159, 3) := by decide +kernel
theorem dL_law_1234 : decode cL_law 1234 = .ok (.aload_n 2, 1) := by decide +kernel
theorem dL_law_1235 : decode cL_law 1235 = .ok (.invokevirtual 162, 3) := by decide +kernel
theorem dL_law_1238 : decode cL_law 1238 = .ok (.if_icmp .eq 51, 3) := by decide +kernel
theorem dL_law_1241 : decode cL_law 1241 = .ok (.iconst 0, 1) := by decide +kernel
theorem dL_law_1242 : decode cL_law 1242 = .ok (.ireturn, 1) := by decide +kernel
theorem dL_law_1243 : decode cL_law 1243 = .ok (.aload_n 1, 1) := by decide +kernel
theorem dL_law_1244 : decode cL_law 1244 = .ok (.aload_n 0, 1) := by decide +kernel
theorem dL_law_1245 : decode cL_law 1245 = .ok (.iload_n 3, 1) := by decide +kernel
theorem dL_law_1246 : decode cL_law 1246 = .ok (.iconst 1, 1) := by decide +kernel
theorem dL_law_1247 : decode cL_law 1247 = .ok (.iadd, 1) := by decide +kernel
theorem dL_law_1248 : decode cL_law 1248 = .ok (.iaload, 1) := by decide +kernel
theorem dL_law_1249 : decode cL_law 1249 = .ok (.invokevirtual 163, 3) := by decide +kernel
theorem dL_law_1252 : decode cL_law 1252 = .ok (.aload_n 2, 1) := by decide +kernel
theorem dL_law_1253 : decode cL_law 1253 = .ok (.aload_n 0, 1) := by decide +kernel
theorem dL_law_1254 : decode cL_law 1254 = .ok (.iload_n 3, 1) := by decide +kernel
theorem dL_law_1255 : decode cL_law 1255 = .ok (.iconst 1, 1) := by decide +kernel
theorem dL_law_1256 : decode cL_law 1256 = .ok (.iadd, 1) := by decide +kernel
theorem dL_law_1257 : decode cL_law 1257 = .ok (.iaload, 1) := by decide +kernel
theorem dL_law_1258 : decode cL_law 1258 = .ok (.invokevirtual 166, 3) := by decide +kernel
theorem dL_law_1261 : decode cL_law 1261 = .ok (.if_icmp .eq 28, 3) := by decide +kernel
theorem dL_law_1264 : decode cL_law 1264 = .ok (.iconst 0, 1) := by decide +kernel
theorem dL_law_1265 : decode cL_law 1265 = .ok (.ireturn, 1) := by decide +kernel
theorem dL_law_1266 : decode cL_law 1266 = .ok (.aload_n 1, 1) := by decide +kernel
theorem dL_law_1267 : decode cL_law 1267 = .ok (.aload_n 0, 1) := by decide +kernel
theorem dL_law_1268 : decode cL_law 1268 = .ok (.iload_n 3, 1) := by decide +kernel
theorem dL_law_1269 : decode cL_law 1269 = .ok (.iconst 1, 1) := by decide +kernel
theorem dL_law_1270 : decode cL_law 1270 = .ok (.iadd, 1) := by decide +kernel
theorem dL_law_1271 : decode cL_law 1271 = .ok (.iaload, 1) := by decide +kernel
theorem dL_law_1272 : decode cL_law 1272 = .ok (.invokevirtual 167, 3) := by decide +kernel
theorem dL_law_1275 : decode cL_law 1275 = .ok (.aload_n 2, 1) := by decide +kernel
theorem dL_law_1276 : decode cL_law 1276 = .ok (.aload_n 0, 1) := by decide +kernel
theorem dL_law_1277 : decode cL_law 1277 = .ok (.iload_n 3, 1) := by decide +kernel
theorem dL_law_1278 : decode cL_law 1278 = .ok (.iconst 1, 1) := by decide +kernel
theorem dL_law_1279 : decode cL_law 1279 = .ok (.iadd, 1) := by decide +kernel
theorem dL_law_1280 : decode cL_law 1280 = .ok (.iaload, 1) := by decide +kernel
theorem dL_law_1281 : decode cL_law 1281 = .ok (.invokevirtual 170, 3) := by decide +kernel
theorem dL_law_1284 : decode cL_law 1284 = .ok (.if_icmp .eq 5, 3) := by decide +kernel
theorem dL_law_1287 : decode cL_law 1287 = .ok (.iconst 0, 1) := by decide +kernel
theorem dL_law_1288 : decode cL_law 1288 = .ok (.ireturn, 1) := by decide +kernel
theorem dL_law_1289 : decode cL_law 1289 = .ok (.iinc 3 6, 3) := by decide +kernel
theorem dL_law_1292 : decode cL_law 1292 = .ok (.goto (-1274), 3) := by decide +kernel
theorem dL_law_1295 : decode cL_law 1295 = .ok (.iconst 1, 1) := by decide +kernel
theorem dL_law_1296 : decode cL_law 1296 = .ok (.ireturn, 1) := by decide +kernel
end
section
/-- all words of the tables that every method may take along -/
def zG : List Cond := lw_tbl.filter goodWord
theorem zG_good : ∀ w ∈ zG, goodWord w = true := fun _ h => (List.mem_filter.mp h).2
theorem zG_tbl : ∀ w ∈ zG, w ∈ lw_tbl := fun _ h => (List.mem_filter.mp h).1
theorem kC_L : Cond.initialized RL ∈ zG := List.mem_filter.mpr ⟨List.mem_append_right _ (List.mem_of_getElem? (i := 0) (by decide +kernel)), rfl⟩
theorem kC_X5 : Cond.initialized RX5 ∈ zG := List.mem_filter.mpr ⟨List.mem_append_right _ (List.mem_of_getElem? (i := 1) (by decide +kernel)), rfl⟩
theorem kC_X2 : Cond.initialized RX2 ∈ zG := List.mem_filter.mpr ⟨List.mem_append_right _ (List.mem_of_getElem? (i := 2) (by decide +kernel)), rfl⟩
theorem kC_X4 : Cond.initialized RX4 ∈ zG := List.mem_filter.mpr ⟨List.mem_append_right _ (List.mem_of_getElem? (i := 3) (by decide +kernel)), rfl⟩
theorem kC_X0 : Cond.initialized RX0 ∈ zG := List.mem_filter.mpr ⟨List.mem_append_right _ (List.mem_of_getElem? (i := 4) (by decide +kernel)), rfl⟩
theorem kC_X1 : Cond.initialized RX1 ∈ zG := List.mem_filter.mpr ⟨List.mem_append_right _ (List.mem_of_getElem? (i := 5) (by decide +kernel)), rfl⟩
theorem kC_X3 : Cond.initialized RX3 ∈ zG := List.mem_filter.mpr ⟨List.mem_append_right _ (List.mem_of_getElem? (i := 6) (by decide +kernel)), rfl⟩
theorem kC_X6 : Cond.initialized RX6 ∈ zG := List.mem_filter.mpr ⟨List.mem_append_right _ (List.mem_of_getElem? (i := 7) (by decide +kernel)), rfl⟩
theorem kC_Math : Cond.initialized "java/lang/Math" ∈ zG := List.mem_filter.mpr ⟨List.mem_append_right _ (List.mem_of_getElem? (i := 8) (by decide +kernel)), rfl⟩
theorem kC_System : Cond.initialized "java/lang/System" ∈ zG := List.mem_filter.mpr ⟨List.mem_append_right _ (List.mem_of_getElem? (i := 9) (by decide +kernel)), rfl⟩
theorem kL_L_7 : Cond.classLink RL 7 RX5 ∈ zG := List.mem_filter.mpr ⟨List.mem_append_right _ (List.mem_of_getElem? (i := 10) (by decide +kernel)), rfl⟩
theorem kO_X5 : Cond.instantiable RX5 9 ∈ zG := List.mem_filter.mpr ⟨List.mem_append_right _ (List.mem_of_getElem? (i := 11) (by decide +kernel)), rfl⟩
theorem kM_L_9 : Cond.methodLink RL 9 yX5_init ∈ zG := List.mem_filter.mpr ⟨List.mem_append_right _ (List.mem_of_getElem? (i := 12) (by decide +kernel)), rfl⟩
theorem kI_X5_init : Cond.instanceMethod yX5_init ∈ zG := List.mem_filter.mpr ⟨List.mem_append_right _ (List.mem_of_getElem? (i := 13) (by decide +kernel)), rfl⟩
theorem kD_X5_init : Cond.code yX5_init cX5_init 2 none ∈ zG := List.mem_filter.mpr ⟨List.mem_append_right _ (List.mem_of_getElem? (i := 14) (by decide +kernel)), rfl⟩
theorem kM_X5_3 : Cond.methodLink RX5 3 objectInit ∈ zG := List.mem_filter.mpr ⟨List.mem_append_right _ (List.mem_of_getElem? (i := 15) (by decide +kernel)), rfl⟩
theorem kI_J_objectInit : Cond.instanceMethod objectInit ∈ zG := List.mem_filter.mpr ⟨List.mem_append_right _ (List.mem_of_getElem? (i := 16) (by decide +kernel)), rfl⟩
theorem kD_J_objectInit : Cond.code objectInit ⟨#[0xb1]⟩ 1 none ∈ zG := List.mem_filter.mpr ⟨List.mem_append_right _ (List.mem_of_getElem? (i := 17) (by decide +kernel)), rfl⟩
theorem kL_X5_9 : Cond.classLink RX5 9 RX2 ∈ zG := List.mem_filter.mpr ⟨List.mem_append_right _ (List.mem_of_getElem? (i := 18) (by decide +kernel)), rfl⟩
theorem kO_X2 : Cond.instantiable RX2 9 ∈ zG := List.mem_filter.mpr ⟨List.mem_append_right _ (List.mem_of_getElem? (i := 19) (by decide +kernel)), rfl⟩
theorem kM_X5_11 : Cond.methodLink RX5 11 yX2_init ∈ zG := List.mem_filter.mpr ⟨List.mem_append_right _ (List.mem_of_getElem? (i := 20) (by decide +kernel)), rfl⟩
theorem kI_X2_init : Cond.instanceMethod yX2_init ∈ zG := List.mem_filter.mpr ⟨List.mem_append_right _ (List.mem_of_getElem? (i := 21) (by decide +kernel)), rfl⟩
theorem kD_X2_init : Cond.code yX2_init cX2_init 2 none ∈ zG := List.mem_filter.mpr ⟨List.mem_append_right _ (List.mem_of_getElem? (i := 22) (by decide +kernel)), rfl⟩
theorem kM_X2_3 : Cond.methodLink RX2 3 objectInit ∈ zG := List.mem_filter.mpr ⟨List.mem_append_right _ (List.mem_of_getElem? (i := 23) (by decide +kernel)), rfl⟩
theorem kL_X2_9 : Cond.classLink RX2 9 RX0 ∈ zG := List.mem_filter.mpr ⟨List.mem_append_right _ (List.mem_of_getElem? (i := 24) (by decide +kernel)), rfl⟩
theorem kL_X2_27 : Cond.classLink RX2 27 RX4 ∈ zG := List.mem_filter.mpr ⟨List.mem_append_right _ (List.mem_of_getElem? (i := 26) (by decide +kernel)), rfl⟩
theorem kO_X4 : Cond.instantiable RX4 11 ∈ zG := List.mem_filter.mpr ⟨List.mem_append_right _ (List.mem_of_getElem? (i := 27) (by decide +kernel)), rfl⟩
theorem kI_X4_init : Cond.instanceMethod yX4_init ∈ zG := List.mem_filter.mpr ⟨List.mem_append_right _ (List.mem_of_getElem? (i := 29) (by decide +kernel)), rfl⟩
theorem kD_X4_init : Cond.code yX4_init cX4_init 1 none ∈ zG := List.mem_filter.mpr ⟨List.mem_append_right _ (List.mem_of_getElem? (i := 30) (by decide +kernel)), rfl⟩
theorem kM_X4_3 : Cond.methodLink RX4 3 objectInit ∈ zG := List.mem_filter.mpr ⟨List.mem_append_right _ (List.mem_of_getElem? (i := 31) (by decide +kernel)), rfl⟩
theorem kF_X4_9 : Cond.fieldLink RX4 9 RX4 "bytes" "[I" ∈ zG := List.mem_filter.mpr ⟨List.mem_append_right _ (List.mem_of_getElem? (i := 32) (by decide +kernel)), rfl⟩
theorem kF_X4_15 : Cond.fieldLink RX4 15 RX4 "length" "I" ∈ zG := List.mem_filter.mpr ⟨List.mem_append_right _ (List.mem_of_getElem? (i := 34) (by decide +kernel)), rfl⟩
theorem kF_X4_55 : Cond.fieldLink RX4 55 RX4 "at" "I" ∈ zG := List.mem_filter.mpr ⟨List.mem_append_right _ (List.mem_of_getElem? (i := 37) (by decide +kernel)), rfl⟩
theorem kF_X4_58 : Cond.fieldLink RX4 58 RX4 "sign" "I" ∈ zG := List.mem_filter.mpr ⟨List.mem_append_right _ (List.mem_of_getElem? (i := 38) (by decide +kernel)), rfl⟩
theorem kF_X4_29 : Cond.fieldLink RX4 29 RX4 "fault" "I" ∈ zG := List.mem_filter.mpr ⟨List.mem_append_right _ (List.mem_of_getElem? (i := 39) (by decide +kernel)), rfl⟩
theorem kF_X4_32 : Cond.fieldLink RX4 32 RX4 "stood" "I" ∈ zG := List.mem_filter.mpr ⟨List.mem_append_right _ (List.mem_of_getElem? (i := 40) (by decide +kernel)), rfl⟩
theorem kF_X4_40 : Cond.fieldLink RX4 40 RX4 "hold" "I" ∈ zG := List.mem_filter.mpr ⟨List.mem_append_right _ (List.mem_of_getElem? (i := 41) (by decide +kernel)), rfl⟩
theorem kF_X4_44 : Cond.fieldLink RX4 44 RX4 "go" "I" ∈ zG := List.mem_filter.mpr ⟨List.mem_append_right _ (List.mem_of_getElem? (i := 42) (by decide +kernel)), rfl⟩
theorem kF_X4_45 : Cond.fieldLink RX4 45 RX4 "block" "I" ∈ zG := List.mem_filter.mpr ⟨List.mem_append_right _ (List.mem_of_getElem? (i := 43) (by decide +kernel)), rfl⟩
theorem kF_X4_51 : Cond.fieldLink RX4 51 RX4 "drops" "I" ∈ zG := List.mem_filter.mpr ⟨List.mem_append_right _ (List.mem_of_getElem? (i := 44) (by decide +kernel)), rfl⟩
theorem kF_X4_52 : Cond.fieldLink RX4 52 RX4 "pace" "I" ∈ zG := List.mem_filter.mpr ⟨List.mem_append_right _ (List.mem_of_getElem? (i := 45) (by decide +kernel)), rfl⟩
theorem kA_69 : Cond.arrayClass FieldType.int ∈ zG := List.mem_filter.mpr ⟨List.mem_append_right _ (List.mem_of_getElem? (i := 69) (by decide +kernel)), rfl⟩
theorem kO_X0 : Cond.instantiable RX0 11 ∈ zG := List.mem_filter.mpr ⟨List.mem_append_right _ (List.mem_of_getElem? (i := 70) (by decide +kernel)), rfl⟩
theorem kI_X0_init : Cond.instanceMethod yX0_init ∈ zG := List.mem_filter.mpr ⟨List.mem_append_right _ (List.mem_of_getElem? (i := 72) (by decide +kernel)), rfl⟩
theorem kD_X0_init : Cond.code yX0_init cX0_init 1 none ∈ zG := List.mem_filter.mpr ⟨List.mem_append_right _ (List.mem_of_getElem? (i := 73) (by decide +kernel)), rfl⟩
theorem kM_X0_3 : Cond.methodLink RX0 3 objectInit ∈ zG := List.mem_filter.mpr ⟨List.mem_append_right _ (List.mem_of_getElem? (i := 74) (by decide +kernel)), rfl⟩
theorem kF_X0_9 : Cond.fieldLink RX0 9 RX0 "kind" "I" ∈ zG := List.mem_filter.mpr ⟨List.mem_append_right _ (List.mem_of_getElem? (i := 75) (by decide +kernel)), rfl⟩
theorem kF_X0_15 : Cond.fieldLink RX0 15 RX0 "hold" "I" ∈ zG := List.mem_filter.mpr ⟨List.mem_append_right _ (List.mem_of_getElem? (i := 78) (by decide +kernel)), rfl⟩
theorem kF_X0_18 : Cond.fieldLink RX0 18 RX0 "go" "I" ∈ zG := List.mem_filter.mpr ⟨List.mem_append_right _ (List.mem_of_getElem? (i := 82) (by decide +kernel)), rfl⟩
theorem kF_X0_21 : Cond.fieldLink RX0 21 RX0 "stiff" "I" ∈ zG := List.mem_filter.mpr ⟨List.mem_append_right _ (List.mem_of_getElem? (i := 85) (by decide +kernel)), rfl⟩
theorem kF_X0_24 : Cond.fieldLink RX0 24 RX0 "drops" "I" ∈ zG := List.mem_filter.mpr ⟨List.mem_append_right _ (List.mem_of_getElem? (i := 88) (by decide +kernel)), rfl⟩
theorem kF_X0_27 : Cond.fieldLink RX0 27 RX0 "place" "I" ∈ zG := List.mem_filter.mpr ⟨List.mem_append_right _ (List.mem_of_getElem? (i := 92) (by decide +kernel)), rfl⟩
theorem kF_X0_30 : Cond.fieldLink RX0 30 RX0 "stood" "I" ∈ zG := List.mem_filter.mpr ⟨List.mem_append_right _ (List.mem_of_getElem? (i := 95) (by decide +kernel)), rfl⟩
theorem kF_X0_46 : Cond.fieldLink RX0 46 RX0 "heldBy" "I" ∈ zG := List.mem_filter.mpr ⟨List.mem_append_right _ (List.mem_of_getElem? (i := 98) (by decide +kernel)), rfl⟩
theorem kF_X0_56 : Cond.fieldLink RX0 56 RX0 "pull" "I" ∈ zG := List.mem_filter.mpr ⟨List.mem_append_right _ (List.mem_of_getElem? (i := 100) (by decide +kernel)), rfl⟩
theorem kF_X0_49 : Cond.fieldLink RX0 49 RX0 "steps" "I" ∈ zG := List.mem_filter.mpr ⟨List.mem_append_right _ (List.mem_of_getElem? (i := 102) (by decide +kernel)), rfl⟩
theorem kF_X0_52 : Cond.fieldLink RX0 52 RX0 "moved" "Z" ∈ zG := List.mem_filter.mpr ⟨List.mem_append_right _ (List.mem_of_getElem? (i := 103) (by decide +kernel)), rfl⟩
theorem kF_X2_11 : Cond.fieldLink RX2 11 RX2 "blocks" "[LDoorCreaks$Block;" ∈ zG := List.mem_filter.mpr ⟨List.mem_append_right _ (List.mem_of_getElem? (i := 127) (by decide +kernel)), rfl⟩
theorem kF_X2_17 : Cond.fieldLink RX2 17 RX2 "length" "I" ∈ zG := List.mem_filter.mpr ⟨List.mem_append_right _ (List.mem_of_getElem? (i := 129) (by decide +kernel)), rfl⟩
theorem kF_X2_21 : Cond.fieldLink RX2 21 RX2 "hand" "I" ∈ zG := List.mem_filter.mpr ⟨List.mem_append_right _ (List.mem_of_getElem? (i := 131) (by decide +kernel)), rfl⟩
theorem kF_X2_24 : Cond.fieldLink RX2 24 RX2 "pace" "I" ∈ zG := List.mem_filter.mpr ⟨List.mem_append_right _ (List.mem_of_getElem? (i := 133) (by decide +kernel)), rfl⟩
theorem kF_X2_30 : Cond.fieldLink RX2 30 RX2 "law" "LDoorCreaks$Text;" ∈ zG := List.mem_filter.mpr ⟨List.mem_append_right _ (List.mem_of_getElem? (i := 135) (by decide +kernel)), rfl⟩
theorem kF_X2_34 : Cond.fieldLink RX2 34 RX2 "size" "I" ∈ zG := List.mem_filter.mpr ⟨List.mem_append_right _ (List.mem_of_getElem? (i := 137) (by decide +kernel)), rfl⟩
theorem kF_X2_37 : Cond.fieldLink RX2 37 RX2 "wide" "I" ∈ zG := List.mem_filter.mpr ⟨List.mem_append_right _ (List.mem_of_getElem? (i := 140) (by decide +kernel)), rfl⟩
theorem kF_X2_40 : Cond.fieldLink RX2 40 RX2 "noise" "I" ∈ zG := List.mem_filter.mpr ⟨List.mem_append_right _ (List.mem_of_getElem? (i := 143) (by decide +kernel)), rfl⟩
theorem kF_X2_43 : Cond.fieldLink RX2 43 RX2 "chatters" "Z" ∈ zG := List.mem_filter.mpr ⟨List.mem_append_right _ (List.mem_of_getElem? (i := 146) (by decide +kernel)), rfl⟩
theorem kL_X5_22 : Cond.classLink RX5 22 RX1 ∈ zG := List.mem_filter.mpr ⟨List.mem_append_right _ (List.mem_of_getElem? (i := 167) (by decide +kernel)), rfl⟩
theorem kO_X1 : Cond.instantiable RX1 8 ∈ zG := List.mem_filter.mpr ⟨List.mem_append_right _ (List.mem_of_getElem? (i := 168) (by decide +kernel)), rfl⟩
theorem kI_X1_init : Cond.instanceMethod yX1_init ∈ zG := List.mem_filter.mpr ⟨List.mem_append_right _ (List.mem_of_getElem? (i := 170) (by decide +kernel)), rfl⟩
theorem kD_X1_init : Cond.code yX1_init cX1_init 1 none ∈ zG := List.mem_filter.mpr ⟨List.mem_append_right _ (List.mem_of_getElem? (i := 171) (by decide +kernel)), rfl⟩
theorem kM_X1_3 : Cond.methodLink RX1 3 objectInit ∈ zG := List.mem_filter.mpr ⟨List.mem_append_right _ (List.mem_of_getElem? (i := 172) (by decide +kernel)), rfl⟩
theorem kF_X1_9 : Cond.fieldLink RX1 9 RX1 "sizes" "[I" ∈ zG := List.mem_filter.mpr ⟨List.mem_append_right _ (List.mem_of_getElem? (i := 173) (by decide +kernel)), rfl⟩
theorem kF_X1_15 : Cond.fieldLink RX1 15 RX1 "wides" "[I" ∈ zG := List.mem_filter.mpr ⟨List.mem_append_right _ (List.mem_of_getElem? (i := 175) (by decide +kernel)), rfl⟩
theorem kF_X1_18 : Cond.fieldLink RX1 18 RX1 "noises" "[I" ∈ zG := List.mem_filter.mpr ⟨List.mem_append_right _ (List.mem_of_getElem? (i := 177) (by decide +kernel)), rfl⟩
theorem kF_X1_21 : Cond.fieldLink RX1 21 RX1 "classes" "[I" ∈ zG := List.mem_filter.mpr ⟨List.mem_append_right _ (List.mem_of_getElem? (i := 179) (by decide +kernel)), rfl⟩
theorem kF_X1_24 : Cond.fieldLink RX1 24 RX1 "length" "I" ∈ zG := List.mem_filter.mpr ⟨List.mem_append_right _ (List.mem_of_getElem? (i := 181) (by decide +kernel)), rfl⟩
theorem kF_X1_28 : Cond.fieldLink RX1 28 RX1 "next" "I" ∈ zG := List.mem_filter.mpr ⟨List.mem_append_right _ (List.mem_of_getElem? (i := 183) (by decide +kernel)), rfl⟩
theorem kF_X1_31 : Cond.fieldLink RX1 31 RX1 "ticks" "I" ∈ zG := List.mem_filter.mpr ⟨List.mem_append_right _ (List.mem_of_getElem? (i := 184) (by decide +kernel)), rfl⟩
theorem kF_X1_34 : Cond.fieldLink RX1 34 RX1 "chattered" "I" ∈ zG := List.mem_filter.mpr ⟨List.mem_append_right _ (List.mem_of_getElem? (i := 186) (by decide +kernel)), rfl⟩
theorem kL_X5_36 : Cond.classLink RX5 36 RX4 ∈ zG := List.mem_filter.mpr ⟨List.mem_append_right _ (List.mem_of_getElem? (i := 205) (by decide +kernel)), rfl⟩
theorem kL_X5_43 : Cond.classLink RX5 43 RX3 ∈ zG := List.mem_filter.mpr ⟨List.mem_append_right _ (List.mem_of_getElem? (i := 207) (by decide +kernel)), rfl⟩
theorem kO_X3 : Cond.instantiable RX3 3 ∈ zG := List.mem_filter.mpr ⟨List.mem_append_right _ (List.mem_of_getElem? (i := 209) (by decide +kernel)), rfl⟩
theorem kI_X3_init : Cond.instanceMethod yX3_init ∈ zG := List.mem_filter.mpr ⟨List.mem_append_right _ (List.mem_of_getElem? (i := 211) (by decide +kernel)), rfl⟩
theorem kD_X3_init : Cond.code yX3_init cX3_init 1 none ∈ zG := List.mem_filter.mpr ⟨List.mem_append_right _ (List.mem_of_getElem? (i := 212) (by decide +kernel)), rfl⟩
theorem kM_X3_3 : Cond.methodLink RX3 3 objectInit ∈ zG := List.mem_filter.mpr ⟨List.mem_append_right _ (List.mem_of_getElem? (i := 213) (by decide +kernel)), rfl⟩
theorem kF_X3_9 : Cond.fieldLink RX3 9 RX3 "numbers" "[J" ∈ zG := List.mem_filter.mpr ⟨List.mem_append_right _ (List.mem_of_getElem? (i := 214) (by decide +kernel)), rfl⟩
theorem kF_X3_15 : Cond.fieldLink RX3 15 RX3 "bits" "I" ∈ zG := List.mem_filter.mpr ⟨List.mem_append_right _ (List.mem_of_getElem? (i := 216) (by decide +kernel)), rfl⟩
theorem kF_X3_19 : Cond.fieldLink RX3 19 RX3 "length" "I" ∈ zG := List.mem_filter.mpr ⟨List.mem_append_right _ (List.mem_of_getElem? (i := 218) (by decide +kernel)), rfl⟩
theorem kA_227 : Cond.arrayClass FieldType.long ∈ zG := List.mem_filter.mpr ⟨List.mem_append_right _ (List.mem_of_getElem? (i := 227) (by decide +kernel)), rfl⟩
theorem kF_X5_12 : Cond.fieldLink RX5 12 RX5 "live" "LDoorCreaks$Row;" ∈ zG := List.mem_filter.mpr ⟨List.mem_append_right _ (List.mem_of_getElem? (i := 228) (by decide +kernel)), rfl⟩
theorem kF_X5_16 : Cond.fieldLink RX5 16 RX5 "kept" "LDoorCreaks$Row;" ∈ zG := List.mem_filter.mpr ⟨List.mem_append_right _ (List.mem_of_getElem? (i := 229) (by decide +kernel)), rfl⟩
theorem kF_X5_19 : Cond.fieldLink RX5 19 RX5 "trial" "LDoorCreaks$Row;" ∈ zG := List.mem_filter.mpr ⟨List.mem_append_right _ (List.mem_of_getElem? (i := 230) (by decide +kernel)), rfl⟩
theorem kF_X5_25 : Cond.fieldLink RX5 25 RX5 "book" "LDoorCreaks$Book;" ∈ zG := List.mem_filter.mpr ⟨List.mem_append_right _ (List.mem_of_getElem? (i := 231) (by decide +kernel)), rfl⟩
theorem kF_X5_29 : Cond.fieldLink RX5 29 RX5 "keptBook" "LDoorCreaks$Book;" ∈ zG := List.mem_filter.mpr ⟨List.mem_append_right _ (List.mem_of_getElem? (i := 232) (by decide +kernel)), rfl⟩
theorem kF_X5_32 : Cond.fieldLink RX5 32 RX5 "isKept" "Z" ∈ zG := List.mem_filter.mpr ⟨List.mem_append_right _ (List.mem_of_getElem? (i := 233) (by decide +kernel)), rfl⟩
theorem kF_X5_39 : Cond.fieldLink RX5 39 RX5 "tape" "LDoorCreaks$Text;" ∈ zG := List.mem_filter.mpr ⟨List.mem_append_right _ (List.mem_of_getElem? (i := 234) (by decide +kernel)), rfl⟩
theorem kF_X5_45 : Cond.fieldLink RX5 45 RX5 "sheets" "[LDoorCreaks$Sheet;" ∈ zG := List.mem_filter.mpr ⟨List.mem_append_right _ (List.mem_of_getElem? (i := 235) (by decide +kernel)), rfl⟩
theorem kF_X5_49 : Cond.fieldLink RX5 49 RX5 "found" "[I" ∈ zG := List.mem_filter.mpr ⟨List.mem_append_right _ (List.mem_of_getElem? (i := 236) (by decide +kernel)), rfl⟩
theorem kM_L_13 : Cond.methodLink RL 13 yX5_block ∈ zG := List.mem_filter.mpr ⟨List.mem_append_right _ (List.mem_of_getElem? (i := 256) (by decide +kernel)), rfl⟩
theorem kI_X5_block : Cond.instanceMethod yX5_block ∈ zG := List.mem_filter.mpr ⟨List.mem_append_right _ (List.mem_of_getElem? (i := 257) (by decide +kernel)), rfl⟩
theorem kS_X5_block : Cond.selects RX5 yX5_block yX5_block ∈ zG := List.mem_filter.mpr ⟨List.mem_append_right _ (List.mem_of_getElem? (i := 258) (by decide +kernel)), rfl⟩
theorem kD_X5_block : Cond.code yX5_block cX5_block 6 (some .int) ∈ zG := List.mem_filter.mpr ⟨List.mem_append_right _ (List.mem_of_getElem? (i := 259) (by decide +kernel)), rfl⟩
theorem kM_X5_54 : Cond.methodLink RX5 54 yX5_within ∈ zG := List.mem_filter.mpr ⟨List.mem_append_right _ (List.mem_of_getElem? (i := 260) (by decide +kernel)), rfl⟩
theorem kT_X5_within : Cond.static yX5_within ∈ zG := List.mem_filter.mpr ⟨List.mem_append_right _ (List.mem_of_getElem? (i := 261) (by decide +kernel)), rfl⟩
theorem kD_X5_within : Cond.code yX5_within cX5_within 3 (some .boolean) ∈ zG := List.mem_filter.mpr ⟨List.mem_append_right _ (List.mem_of_getElem? (i := 262) (by decide +kernel)), rfl⟩
theorem kK_X5_58 : Cond.constant RX5 58 (-1000000001 : Int32) ∈ zG := List.mem_filter.mpr ⟨List.mem_append_right _ (List.mem_of_getElem? (i := 263) (by decide +kernel)), rfl⟩
theorem kM_X5_59 : Cond.methodLink RX5 59 yX5_finding ∈ zG := List.mem_filter.mpr ⟨List.mem_append_right _ (List.mem_of_getElem? (i := 264) (by decide +kernel)), rfl⟩
theorem kI_X5_finding : Cond.instanceMethod yX5_finding ∈ zG := List.mem_filter.mpr ⟨List.mem_append_right _ (List.mem_of_getElem? (i := 266) (by decide +kernel)), rfl⟩
theorem kD_X5_finding : Cond.code yX5_finding cX5_finding 3 (some .int) ∈ zG := List.mem_filter.mpr ⟨List.mem_append_right _ (List.mem_of_getElem? (i := 267) (by decide +kernel)), rfl⟩
theorem kK_X5_67 : Cond.constant RX5 67 (-1000000002 : Int32) ∈ zG := List.mem_filter.mpr ⟨List.mem_append_right _ (List.mem_of_getElem? (i := 268) (by decide +kernel)), rfl⟩
theorem kM_X5_72 : Cond.methodLink RX5 72 yX0_begin ∈ zG := List.mem_filter.mpr ⟨List.mem_append_right _ (List.mem_of_getElem? (i := 269) (by decide +kernel)), rfl⟩
theorem kI_X0_begin : Cond.instanceMethod yX0_begin ∈ zG := List.mem_filter.mpr ⟨List.mem_append_right _ (List.mem_of_getElem? (i := 270) (by decide +kernel)), rfl⟩
theorem kS_X0_begin : Cond.selects RX0 yX0_begin yX0_begin ∈ zG := List.mem_filter.mpr ⟨List.mem_append_right _ (List.mem_of_getElem? (i := 271) (by decide +kernel)), rfl⟩
theorem kD_X0_begin : Cond.code yX0_begin cX0_begin 5 none ∈ zG := List.mem_filter.mpr ⟨List.mem_append_right _ (List.mem_of_getElem? (i := 272) (by decide +kernel)), rfl⟩
theorem kM_L_18 : Cond.methodLink RL 18 yX5_of ∈ zG := List.mem_filter.mpr ⟨List.mem_append_right _ (List.mem_of_getElem? (i := 273) (by decide +kernel)), rfl⟩
theorem kI_X5_of : Cond.instanceMethod yX5_of ∈ zG := List.mem_filter.mpr ⟨List.mem_append_right _ (List.mem_of_getElem? (i := 274) (by decide +kernel)), rfl⟩
theorem kS_X5_of : Cond.selects RX5 yX5_of yX5_of ∈ zG := List.mem_filter.mpr ⟨List.mem_append_right _ (List.mem_of_getElem? (i := 275) (by decide +kernel)), rfl⟩
theorem kD_X5_of : Cond.code yX5_of cX5_of 4 (some .int) ∈ zG := List.mem_filter.mpr ⟨List.mem_append_right _ (List.mem_of_getElem? (i := 276) (by decide +kernel)), rfl⟩
theorem kM_X5_78 : Cond.methodLink RX5 78 yX2_has ∈ zG := List.mem_filter.mpr ⟨List.mem_append_right _ (List.mem_of_getElem? (i := 277) (by decide +kernel)), rfl⟩
theorem kI_X2_has : Cond.instanceMethod yX2_has ∈ zG := List.mem_filter.mpr ⟨List.mem_append_right _ (List.mem_of_getElem? (i := 278) (by decide +kernel)), rfl⟩
theorem kS_X2_has : Cond.selects RX2 yX2_has yX2_has ∈ zG := List.mem_filter.mpr ⟨List.mem_append_right _ (List.mem_of_getElem? (i := 279) (by decide +kernel)), rfl⟩
theorem kD_X2_has : Cond.code yX2_has cX2_has 2 (some .boolean) ∈ zG := List.mem_filter.mpr ⟨List.mem_append_right _ (List.mem_of_getElem? (i := 280) (by decide +kernel)), rfl⟩
theorem kM_X5_103 : Cond.methodLink RX5 103 yX2_pullOf ∈ zG := List.mem_filter.mpr ⟨List.mem_append_right _ (List.mem_of_getElem? (i := 281) (by decide +kernel)), rfl⟩
theorem kI_X2_pullOf : Cond.instanceMethod yX2_pullOf ∈ zG := List.mem_filter.mpr ⟨List.mem_append_right _ (List.mem_of_getElem? (i := 282) (by decide +kernel)), rfl⟩
theorem kS_X2_pullOf : Cond.selects RX2 yX2_pullOf yX2_pullOf ∈ zG := List.mem_filter.mpr ⟨List.mem_append_right _ (List.mem_of_getElem? (i := 283) (by decide +kernel)), rfl⟩
theorem kD_X2_pullOf : Cond.code yX2_pullOf cX2_pullOf 6 (some .int) ∈ zG := List.mem_filter.mpr ⟨List.mem_append_right _ (List.mem_of_getElem? (i := 284) (by decide +kernel)), rfl⟩
theorem kM_X5_106 : Cond.methodLink RX5 106 yX2_holdsOf ∈ zG := List.mem_filter.mpr ⟨List.mem_append_right _ (List.mem_of_getElem? (i := 285) (by decide +kernel)), rfl⟩
theorem kI_X2_holdsOf : Cond.instanceMethod yX2_holdsOf ∈ zG := List.mem_filter.mpr ⟨List.mem_append_right _ (List.mem_of_getElem? (i := 286) (by decide +kernel)), rfl⟩
theorem kS_X2_holdsOf : Cond.selects RX2 yX2_holdsOf yX2_holdsOf ∈ zG := List.mem_filter.mpr ⟨List.mem_append_right _ (List.mem_of_getElem? (i := 287) (by decide +kernel)), rfl⟩
theorem kD_X2_holdsOf : Cond.code yX2_holdsOf cX2_holdsOf 4 (some .int) ∈ zG := List.mem_filter.mpr ⟨List.mem_append_right _ (List.mem_of_getElem? (i := 288) (by decide +kernel)), rfl⟩
theorem kM_X2_64 : Cond.methodLink RX2 64 yX0_rustyHolds ∈ zG := List.mem_filter.mpr ⟨List.mem_append_right _ (List.mem_of_getElem? (i := 289) (by decide +kernel)), rfl⟩
theorem kI_X0_rustyHolds : Cond.instanceMethod yX0_rustyHolds ∈ zG := List.mem_filter.mpr ⟨List.mem_append_right _ (List.mem_of_getElem? (i := 290) (by decide +kernel)), rfl⟩
theorem kS_X0_rustyHolds : Cond.selects RX0 yX0_rustyHolds yX0_rustyHolds ∈ zG := List.mem_filter.mpr ⟨List.mem_append_right _ (List.mem_of_getElem? (i := 291) (by decide +kernel)), rfl⟩
theorem kD_X0_rustyHolds : Cond.code yX0_rustyHolds cX0_rustyHolds 2 (some .int) ∈ zG := List.mem_filter.mpr ⟨List.mem_append_right _ (List.mem_of_getElem? (i := 292) (by decide +kernel)), rfl⟩
theorem kM_X0_39 : Cond.methodLink RX0 39 yX0_plainHolds ∈ zG := List.mem_filter.mpr ⟨List.mem_append_right _ (List.mem_of_getElem? (i := 293) (by decide +kernel)), rfl⟩
theorem kI_X0_plainHolds : Cond.instanceMethod yX0_plainHolds ∈ zG := List.mem_filter.mpr ⟨List.mem_append_right _ (List.mem_of_getElem? (i := 294) (by decide +kernel)), rfl⟩
theorem kS_X0_plainHolds : Cond.selects RX0 yX0_plainHolds yX0_plainHolds ∈ zG := List.mem_filter.mpr ⟨List.mem_append_right _ (List.mem_of_getElem? (i := 295) (by decide +kernel)), rfl⟩
theorem kD_X0_plainHolds : Cond.code yX0_plainHolds cX0_plainHolds 2 (some .int) ∈ zG := List.mem_filter.mpr ⟨List.mem_append_right _ (List.mem_of_getElem? (i := 296) (by decide +kernel)), rfl⟩
theorem kM_X0_33 : Cond.methodLink RX0 33 Lib.Math.min.name ∈ zG := List.mem_filter.mpr ⟨List.mem_append_right _ (List.mem_of_getElem? (i := 297) (by decide +kernel)), rfl⟩
theorem kT_J_min : Cond.static Lib.Math.min.name ∈ zG := List.mem_filter.mpr ⟨List.mem_append_right _ (List.mem_of_getElem? (i := 298) (by decide +kernel)), rfl⟩
theorem kD_J_min : Cond.code Lib.Math.min.name Lib.Math.min.code 2 (some .int) ∈ zG := List.mem_filter.mpr ⟨List.mem_append_right _ (List.mem_of_getElem? (i := 299) (by decide +kernel)), rfl⟩
theorem kM_X2_68 : Cond.methodLink RX2 68 yX0_oiledHolds ∈ zG := List.mem_filter.mpr ⟨List.mem_append_right _ (List.mem_of_getElem? (i := 300) (by decide +kernel)), rfl⟩
theorem kI_X0_oiledHolds : Cond.instanceMethod yX0_oiledHolds ∈ zG := List.mem_filter.mpr ⟨List.mem_append_right _ (List.mem_of_getElem? (i := 301) (by decide +kernel)), rfl⟩
theorem kS_X0_oiledHolds : Cond.selects RX0 yX0_oiledHolds yX0_oiledHolds ∈ zG := List.mem_filter.mpr ⟨List.mem_append_right _ (List.mem_of_getElem? (i := 302) (by decide +kernel)), rfl⟩
theorem kD_X0_oiledHolds : Cond.code yX0_oiledHolds cX0_oiledHolds 2 (some .int) ∈ zG := List.mem_filter.mpr ⟨List.mem_append_right _ (List.mem_of_getElem? (i := 303) (by decide +kernel)), rfl⟩
theorem kM_X0_43 : Cond.methodLink RX0 43 Lib.Math.max.name ∈ zG := List.mem_filter.mpr ⟨List.mem_append_right _ (List.mem_of_getElem? (i := 304) (by decide +kernel)), rfl⟩
theorem kT_J_max : Cond.static Lib.Math.max.name ∈ zG := List.mem_filter.mpr ⟨List.mem_append_right _ (List.mem_of_getElem? (i := 305) (by decide +kernel)), rfl⟩
theorem kD_J_max : Cond.code Lib.Math.max.name Lib.Math.max.code 2 (some .int) ∈ zG := List.mem_filter.mpr ⟨List.mem_append_right _ (List.mem_of_getElem? (i := 306) (by decide +kernel)), rfl⟩
theorem kM_X2_75 : Cond.methodLink RX2 75 yX4_valueFor ∈ zG := List.mem_filter.mpr ⟨List.mem_append_right _ (List.mem_of_getElem? (i := 307) (by decide +kernel)), rfl⟩
theorem kI_X4_valueFor : Cond.instanceMethod yX4_valueFor ∈ zG := List.mem_filter.mpr ⟨List.mem_append_right _ (List.mem_of_getElem? (i := 308) (by decide +kernel)), rfl⟩
theorem kS_X4_valueFor : Cond.selects RX4 yX4_valueFor yX4_valueFor ∈ zG := List.mem_filter.mpr ⟨List.mem_append_right _ (List.mem_of_getElem? (i := 309) (by decide +kernel)), rfl⟩
theorem kD_X4_valueFor : Cond.code yX4_valueFor cX4_valueFor 5 (some .int) ∈ zG := List.mem_filter.mpr ⟨List.mem_append_right _ (List.mem_of_getElem? (i := 310) (by decide +kernel)), rfl⟩
theorem kM_X4_25 : Cond.methodLink RX4 25 yX4_readAll ∈ zG := List.mem_filter.mpr ⟨List.mem_append_right _ (List.mem_of_getElem? (i := 311) (by decide +kernel)), rfl⟩
theorem kI_X4_readAll : Cond.instanceMethod yX4_readAll ∈ zG := List.mem_filter.mpr ⟨List.mem_append_right _ (List.mem_of_getElem? (i := 313) (by decide +kernel)), rfl⟩
theorem kD_X4_readAll : Cond.code yX4_readAll cX4_readAll 2 (some .int) ∈ zG := List.mem_filter.mpr ⟨List.mem_append_right _ (List.mem_of_getElem? (i := 314) (by decide +kernel)), rfl⟩
theorem kM_X4_61 : Cond.methodLink RX4 61 yX4_sum ∈ zG := List.mem_filter.mpr ⟨List.mem_append_right _ (List.mem_of_getElem? (i := 315) (by decide +kernel)), rfl⟩
theorem kI_X4_sum : Cond.instanceMethod yX4_sum ∈ zG := List.mem_filter.mpr ⟨List.mem_append_right _ (List.mem_of_getElem? (i := 317) (by decide +kernel)), rfl⟩
theorem kD_X4_sum : Cond.code yX4_sum cX4_sum 6 (some .int) ∈ zG := List.mem_filter.mpr ⟨List.mem_append_right _ (List.mem_of_getElem? (i := 318) (by decide +kernel)), rfl⟩
theorem kM_X4_65 : Cond.methodLink RX4 65 yX4_product ∈ zG := List.mem_filter.mpr ⟨List.mem_append_right _ (List.mem_of_getElem? (i := 319) (by decide +kernel)), rfl⟩
theorem kI_X4_product : Cond.instanceMethod yX4_product ∈ zG := List.mem_filter.mpr ⟨List.mem_append_right _ (List.mem_of_getElem? (i := 321) (by decide +kernel)), rfl⟩
theorem kD_X4_product : Cond.code yX4_product cX4_product 6 (some .int) ∈ zG := List.mem_filter.mpr ⟨List.mem_append_right _ (List.mem_of_getElem? (i := 322) (by decide +kernel)), rfl⟩
theorem kM_X4_72 : Cond.methodLink RX4 72 yX4_factor ∈ zG := List.mem_filter.mpr ⟨List.mem_append_right _ (List.mem_of_getElem? (i := 323) (by decide +kernel)), rfl⟩
theorem kI_X4_factor : Cond.instanceMethod yX4_factor ∈ zG := List.mem_filter.mpr ⟨List.mem_append_right _ (List.mem_of_getElem? (i := 325) (by decide +kernel)), rfl⟩
theorem kD_X4_factor : Cond.code yX4_factor cX4_factor 5 (some .int) ∈ zG := List.mem_filter.mpr ⟨List.mem_append_right _ (List.mem_of_getElem? (i := 326) (by decide +kernel)), rfl⟩
theorem kM_X4_68 : Cond.methodLink RX4 68 yX4_pass ∈ zG := List.mem_filter.mpr ⟨List.mem_append_right _ (List.mem_of_getElem? (i := 327) (by decide +kernel)), rfl⟩
theorem kI_X4_pass : Cond.instanceMethod yX4_pass ∈ zG := List.mem_filter.mpr ⟨List.mem_append_right _ (List.mem_of_getElem? (i := 329) (by decide +kernel)), rfl⟩
theorem kD_X4_pass : Cond.code yX4_pass cX4_pass 2 none ∈ zG := List.mem_filter.mpr ⟨List.mem_append_right _ (List.mem_of_getElem? (i := 330) (by decide +kernel)), rfl⟩
theorem kM_X4_75 : Cond.methodLink RX4 75 Lib.Math.max.name ∈ zG := List.mem_filter.mpr ⟨List.mem_append_right _ (List.mem_of_getElem? (i := 331) (by decide +kernel)), rfl⟩
theorem kM_X4_81 : Cond.methodLink RX4 81 yX4_named ∈ zG := List.mem_filter.mpr ⟨List.mem_append_right _ (List.mem_of_getElem? (i := 332) (by decide +kernel)), rfl⟩
theorem kI_X4_named : Cond.instanceMethod yX4_named ∈ zG := List.mem_filter.mpr ⟨List.mem_append_right _ (List.mem_of_getElem? (i := 334) (by decide +kernel)), rfl⟩
theorem kD_X4_named : Cond.code yX4_named cX4_named 2 (some .int) ∈ zG := List.mem_filter.mpr ⟨List.mem_append_right _ (List.mem_of_getElem? (i := 335) (by decide +kernel)), rfl⟩
theorem kM_X4_84 : Cond.methodLink RX4 84 yX4_isName ∈ zG := List.mem_filter.mpr ⟨List.mem_append_right _ (List.mem_of_getElem? (i := 336) (by decide +kernel)), rfl⟩
theorem kT_X4_isName : Cond.static yX4_isName ∈ zG := List.mem_filter.mpr ⟨List.mem_append_right _ (List.mem_of_getElem? (i := 337) (by decide +kernel)), rfl⟩
theorem kD_X4_isName : Cond.code yX4_isName cX4_isName 1 (some .boolean) ∈ zG := List.mem_filter.mpr ⟨List.mem_append_right _ (List.mem_of_getElem? (i := 338) (by decide +kernel)), rfl⟩
theorem kM_X2_79 : Cond.methodLink RX2 79 Lib.Math.min.name ∈ zG := List.mem_filter.mpr ⟨List.mem_append_right _ (List.mem_of_getElem? (i := 339) (by decide +kernel)), rfl⟩
theorem kM_X2_85 : Cond.methodLink RX2 85 Lib.Math.max.name ∈ zG := List.mem_filter.mpr ⟨List.mem_append_right _ (List.mem_of_getElem? (i := 340) (by decide +kernel)), rfl⟩
theorem kM_X2_91 : Cond.methodLink RX2 91 yX0_plainHolds ∈ zG := List.mem_filter.mpr ⟨List.mem_append_right _ (List.mem_of_getElem? (i := 341) (by decide +kernel)), rfl⟩
theorem kM_L_23 : Cond.methodLink RL 23 yX5_set ∈ zG := List.mem_filter.mpr ⟨List.mem_append_right _ (List.mem_of_getElem? (i := 342) (by decide +kernel)), rfl⟩
theorem kI_X5_set : Cond.instanceMethod yX5_set ∈ zG := List.mem_filter.mpr ⟨List.mem_append_right _ (List.mem_of_getElem? (i := 343) (by decide +kernel)), rfl⟩
theorem kS_X5_set : Cond.selects RX5 yX5_set yX5_set ∈ zG := List.mem_filter.mpr ⟨List.mem_append_right _ (List.mem_of_getElem? (i := 344) (by decide +kernel)), rfl⟩
theorem kD_X5_set : Cond.code yX5_set cX5_set 6 (some .int) ∈ zG := List.mem_filter.mpr ⟨List.mem_append_right _ (List.mem_of_getElem? (i := 345) (by decide +kernel)), rfl⟩
theorem kM_X5_110 : Cond.methodLink RX5 110 yX5_canBecome ∈ zG := List.mem_filter.mpr ⟨List.mem_append_right _ (List.mem_of_getElem? (i := 346) (by decide +kernel)), rfl⟩
theorem kT_X5_canBecome : Cond.static yX5_canBecome ∈ zG := List.mem_filter.mpr ⟨List.mem_append_right _ (List.mem_of_getElem? (i := 347) (by decide +kernel)), rfl⟩
theorem kD_X5_canBecome : Cond.code yX5_canBecome cX5_canBecome 2 (some .boolean) ∈ zG := List.mem_filter.mpr ⟨List.mem_append_right _ (List.mem_of_getElem? (i := 348) (by decide +kernel)), rfl⟩
theorem kM_L_28 : Cond.methodLink RL 28 yX5_as ∈ zG := List.mem_filter.mpr ⟨List.mem_append_right _ (List.mem_of_getElem? (i := 349) (by decide +kernel)), rfl⟩
theorem kI_X5_as : Cond.instanceMethod yX5_as ∈ zG := List.mem_filter.mpr ⟨List.mem_append_right _ (List.mem_of_getElem? (i := 350) (by decide +kernel)), rfl⟩
theorem kS_X5_as : Cond.selects RX5 yX5_as yX5_as ∈ zG := List.mem_filter.mpr ⟨List.mem_append_right _ (List.mem_of_getElem? (i := 351) (by decide +kernel)), rfl⟩
theorem kD_X5_as : Cond.code yX5_as cX5_as 4 (some .int) ∈ zG := List.mem_filter.mpr ⟨List.mem_append_right _ (List.mem_of_getElem? (i := 352) (by decide +kernel)), rfl⟩
theorem kM_X5_114 : Cond.methodLink RX5 114 yX5_isOf ∈ zG := List.mem_filter.mpr ⟨List.mem_append_right _ (List.mem_of_getElem? (i := 353) (by decide +kernel)), rfl⟩
theorem kT_X5_isOf : Cond.static yX5_isOf ∈ zG := List.mem_filter.mpr ⟨List.mem_append_right _ (List.mem_of_getElem? (i := 354) (by decide +kernel)), rfl⟩
theorem kD_X5_isOf : Cond.code yX5_isOf cX5_isOf 4 (some .boolean) ∈ zG := List.mem_filter.mpr ⟨List.mem_append_right _ (List.mem_of_getElem? (i := 355) (by decide +kernel)), rfl⟩
theorem kF_X5_232 : Cond.fieldLink RX5 232 RX5 "UNDER" "[I" ∈ zG := List.mem_filter.mpr ⟨List.mem_append_right _ (List.mem_of_getElem? (i := 356) (by decide +kernel)), rfl⟩
theorem kK_X5_117 : Cond.constant RX5 117 (-1000000003 : Int32) ∈ zG := List.mem_filter.mpr ⟨List.mem_append_right _ (List.mem_of_getElem? (i := 358) (by decide +kernel)), rfl⟩
theorem kM_L_32 : Cond.methodLink RL 32 yX5_holds ∈ zG := List.mem_filter.mpr ⟨List.mem_append_right _ (List.mem_of_getElem? (i := 359) (by decide +kernel)), rfl⟩
theorem kI_X5_holds : Cond.instanceMethod yX5_holds ∈ zG := List.mem_filter.mpr ⟨List.mem_append_right _ (List.mem_of_getElem? (i := 360) (by decide +kernel)), rfl⟩
theorem kS_X5_holds : Cond.selects RX5 yX5_holds yX5_holds ∈ zG := List.mem_filter.mpr ⟨List.mem_append_right _ (List.mem_of_getElem? (i := 361) (by decide +kernel)), rfl⟩
theorem kD_X5_holds : Cond.code yX5_holds cX5_holds 3 (some .int) ∈ zG := List.mem_filter.mpr ⟨List.mem_append_right _ (List.mem_of_getElem? (i := 362) (by decide +kernel)), rfl⟩
theorem kM_L_36 : Cond.methodLink RL 36 yX5_rubs ∈ zG := List.mem_filter.mpr ⟨List.mem_append_right _ (List.mem_of_getElem? (i := 363) (by decide +kernel)), rfl⟩
theorem kI_X5_rubs : Cond.instanceMethod yX5_rubs ∈ zG := List.mem_filter.mpr ⟨List.mem_append_right _ (List.mem_of_getElem? (i := 364) (by decide +kernel)), rfl⟩
theorem kS_X5_rubs : Cond.selects RX5 yX5_rubs yX5_rubs ∈ zG := List.mem_filter.mpr ⟨List.mem_append_right _ (List.mem_of_getElem? (i := 365) (by decide +kernel)), rfl⟩
theorem kD_X5_rubs : Cond.code yX5_rubs cX5_rubs 3 (some .int) ∈ zG := List.mem_filter.mpr ⟨List.mem_append_right _ (List.mem_of_getElem? (i := 366) (by decide +kernel)), rfl⟩
theorem kM_X5_118 : Cond.methodLink RX5 118 yX0_rubsBy ∈ zG := List.mem_filter.mpr ⟨List.mem_append_right _ (List.mem_of_getElem? (i := 367) (by decide +kernel)), rfl⟩
theorem kI_X0_rubsBy : Cond.instanceMethod yX0_rubsBy ∈ zG := List.mem_filter.mpr ⟨List.mem_append_right _ (List.mem_of_getElem? (i := 368) (by decide +kernel)), rfl⟩
theorem kS_X0_rubsBy : Cond.selects RX0 yX0_rubsBy yX0_rubsBy ∈ zG := List.mem_filter.mpr ⟨List.mem_append_right _ (List.mem_of_getElem? (i := 369) (by decide +kernel)), rfl⟩
theorem kD_X0_rubsBy : Cond.code yX0_rubsBy cX0_rubsBy 2 (some .int) ∈ zG := List.mem_filter.mpr ⟨List.mem_append_right _ (List.mem_of_getElem? (i := 370) (by decide +kernel)), rfl⟩
theorem kM_L_40 : Cond.methodLink RL 40 yX5_push ∈ zG := List.mem_filter.mpr ⟨List.mem_append_right _ (List.mem_of_getElem? (i := 371) (by decide +kernel)), rfl⟩
theorem kI_X5_push : Cond.instanceMethod yX5_push ∈ zG := List.mem_filter.mpr ⟨List.mem_append_right _ (List.mem_of_getElem? (i := 372) (by decide +kernel)), rfl⟩
theorem kS_X5_push : Cond.selects RX5 yX5_push yX5_push ∈ zG := List.mem_filter.mpr ⟨List.mem_append_right _ (List.mem_of_getElem? (i := 373) (by decide +kernel)), rfl⟩
theorem kD_X5_push : Cond.code yX5_push cX5_push 4 (some .int) ∈ zG := List.mem_filter.mpr ⟨List.mem_append_right _ (List.mem_of_getElem? (i := 374) (by decide +kernel)), rfl⟩
theorem kM_L_44 : Cond.methodLink RL 44 yX5_oil ∈ zG := List.mem_filter.mpr ⟨List.mem_append_right _ (List.mem_of_getElem? (i := 375) (by decide +kernel)), rfl⟩
theorem kI_X5_oil : Cond.instanceMethod yX5_oil ∈ zG := List.mem_filter.mpr ⟨List.mem_append_right _ (List.mem_of_getElem? (i := 376) (by decide +kernel)), rfl⟩
theorem kS_X5_oil : Cond.selects RX5 yX5_oil yX5_oil ∈ zG := List.mem_filter.mpr ⟨List.mem_append_right _ (List.mem_of_getElem? (i := 377) (by decide +kernel)), rfl⟩
theorem kD_X5_oil : Cond.code yX5_oil cX5_oil 4 (some .int) ∈ zG := List.mem_filter.mpr ⟨List.mem_append_right _ (List.mem_of_getElem? (i := 378) (by decide +kernel)), rfl⟩
theorem kM_X5_121 : Cond.methodLink RX5 121 Lib.Math.min.name ∈ zG := List.mem_filter.mpr ⟨List.mem_append_right _ (List.mem_of_getElem? (i := 379) (by decide +kernel)), rfl⟩
theorem kM_L_48 : Cond.methodLink RL 48 yX5_pace ∈ zG := List.mem_filter.mpr ⟨List.mem_append_right _ (List.mem_of_getElem? (i := 380) (by decide +kernel)), rfl⟩
theorem kI_X5_pace : Cond.instanceMethod yX5_pace ∈ zG := List.mem_filter.mpr ⟨List.mem_append_right _ (List.mem_of_getElem? (i := 381) (by decide +kernel)), rfl⟩
theorem kS_X5_pace : Cond.selects RX5 yX5_pace yX5_pace ∈ zG := List.mem_filter.mpr ⟨List.mem_append_right _ (List.mem_of_getElem? (i := 382) (by decide +kernel)), rfl⟩
theorem kD_X5_pace : Cond.code yX5_pace cX5_pace 3 (some .int) ∈ zG := List.mem_filter.mpr ⟨List.mem_append_right _ (List.mem_of_getElem? (i := 383) (by decide +kernel)), rfl⟩
theorem kM_L_53 : Cond.methodLink RL 53 yX5_ticks ∈ zG := List.mem_filter.mpr ⟨List.mem_append_right _ (List.mem_of_getElem? (i := 384) (by decide +kernel)), rfl⟩
theorem kI_X5_ticks : Cond.instanceMethod yX5_ticks ∈ zG := List.mem_filter.mpr ⟨List.mem_append_right _ (List.mem_of_getElem? (i := 385) (by decide +kernel)), rfl⟩
theorem kS_X5_ticks : Cond.selects RX5 yX5_ticks yX5_ticks ∈ zG := List.mem_filter.mpr ⟨List.mem_append_right _ (List.mem_of_getElem? (i := 386) (by decide +kernel)), rfl⟩
theorem kD_X5_ticks : Cond.code yX5_ticks cX5_ticks 3 (some .int) ∈ zG := List.mem_filter.mpr ⟨List.mem_append_right _ (List.mem_of_getElem? (i := 387) (by decide +kernel)), rfl⟩
theorem kM_X5_129 : Cond.methodLink RX5 129 yX2_tick ∈ zG := List.mem_filter.mpr ⟨List.mem_append_right _ (List.mem_of_getElem? (i := 388) (by decide +kernel)), rfl⟩
theorem kI_X2_tick : Cond.instanceMethod yX2_tick ∈ zG := List.mem_filter.mpr ⟨List.mem_append_right _ (List.mem_of_getElem? (i := 389) (by decide +kernel)), rfl⟩
theorem kS_X2_tick : Cond.selects RX2 yX2_tick yX2_tick ∈ zG := List.mem_filter.mpr ⟨List.mem_append_right _ (List.mem_of_getElem? (i := 390) (by decide +kernel)), rfl⟩
theorem kD_X2_tick : Cond.code yX2_tick cX2_tick 3 none ∈ zG := List.mem_filter.mpr ⟨List.mem_append_right _ (List.mem_of_getElem? (i := 391) (by decide +kernel)), rfl⟩
theorem kM_X2_97 : Cond.methodLink RX2 97 yX2_holdsOf ∈ zG := List.mem_filter.mpr ⟨List.mem_append_right _ (List.mem_of_getElem? (i := 392) (by decide +kernel)), rfl⟩
theorem kM_X2_100 : Cond.methodLink RX2 100 yX0_startTick ∈ zG := List.mem_filter.mpr ⟨List.mem_append_right _ (List.mem_of_getElem? (i := 393) (by decide +kernel)), rfl⟩
theorem kI_X0_startTick : Cond.instanceMethod yX0_startTick ∈ zG := List.mem_filter.mpr ⟨List.mem_append_right _ (List.mem_of_getElem? (i := 394) (by decide +kernel)), rfl⟩
theorem kS_X0_startTick : Cond.selects RX0 yX0_startTick yX0_startTick ∈ zG := List.mem_filter.mpr ⟨List.mem_append_right _ (List.mem_of_getElem? (i := 395) (by decide +kernel)), rfl⟩
theorem kD_X0_startTick : Cond.code yX0_startTick cX0_startTick 2 none ∈ zG := List.mem_filter.mpr ⟨List.mem_append_right _ (List.mem_of_getElem? (i := 396) (by decide +kernel)), rfl⟩
theorem kM_X2_104 : Cond.methodLink RX2 104 yX2_round ∈ zG := List.mem_filter.mpr ⟨List.mem_append_right _ (List.mem_of_getElem? (i := 397) (by decide +kernel)), rfl⟩
theorem kI_X2_round : Cond.instanceMethod yX2_round ∈ zG := List.mem_filter.mpr ⟨List.mem_append_right _ (List.mem_of_getElem? (i := 399) (by decide +kernel)), rfl⟩
theorem kD_X2_round : Cond.code yX2_round cX2_round 4 (some .boolean) ∈ zG := List.mem_filter.mpr ⟨List.mem_append_right _ (List.mem_of_getElem? (i := 400) (by decide +kernel)), rfl⟩
theorem kM_X2_111 : Cond.methodLink RX2 111 yX2_pullOf ∈ zG := List.mem_filter.mpr ⟨List.mem_append_right _ (List.mem_of_getElem? (i := 401) (by decide +kernel)), rfl⟩
theorem kM_X2_117 : Cond.methodLink RX2 117 yX0_move ∈ zG := List.mem_filter.mpr ⟨List.mem_append_right _ (List.mem_of_getElem? (i := 402) (by decide +kernel)), rfl⟩
theorem kI_X0_move : Cond.instanceMethod yX0_move ∈ zG := List.mem_filter.mpr ⟨List.mem_append_right _ (List.mem_of_getElem? (i := 403) (by decide +kernel)), rfl⟩
theorem kS_X0_move : Cond.selects RX0 yX0_move yX0_move ∈ zG := List.mem_filter.mpr ⟨List.mem_append_right _ (List.mem_of_getElem? (i := 404) (by decide +kernel)), rfl⟩
theorem kD_X0_move : Cond.code yX0_move cX0_move 7 none ∈ zG := List.mem_filter.mpr ⟨List.mem_append_right _ (List.mem_of_getElem? (i := 405) (by decide +kernel)), rfl⟩
theorem kM_X0_59 : Cond.methodLink RX0 59 Lib.MathLoose.abs_long.x ∈ zG := List.mem_filter.mpr ⟨List.mem_append_right _ (List.mem_of_getElem? (i := 406) (by decide +kernel)), rfl⟩
theorem kT_J_abs_long : Cond.static Lib.MathLoose.abs_long.x ∈ zG := List.mem_filter.mpr ⟨List.mem_append_right _ (List.mem_of_getElem? (i := 407) (by decide +kernel)), rfl⟩
theorem kD_J_abs_long : Cond.code Lib.MathLoose.abs_long.x Lib.MathLoose.abs_long.code 2 (some .long) ∈ zG := List.mem_filter.mpr ⟨List.mem_append_right _ (List.mem_of_getElem? (i := 408) (by decide +kernel)), rfl⟩
theorem kM_X0_63 : Cond.methodLink RX0 63 yX0_rubsBy ∈ zG := List.mem_filter.mpr ⟨List.mem_append_right _ (List.mem_of_getElem? (i := 409) (by decide +kernel)), rfl⟩
theorem kK_X0_66 : Cond.constantLong RX0 66 (999 : Int64) ∈ zG := List.mem_filter.mpr ⟨List.mem_append_right _ (List.mem_of_getElem? (i := 410) (by decide +kernel)), rfl⟩
theorem kM_X0_68 : Cond.methodLink RX0 68 Lib.MathLoose.min_long.x ∈ zG := List.mem_filter.mpr ⟨List.mem_append_right _ (List.mem_of_getElem? (i := 411) (by decide +kernel)), rfl⟩
theorem kT_J_min_long : Cond.static Lib.MathLoose.min_long.x ∈ zG := List.mem_filter.mpr ⟨List.mem_append_right _ (List.mem_of_getElem? (i := 412) (by decide +kernel)), rfl⟩
theorem kD_J_min_long : Cond.code Lib.MathLoose.min_long.x Lib.MathLoose.min_long.code 4 (some .long) ∈ zG := List.mem_filter.mpr ⟨List.mem_append_right _ (List.mem_of_getElem? (i := 413) (by decide +kernel)), rfl⟩
theorem kM_X0_71 : Cond.methodLink RX0 71 Lib.MathLoose.max_long.x ∈ zG := List.mem_filter.mpr ⟨List.mem_append_right _ (List.mem_of_getElem? (i := 414) (by decide +kernel)), rfl⟩
theorem kT_J_max_long : Cond.static Lib.MathLoose.max_long.x ∈ zG := List.mem_filter.mpr ⟨List.mem_append_right _ (List.mem_of_getElem? (i := 415) (by decide +kernel)), rfl⟩
theorem kD_J_max_long : Cond.code Lib.MathLoose.max_long.x Lib.MathLoose.max_long.code 4 (some .long) ∈ zG := List.mem_filter.mpr ⟨List.mem_append_right _ (List.mem_of_getElem? (i := 416) (by decide +kernel)), rfl⟩
theorem kM_X2_108 : Cond.methodLink RX2 108 yX0_endTick ∈ zG := List.mem_filter.mpr ⟨List.mem_append_right _ (List.mem_of_getElem? (i := 417) (by decide +kernel)), rfl⟩
theorem kI_X0_endTick : Cond.instanceMethod yX0_endTick ∈ zG := List.mem_filter.mpr ⟨List.mem_append_right _ (List.mem_of_getElem? (i := 418) (by decide +kernel)), rfl⟩
theorem kS_X0_endTick : Cond.selects RX0 yX0_endTick yX0_endTick ∈ zG := List.mem_filter.mpr ⟨List.mem_append_right _ (List.mem_of_getElem? (i := 419) (by decide +kernel)), rfl⟩
theorem kD_X0_endTick : Cond.code yX0_endTick cX0_endTick 1 none ∈ zG := List.mem_filter.mpr ⟨List.mem_append_right _ (List.mem_of_getElem? (i := 420) (by decide +kernel)), rfl⟩
theorem kM_X5_132 : Cond.methodLink RX5 132 yX1_enter ∈ zG := List.mem_filter.mpr ⟨List.mem_append_right _ (List.mem_of_getElem? (i := 421) (by decide +kernel)), rfl⟩
theorem kI_X1_enter : Cond.instanceMethod yX1_enter ∈ zG := List.mem_filter.mpr ⟨List.mem_append_right _ (List.mem_of_getElem? (i := 422) (by decide +kernel)), rfl⟩
theorem kS_X1_enter : Cond.selects RX1 yX1_enter yX1_enter ∈ zG := List.mem_filter.mpr ⟨List.mem_append_right _ (List.mem_of_getElem? (i := 423) (by decide +kernel)), rfl⟩
theorem kD_X1_enter : Cond.code yX1_enter cX1_enter 2 none ∈ zG := List.mem_filter.mpr ⟨List.mem_append_right _ (List.mem_of_getElem? (i := 424) (by decide +kernel)), rfl⟩
theorem kM_X1_60 : Cond.methodLink RX1 60 Lib.Math.min.name ∈ zG := List.mem_filter.mpr ⟨List.mem_append_right _ (List.mem_of_getElem? (i := 425) (by decide +kernel)), rfl⟩
theorem kM_X1_63 : Cond.methodLink RX1 63 yX1_classOf ∈ zG := List.mem_filter.mpr ⟨List.mem_append_right _ (List.mem_of_getElem? (i := 426) (by decide +kernel)), rfl⟩
theorem kT_X1_classOf : Cond.static yX1_classOf ∈ zG := List.mem_filter.mpr ⟨List.mem_append_right _ (List.mem_of_getElem? (i := 427) (by decide +kernel)), rfl⟩
theorem kD_X1_classOf : Cond.code yX1_classOf cX1_classOf 2 (some .int) ∈ zG := List.mem_filter.mpr ⟨List.mem_append_right _ (List.mem_of_getElem? (i := 428) (by decide +kernel)), rfl⟩
theorem kM_L_57 : Cond.methodLink RL 57 yX5_until ∈ zG := List.mem_filter.mpr ⟨List.mem_append_right _ (List.mem_of_getElem? (i := 429) (by decide +kernel)), rfl⟩
theorem kI_X5_until : Cond.instanceMethod yX5_until ∈ zG := List.mem_filter.mpr ⟨List.mem_append_right _ (List.mem_of_getElem? (i := 430) (by decide +kernel)), rfl⟩
theorem kS_X5_until : Cond.selects RX5 yX5_until yX5_until ∈ zG := List.mem_filter.mpr ⟨List.mem_append_right _ (List.mem_of_getElem? (i := 431) (by decide +kernel)), rfl⟩
theorem kD_X5_until : Cond.code yX5_until cX5_until 4 (some .int) ∈ zG := List.mem_filter.mpr ⟨List.mem_append_right _ (List.mem_of_getElem? (i := 432) (by decide +kernel)), rfl⟩
theorem kM_L_61 : Cond.methodLink RL 61 yX5_book ∈ zG := List.mem_filter.mpr ⟨List.mem_append_right _ (List.mem_of_getElem? (i := 433) (by decide +kernel)), rfl⟩
theorem kI_X5_book : Cond.instanceMethod yX5_book ∈ zG := List.mem_filter.mpr ⟨List.mem_append_right _ (List.mem_of_getElem? (i := 434) (by decide +kernel)), rfl⟩
theorem kS_X5_book : Cond.selects RX5 yX5_book yX5_book ∈ zG := List.mem_filter.mpr ⟨List.mem_append_right _ (List.mem_of_getElem? (i := 435) (by decide +kernel)), rfl⟩
theorem kD_X5_book : Cond.code yX5_book cX5_book 3 (some .int) ∈ zG := List.mem_filter.mpr ⟨List.mem_append_right _ (List.mem_of_getElem? (i := 436) (by decide +kernel)), rfl⟩
theorem kM_X5_143 : Cond.methodLink RX5 143 yX1_slot ∈ zG := List.mem_filter.mpr ⟨List.mem_append_right _ (List.mem_of_getElem? (i := 437) (by decide +kernel)), rfl⟩
theorem kI_X1_slot : Cond.instanceMethod yX1_slot ∈ zG := List.mem_filter.mpr ⟨List.mem_append_right _ (List.mem_of_getElem? (i := 438) (by decide +kernel)), rfl⟩
theorem kS_X1_slot : Cond.selects RX1 yX1_slot yX1_slot ∈ zG := List.mem_filter.mpr ⟨List.mem_append_right _ (List.mem_of_getElem? (i := 439) (by decide +kernel)), rfl⟩
theorem kD_X1_slot : Cond.code yX1_slot cX1_slot 2 (some .int) ∈ zG := List.mem_filter.mpr ⟨List.mem_append_right _ (List.mem_of_getElem? (i := 440) (by decide +kernel)), rfl⟩
theorem kM_X1_43 : Cond.methodLink RX1 43 yJ9_floorMod_7cf53 ∈ zG := List.mem_filter.mpr ⟨List.mem_append_right _ (List.mem_of_getElem? (i := 441) (by decide +kernel)), rfl⟩
theorem kT_J_floorMod : Cond.static yJ9_floorMod_7cf53 ∈ zG := List.mem_filter.mpr ⟨List.mem_append_right _ (List.mem_of_getElem? (i := 442) (by decide +kernel)), rfl⟩
theorem kD_J_floorMod : Cond.code yJ9_floorMod_7cf53 cJ9_floorMod_7cf53 3 (some .int) ∈ zG := List.mem_filter.mpr ⟨List.mem_append_right _ (List.mem_of_getElem? (i := 443) (by decide +kernel)), rfl⟩
theorem kM_L_65 : Cond.methodLink RL 65 yX5_counts ∈ zG := List.mem_filter.mpr ⟨List.mem_append_right _ (List.mem_of_getElem? (i := 444) (by decide +kernel)), rfl⟩
theorem kI_X5_counts : Cond.instanceMethod yX5_counts ∈ zG := List.mem_filter.mpr ⟨List.mem_append_right _ (List.mem_of_getElem? (i := 445) (by decide +kernel)), rfl⟩
theorem kS_X5_counts : Cond.selects RX5 yX5_counts yX5_counts ∈ zG := List.mem_filter.mpr ⟨List.mem_append_right _ (List.mem_of_getElem? (i := 446) (by decide +kernel)), rfl⟩
theorem kD_X5_counts : Cond.code yX5_counts cX5_counts 2 (some .int) ∈ zG := List.mem_filter.mpr ⟨List.mem_append_right _ (List.mem_of_getElem? (i := 447) (by decide +kernel)), rfl⟩
theorem kM_L_69 : Cond.methodLink RL 69 yX5_power ∈ zG := List.mem_filter.mpr ⟨List.mem_append_right _ (List.mem_of_getElem? (i := 448) (by decide +kernel)), rfl⟩
theorem kI_X5_power : Cond.instanceMethod yX5_power ∈ zG := List.mem_filter.mpr ⟨List.mem_append_right _ (List.mem_of_getElem? (i := 449) (by decide +kernel)), rfl⟩
theorem kS_X5_power : Cond.selects RX5 yX5_power yX5_power ∈ zG := List.mem_filter.mpr ⟨List.mem_append_right _ (List.mem_of_getElem? (i := 450) (by decide +kernel)), rfl⟩
theorem kD_X5_power : Cond.code yX5_power cX5_power 2 (some .int) ∈ zG := List.mem_filter.mpr ⟨List.mem_append_right _ (List.mem_of_getElem? (i := 451) (by decide +kernel)), rfl⟩
theorem kM_L_74 : Cond.methodLink RL 74 yX5_tone ∈ zG := List.mem_filter.mpr ⟨List.mem_append_right _ (List.mem_of_getElem? (i := 452) (by decide +kernel)), rfl⟩
theorem kI_X5_tone : Cond.instanceMethod yX5_tone ∈ zG := List.mem_filter.mpr ⟨List.mem_append_right _ (List.mem_of_getElem? (i := 453) (by decide +kernel)), rfl⟩
theorem kS_X5_tone : Cond.selects RX5 yX5_tone yX5_tone ∈ zG := List.mem_filter.mpr ⟨List.mem_append_right _ (List.mem_of_getElem? (i := 454) (by decide +kernel)), rfl⟩
theorem kD_X5_tone : Cond.code yX5_tone cX5_tone 3 (some .int) ∈ zG := List.mem_filter.mpr ⟨List.mem_append_right _ (List.mem_of_getElem? (i := 455) (by decide +kernel)), rfl⟩
theorem kK_X5_155 : Cond.constant RX5 155 (-1000000004 : Int32) ∈ zG := List.mem_filter.mpr ⟨List.mem_append_right _ (List.mem_of_getElem? (i := 456) (by decide +kernel)), rfl⟩
theorem kM_L_78 : Cond.methodLink RL 78 yX5_great ∈ zG := List.mem_filter.mpr ⟨List.mem_append_right _ (List.mem_of_getElem? (i := 457) (by decide +kernel)), rfl⟩
theorem kI_X5_great : Cond.instanceMethod yX5_great ∈ zG := List.mem_filter.mpr ⟨List.mem_append_right _ (List.mem_of_getElem? (i := 458) (by decide +kernel)), rfl⟩
theorem kS_X5_great : Cond.selects RX5 yX5_great yX5_great ∈ zG := List.mem_filter.mpr ⟨List.mem_append_right _ (List.mem_of_getElem? (i := 459) (by decide +kernel)), rfl⟩
theorem kD_X5_great : Cond.code yX5_great cX5_great 6 (some .int) ∈ zG := List.mem_filter.mpr ⟨List.mem_append_right _ (List.mem_of_getElem? (i := 460) (by decide +kernel)), rfl⟩
theorem kM_L_82 : Cond.methodLink RL 82 yX5_noise ∈ zG := List.mem_filter.mpr ⟨List.mem_append_right _ (List.mem_of_getElem? (i := 461) (by decide +kernel)), rfl⟩
theorem kI_X5_noise : Cond.instanceMethod yX5_noise ∈ zG := List.mem_filter.mpr ⟨List.mem_append_right _ (List.mem_of_getElem? (i := 462) (by decide +kernel)), rfl⟩
theorem kS_X5_noise : Cond.selects RX5 yX5_noise yX5_noise ∈ zG := List.mem_filter.mpr ⟨List.mem_append_right _ (List.mem_of_getElem? (i := 463) (by decide +kernel)), rfl⟩
theorem kD_X5_noise : Cond.code yX5_noise cX5_noise 6 (some .long) ∈ zG := List.mem_filter.mpr ⟨List.mem_append_right _ (List.mem_of_getElem? (i := 464) (by decide +kernel)), rfl⟩
theorem kM_L_87 : Cond.methodLink RL 87 yX5_ahead ∈ zG := List.mem_filter.mpr ⟨List.mem_append_right _ (List.mem_of_getElem? (i := 465) (by decide +kernel)), rfl⟩
theorem kI_X5_ahead : Cond.instanceMethod yX5_ahead ∈ zG := List.mem_filter.mpr ⟨List.mem_append_right _ (List.mem_of_getElem? (i := 466) (by decide +kernel)), rfl⟩
theorem kS_X5_ahead : Cond.selects RX5 yX5_ahead yX5_ahead ∈ zG := List.mem_filter.mpr ⟨List.mem_append_right _ (List.mem_of_getElem? (i := 467) (by decide +kernel)), rfl⟩
theorem kD_X5_ahead : Cond.code yX5_ahead cX5_ahead 7 (some .int) ∈ zG := List.mem_filter.mpr ⟨List.mem_append_right _ (List.mem_of_getElem? (i := 468) (by decide +kernel)), rfl⟩
theorem kM_X5_156 : Cond.methodLink RX5 156 yX2_copyFrom ∈ zG := List.mem_filter.mpr ⟨List.mem_append_right _ (List.mem_of_getElem? (i := 469) (by decide +kernel)), rfl⟩
theorem kI_X2_copyFrom : Cond.instanceMethod yX2_copyFrom ∈ zG := List.mem_filter.mpr ⟨List.mem_append_right _ (List.mem_of_getElem? (i := 470) (by decide +kernel)), rfl⟩
theorem kS_X2_copyFrom : Cond.selects RX2 yX2_copyFrom yX2_copyFrom ∈ zG := List.mem_filter.mpr ⟨List.mem_append_right _ (List.mem_of_getElem? (i := 471) (by decide +kernel)), rfl⟩
theorem kD_X2_copyFrom : Cond.code yX2_copyFrom cX2_copyFrom 3 none ∈ zG := List.mem_filter.mpr ⟨List.mem_append_right _ (List.mem_of_getElem? (i := 472) (by decide +kernel)), rfl⟩
theorem kM_X2_48 : Cond.methodLink RX2 48 yX4_copyFrom ∈ zG := List.mem_filter.mpr ⟨List.mem_append_right _ (List.mem_of_getElem? (i := 473) (by decide +kernel)), rfl⟩
theorem kI_X4_copyFrom : Cond.instanceMethod yX4_copyFrom ∈ zG := List.mem_filter.mpr ⟨List.mem_append_right _ (List.mem_of_getElem? (i := 474) (by decide +kernel)), rfl⟩
theorem kS_X4_copyFrom : Cond.selects RX4 yX4_copyFrom yX4_copyFrom ∈ zG := List.mem_filter.mpr ⟨List.mem_append_right _ (List.mem_of_getElem? (i := 475) (by decide +kernel)), rfl⟩
theorem kD_X4_copyFrom : Cond.code yX4_copyFrom cX4_copyFrom 2 none ∈ zG := List.mem_filter.mpr ⟨List.mem_append_right _ (List.mem_of_getElem? (i := 476) (by decide +kernel)), rfl⟩
theorem kM_X4_19 : Cond.methodLink RX4 19 arraycopyName ∈ zG := List.mem_filter.mpr ⟨List.mem_append_right _ (List.mem_of_getElem? (i := 477) (by decide +kernel)), rfl⟩
theorem kT_J_arraycopy : Cond.static arraycopyName ∈ zG := List.mem_filter.mpr ⟨List.mem_append_right _ (List.mem_of_getElem? (i := 478) (by decide +kernel)), rfl⟩
theorem kB_J_arraycopy : Cond.native arraycopyName ∈ zG := List.mem_filter.mpr ⟨List.mem_append_right _ (List.mem_of_getElem? (i := 479) (by decide +kernel)), rfl⟩
theorem kM_X2_52 : Cond.methodLink RX2 52 yX0_copyFrom ∈ zG := List.mem_filter.mpr ⟨List.mem_append_right _ (List.mem_of_getElem? (i := 480) (by decide +kernel)), rfl⟩
theorem kI_X0_copyFrom : Cond.instanceMethod yX0_copyFrom ∈ zG := List.mem_filter.mpr ⟨List.mem_append_right _ (List.mem_of_getElem? (i := 481) (by decide +kernel)), rfl⟩
theorem kS_X0_copyFrom : Cond.selects RX0 yX0_copyFrom yX0_copyFrom ∈ zG := List.mem_filter.mpr ⟨List.mem_append_right _ (List.mem_of_getElem? (i := 482) (by decide +kernel)), rfl⟩
theorem kD_X0_copyFrom : Cond.code yX0_copyFrom cX0_copyFrom 2 none ∈ zG := List.mem_filter.mpr ⟨List.mem_append_right _ (List.mem_of_getElem? (i := 483) (by decide +kernel)), rfl⟩
theorem kM_X5_159 : Cond.methodLink RX5 159 Lib.Math.max.name ∈ zG := List.mem_filter.mpr ⟨List.mem_append_right _ (List.mem_of_getElem? (i := 484) (by decide +kernel)), rfl⟩
theorem kM_L_91 : Cond.methodLink RL 91 yX5_from ∈ zG := List.mem_filter.mpr ⟨List.mem_append_right _ (List.mem_of_getElem? (i := 485) (by decide +kernel)), rfl⟩
theorem kI_X5_from : Cond.instanceMethod yX5_from ∈ zG := List.mem_filter.mpr ⟨List.mem_append_right _ (List.mem_of_getElem? (i := 486) (by decide +kernel)), rfl⟩
theorem kS_X5_from : Cond.selects RX5 yX5_from yX5_from ∈ zG := List.mem_filter.mpr ⟨List.mem_append_right _ (List.mem_of_getElem? (i := 487) (by decide +kernel)), rfl⟩
theorem kD_X5_from : Cond.code yX5_from cX5_from 5 (some .int) ∈ zG := List.mem_filter.mpr ⟨List.mem_append_right _ (List.mem_of_getElem? (i := 488) (by decide +kernel)), rfl⟩
theorem kM_L_95 : Cond.methodLink RL 95 yX5_still ∈ zG := List.mem_filter.mpr ⟨List.mem_append_right _ (List.mem_of_getElem? (i := 489) (by decide +kernel)), rfl⟩
theorem kI_X5_still : Cond.instanceMethod yX5_still ∈ zG := List.mem_filter.mpr ⟨List.mem_append_right _ (List.mem_of_getElem? (i := 490) (by decide +kernel)), rfl⟩
theorem kS_X5_still : Cond.selects RX5 yX5_still yX5_still ∈ zG := List.mem_filter.mpr ⟨List.mem_append_right _ (List.mem_of_getElem? (i := 491) (by decide +kernel)), rfl⟩
theorem kD_X5_still : Cond.code yX5_still cX5_still 7 (some .int) ∈ zG := List.mem_filter.mpr ⟨List.mem_append_right _ (List.mem_of_getElem? (i := 492) (by decide +kernel)), rfl⟩
theorem kM_L_99 : Cond.methodLink RL 99 yX5_which ∈ zG := List.mem_filter.mpr ⟨List.mem_append_right _ (List.mem_of_getElem? (i := 493) (by decide +kernel)), rfl⟩
theorem kI_X5_which : Cond.instanceMethod yX5_which ∈ zG := List.mem_filter.mpr ⟨List.mem_append_right _ (List.mem_of_getElem? (i := 494) (by decide +kernel)), rfl⟩
theorem kS_X5_which : Cond.selects RX5 yX5_which yX5_which ∈ zG := List.mem_filter.mpr ⟨List.mem_append_right _ (List.mem_of_getElem? (i := 495) (by decide +kernel)), rfl⟩
theorem kD_X5_which : Cond.code yX5_which cX5_which 8 (some .int) ∈ zG := List.mem_filter.mpr ⟨List.mem_append_right _ (List.mem_of_getElem? (i := 496) (by decide +kernel)), rfl⟩
theorem kM_X5_165 : Cond.methodLink RX5 165 yX3_isMissing ∈ zG := List.mem_filter.mpr ⟨List.mem_append_right _ (List.mem_of_getElem? (i := 497) (by decide +kernel)), rfl⟩
theorem kI_X3_isMissing : Cond.instanceMethod yX3_isMissing ∈ zG := List.mem_filter.mpr ⟨List.mem_append_right _ (List.mem_of_getElem? (i := 498) (by decide +kernel)), rfl⟩
theorem kS_X3_isMissing : Cond.selects RX3 yX3_isMissing yX3_isMissing ∈ zG := List.mem_filter.mpr ⟨List.mem_append_right _ (List.mem_of_getElem? (i := 499) (by decide +kernel)), rfl⟩
theorem kD_X3_isMissing : Cond.code yX3_isMissing cX3_isMissing 1 (some .boolean) ∈ zG := List.mem_filter.mpr ⟨List.mem_append_right _ (List.mem_of_getElem? (i := 500) (by decide +kernel)), rfl⟩
theorem kK_X5_169 : Cond.constant RX5 169 (-1000000006 : Int32) ∈ zG := List.mem_filter.mpr ⟨List.mem_append_right _ (List.mem_of_getElem? (i := 501) (by decide +kernel)), rfl⟩
theorem kK_X5_171 : Cond.constant RX5 171 (-1000000007 : Int32) ∈ zG := List.mem_filter.mpr ⟨List.mem_append_right _ (List.mem_of_getElem? (i := 502) (by decide +kernel)), rfl⟩
theorem kM_L_103 : Cond.methodLink RL 103 yX5_together ∈ zG := List.mem_filter.mpr ⟨List.mem_append_right _ (List.mem_of_getElem? (i := 503) (by decide +kernel)), rfl⟩
theorem kI_X5_together : Cond.instanceMethod yX5_together ∈ zG := List.mem_filter.mpr ⟨List.mem_append_right _ (List.mem_of_getElem? (i := 504) (by decide +kernel)), rfl⟩
theorem kS_X5_together : Cond.selects RX5 yX5_together yX5_together ∈ zG := List.mem_filter.mpr ⟨List.mem_append_right _ (List.mem_of_getElem? (i := 505) (by decide +kernel)), rfl⟩
theorem kD_X5_together : Cond.code yX5_together cX5_together 6 (some .int) ∈ zG := List.mem_filter.mpr ⟨List.mem_append_right _ (List.mem_of_getElem? (i := 506) (by decide +kernel)), rfl⟩
theorem kM_L_107 : Cond.methodLink RL 107 yX5_feed ∈ zG := List.mem_filter.mpr ⟨List.mem_append_right _ (List.mem_of_getElem? (i := 507) (by decide +kernel)), rfl⟩
theorem kI_X5_feed : Cond.instanceMethod yX5_feed ∈ zG := List.mem_filter.mpr ⟨List.mem_append_right _ (List.mem_of_getElem? (i := 508) (by decide +kernel)), rfl⟩
theorem kS_X5_feed : Cond.selects RX5 yX5_feed yX5_feed ∈ zG := List.mem_filter.mpr ⟨List.mem_append_right _ (List.mem_of_getElem? (i := 509) (by decide +kernel)), rfl⟩
theorem kD_X5_feed : Cond.code yX5_feed cX5_feed 4 (some .int) ∈ zG := List.mem_filter.mpr ⟨List.mem_append_right _ (List.mem_of_getElem? (i := 510) (by decide +kernel)), rfl⟩
theorem kM_L_111 : Cond.methodLink RL 111 yX5_wipe ∈ zG := List.mem_filter.mpr ⟨List.mem_append_right _ (List.mem_of_getElem? (i := 511) (by decide +kernel)), rfl⟩
theorem kI_X5_wipe : Cond.instanceMethod yX5_wipe ∈ zG := List.mem_filter.mpr ⟨List.mem_append_right _ (List.mem_of_getElem? (i := 512) (by decide +kernel)), rfl⟩
theorem kS_X5_wipe : Cond.selects RX5 yX5_wipe yX5_wipe ∈ zG := List.mem_filter.mpr ⟨List.mem_append_right _ (List.mem_of_getElem? (i := 513) (by decide +kernel)), rfl⟩
theorem kD_X5_wipe : Cond.code yX5_wipe cX5_wipe 2 (some .int) ∈ zG := List.mem_filter.mpr ⟨List.mem_append_right _ (List.mem_of_getElem? (i := 514) (by decide +kernel)), rfl⟩
theorem kM_L_115 : Cond.methodLink RL 115 yX5_law ∈ zG := List.mem_filter.mpr ⟨List.mem_append_right _ (List.mem_of_getElem? (i := 515) (by decide +kernel)), rfl⟩
theorem kI_X5_law : Cond.instanceMethod yX5_law ∈ zG := List.mem_filter.mpr ⟨List.mem_append_right _ (List.mem_of_getElem? (i := 516) (by decide +kernel)), rfl⟩
theorem kS_X5_law : Cond.selects RX5 yX5_law yX5_law ∈ zG := List.mem_filter.mpr ⟨List.mem_append_right _ (List.mem_of_getElem? (i := 517) (by decide +kernel)), rfl⟩
theorem kD_X5_law : Cond.code yX5_law cX5_law 2 (some .int) ∈ zG := List.mem_filter.mpr ⟨List.mem_append_right _ (List.mem_of_getElem? (i := 518) (by decide +kernel)), rfl⟩
theorem kM_X5_183 : Cond.methodLink RX5 183 yX4_findFault ∈ zG := List.mem_filter.mpr ⟨List.mem_append_right _ (List.mem_of_getElem? (i := 519) (by decide +kernel)), rfl⟩
theorem kI_X4_findFault : Cond.instanceMethod yX4_findFault ∈ zG := List.mem_filter.mpr ⟨List.mem_append_right _ (List.mem_of_getElem? (i := 520) (by decide +kernel)), rfl⟩
theorem kS_X4_findFault : Cond.selects RX4 yX4_findFault yX4_findFault ∈ zG := List.mem_filter.mpr ⟨List.mem_append_right _ (List.mem_of_getElem? (i := 521) (by decide +kernel)), rfl⟩
theorem kD_X4_findFault : Cond.code yX4_findFault cX4_findFault 1 (some .int) ∈ zG := List.mem_filter.mpr ⟨List.mem_append_right _ (List.mem_of_getElem? (i := 522) (by decide +kernel)), rfl⟩
theorem kM_X5_190 : Cond.methodLink RX5 190 yX4_copyFrom ∈ zG := List.mem_filter.mpr ⟨List.mem_append_right _ (List.mem_of_getElem? (i := 523) (by decide +kernel)), rfl⟩
theorem kM_L_119 : Cond.methodLink RL 119 yX5_plain ∈ zG := List.mem_filter.mpr ⟨List.mem_append_right _ (List.mem_of_getElem? (i := 524) (by decide +kernel)), rfl⟩
theorem kI_X5_plain : Cond.instanceMethod yX5_plain ∈ zG := List.mem_filter.mpr ⟨List.mem_append_right _ (List.mem_of_getElem? (i := 525) (by decide +kernel)), rfl⟩
theorem kS_X5_plain : Cond.selects RX5 yX5_plain yX5_plain ∈ zG := List.mem_filter.mpr ⟨List.mem_append_right _ (List.mem_of_getElem? (i := 526) (by decide +kernel)), rfl⟩
theorem kD_X5_plain : Cond.code yX5_plain cX5_plain 2 (some .int) ∈ zG := List.mem_filter.mpr ⟨List.mem_append_right _ (List.mem_of_getElem? (i := 527) (by decide +kernel)), rfl⟩
theorem kM_L_123 : Cond.methodLink RL 123 yX5_says ∈ zG := List.mem_filter.mpr ⟨List.mem_append_right _ (List.mem_of_getElem? (i := 528) (by decide +kernel)), rfl⟩
theorem kI_X5_says : Cond.instanceMethod yX5_says ∈ zG := List.mem_filter.mpr ⟨List.mem_append_right _ (List.mem_of_getElem? (i := 529) (by decide +kernel)), rfl⟩
theorem kS_X5_says : Cond.selects RX5 yX5_says yX5_says ∈ zG := List.mem_filter.mpr ⟨List.mem_append_right _ (List.mem_of_getElem? (i := 530) (by decide +kernel)), rfl⟩
theorem kD_X5_says : Cond.code yX5_says cX5_says 3 (some .int) ∈ zG := List.mem_filter.mpr ⟨List.mem_append_right _ (List.mem_of_getElem? (i := 531) (by decide +kernel)), rfl⟩
theorem kM_X5_193 : Cond.methodLink RX5 193 yX4_valueFor ∈ zG := List.mem_filter.mpr ⟨List.mem_append_right _ (List.mem_of_getElem? (i := 532) (by decide +kernel)), rfl⟩
theorem kM_L_127 : Cond.methodLink RL 127 yX5_sheet ∈ zG := List.mem_filter.mpr ⟨List.mem_append_right _ (List.mem_of_getElem? (i := 533) (by decide +kernel)), rfl⟩
theorem kI_X5_sheet : Cond.instanceMethod yX5_sheet ∈ zG := List.mem_filter.mpr ⟨List.mem_append_right _ (List.mem_of_getElem? (i := 534) (by decide +kernel)), rfl⟩
theorem kS_X5_sheet : Cond.selects RX5 yX5_sheet yX5_sheet ∈ zG := List.mem_filter.mpr ⟨List.mem_append_right _ (List.mem_of_getElem? (i := 535) (by decide +kernel)), rfl⟩
theorem kD_X5_sheet : Cond.code yX5_sheet cX5_sheet 4 (some .int) ∈ zG := List.mem_filter.mpr ⟨List.mem_append_right _ (List.mem_of_getElem? (i := 536) (by decide +kernel)), rfl⟩
theorem kM_X5_197 : Cond.methodLink RX5 197 yX3_begin ∈ zG := List.mem_filter.mpr ⟨List.mem_append_right _ (List.mem_of_getElem? (i := 537) (by decide +kernel)), rfl⟩
theorem kI_X3_begin : Cond.instanceMethod yX3_begin ∈ zG := List.mem_filter.mpr ⟨List.mem_append_right _ (List.mem_of_getElem? (i := 538) (by decide +kernel)), rfl⟩
theorem kS_X3_begin : Cond.selects RX3 yX3_begin yX3_begin ∈ zG := List.mem_filter.mpr ⟨List.mem_append_right _ (List.mem_of_getElem? (i := 539) (by decide +kernel)), rfl⟩
theorem kD_X3_begin : Cond.code yX3_begin cX3_begin 4 none ∈ zG := List.mem_filter.mpr ⟨List.mem_append_right _ (List.mem_of_getElem? (i := 540) (by decide +kernel)), rfl⟩
theorem kM_L_133 : Cond.methodLink RL 133 yX5_write ∈ zG := List.mem_filter.mpr ⟨List.mem_append_right _ (List.mem_of_getElem? (i := 541) (by decide +kernel)), rfl⟩
theorem kI_X5_write : Cond.instanceMethod yX5_write ∈ zG := List.mem_filter.mpr ⟨List.mem_append_right _ (List.mem_of_getElem? (i := 542) (by decide +kernel)), rfl⟩
theorem kS_X5_write : Cond.selects RX5 yX5_write yX5_write ∈ zG := List.mem_filter.mpr ⟨List.mem_append_right _ (List.mem_of_getElem? (i := 543) (by decide +kernel)), rfl⟩
theorem kD_X5_write : Cond.code yX5_write cX5_write 8 (some .long) ∈ zG := List.mem_filter.mpr ⟨List.mem_append_right _ (List.mem_of_getElem? (i := 544) (by decide +kernel)), rfl⟩
theorem kM_X5_200 : Cond.methodLink RX5 200 yX3_lowestBits ∈ zG := List.mem_filter.mpr ⟨List.mem_append_right _ (List.mem_of_getElem? (i := 545) (by decide +kernel)), rfl⟩
theorem kI_X3_lowestBits : Cond.instanceMethod yX3_lowestBits ∈ zG := List.mem_filter.mpr ⟨List.mem_append_right _ (List.mem_of_getElem? (i := 546) (by decide +kernel)), rfl⟩
theorem kS_X3_lowestBits : Cond.selects RX3 yX3_lowestBits yX3_lowestBits ∈ zG := List.mem_filter.mpr ⟨List.mem_append_right _ (List.mem_of_getElem? (i := 547) (by decide +kernel)), rfl⟩
theorem kD_X3_lowestBits : Cond.code yX3_lowestBits cX3_lowestBits 3 (some .long) ∈ zG := List.mem_filter.mpr ⟨List.mem_append_right _ (List.mem_of_getElem? (i := 548) (by decide +kernel)), rfl⟩
theorem kM_L_138 : Cond.methodLink RL 138 yX5_copy ∈ zG := List.mem_filter.mpr ⟨List.mem_append_right _ (List.mem_of_getElem? (i := 549) (by decide +kernel)), rfl⟩
theorem kI_X5_copy : Cond.instanceMethod yX5_copy ∈ zG := List.mem_filter.mpr ⟨List.mem_append_right _ (List.mem_of_getElem? (i := 550) (by decide +kernel)), rfl⟩
theorem kS_X5_copy : Cond.selects RX5 yX5_copy yX5_copy ∈ zG := List.mem_filter.mpr ⟨List.mem_append_right _ (List.mem_of_getElem? (i := 551) (by decide +kernel)), rfl⟩
theorem kD_X5_copy : Cond.code yX5_copy cX5_copy 8 (some .int) ∈ zG := List.mem_filter.mpr ⟨List.mem_append_right _ (List.mem_of_getElem? (i := 552) (by decide +kernel)), rfl⟩
theorem kM_X5_207 : Cond.methodLink RX5 207 yX3_hasPart ∈ zG := List.mem_filter.mpr ⟨List.mem_append_right _ (List.mem_of_getElem? (i := 553) (by decide +kernel)), rfl⟩
theorem kI_X3_hasPart : Cond.instanceMethod yX3_hasPart ∈ zG := List.mem_filter.mpr ⟨List.mem_append_right _ (List.mem_of_getElem? (i := 554) (by decide +kernel)), rfl⟩
theorem kS_X3_hasPart : Cond.selects RX3 yX3_hasPart yX3_hasPart ∈ zG := List.mem_filter.mpr ⟨List.mem_append_right _ (List.mem_of_getElem? (i := 555) (by decide +kernel)), rfl⟩
theorem kD_X3_hasPart : Cond.code yX3_hasPart cX3_hasPart 3 (some .boolean) ∈ zG := List.mem_filter.mpr ⟨List.mem_append_right _ (List.mem_of_getElem? (i := 556) (by decide +kernel)), rfl⟩
theorem kM_X5_210 : Cond.methodLink RX5 210 arraycopyName ∈ zG := List.mem_filter.mpr ⟨List.mem_append_right _ (List.mem_of_getElem? (i := 557) (by decide +kernel)), rfl⟩
theorem kM_L_143 : Cond.methodLink RL 143 yX5_draws ∈ zG := List.mem_filter.mpr ⟨List.mem_append_right _ (List.mem_of_getElem? (i := 558) (by decide +kernel)), rfl⟩
theorem kI_X5_draws : Cond.instanceMethod yX5_draws ∈ zG := List.mem_filter.mpr ⟨List.mem_append_right _ (List.mem_of_getElem? (i := 559) (by decide +kernel)), rfl⟩
theorem kS_X5_draws : Cond.selects RX5 yX5_draws yX5_draws ∈ zG := List.mem_filter.mpr ⟨List.mem_append_right _ (List.mem_of_getElem? (i := 560) (by decide +kernel)), rfl⟩
theorem kD_X5_draws : Cond.code yX5_draws cX5_draws 8 (some .int) ∈ zG := List.mem_filter.mpr ⟨List.mem_append_right _ (List.mem_of_getElem? (i := 561) (by decide +kernel)), rfl⟩
theorem kK_X5_216 : Cond.constantLong RX5 216 (-99 : Int64) ∈ zG := List.mem_filter.mpr ⟨List.mem_append_right _ (List.mem_of_getElem? (i := 562) (by decide +kernel)), rfl⟩
theorem kK_X5_218 : Cond.constantLong RX5 218 (99 : Int64) ∈ zG := List.mem_filter.mpr ⟨List.mem_append_right _ (List.mem_of_getElem? (i := 563) (by decide +kernel)), rfl⟩
theorem kM_L_147 : Cond.methodLink RL 147 yX5_read ∈ zG := List.mem_filter.mpr ⟨List.mem_append_right _ (List.mem_of_getElem? (i := 564) (by decide +kernel)), rfl⟩
theorem kI_X5_read : Cond.instanceMethod yX5_read ∈ zG := List.mem_filter.mpr ⟨List.mem_append_right _ (List.mem_of_getElem? (i := 565) (by decide +kernel)), rfl⟩
theorem kS_X5_read : Cond.selects RX5 yX5_read yX5_read ∈ zG := List.mem_filter.mpr ⟨List.mem_append_right _ (List.mem_of_getElem? (i := 566) (by decide +kernel)), rfl⟩
theorem kD_X5_read : Cond.code yX5_read cX5_read 4 (some .int) ∈ zG := List.mem_filter.mpr ⟨List.mem_append_right _ (List.mem_of_getElem? (i := 567) (by decide +kernel)), rfl⟩
theorem kM_L_151 : Cond.methodLink RL 151 yX5_image ∈ zG := List.mem_filter.mpr ⟨List.mem_append_right _ (List.mem_of_getElem? (i := 568) (by decide +kernel)), rfl⟩
theorem kI_X5_image : Cond.instanceMethod yX5_image ∈ zG := List.mem_filter.mpr ⟨List.mem_append_right _ (List.mem_of_getElem? (i := 569) (by decide +kernel)), rfl⟩
theorem kS_X5_image : Cond.selects RX5 yX5_image yX5_image ∈ zG := List.mem_filter.mpr ⟨List.mem_append_right _ (List.mem_of_getElem? (i := 570) (by decide +kernel)), rfl⟩
theorem kD_X5_image : Cond.code yX5_image cX5_image 1 (some .int) ∈ zG := List.mem_filter.mpr ⟨List.mem_append_right _ (List.mem_of_getElem? (i := 571) (by decide +kernel)), rfl⟩
theorem kM_X5_220 : Cond.methodLink RX5 220 yX1_copyFrom ∈ zG := List.mem_filter.mpr ⟨List.mem_append_right _ (List.mem_of_getElem? (i := 572) (by decide +kernel)), rfl⟩
theorem kI_X1_copyFrom : Cond.instanceMethod yX1_copyFrom ∈ zG := List.mem_filter.mpr ⟨List.mem_append_right _ (List.mem_of_getElem? (i := 573) (by decide +kernel)), rfl⟩
theorem kS_X1_copyFrom : Cond.selects RX1 yX1_copyFrom yX1_copyFrom ∈ zG := List.mem_filter.mpr ⟨List.mem_append_right _ (List.mem_of_getElem? (i := 574) (by decide +kernel)), rfl⟩
theorem kD_X1_copyFrom : Cond.code yX1_copyFrom cX1_copyFrom 2 none ∈ zG := List.mem_filter.mpr ⟨List.mem_append_right _ (List.mem_of_getElem? (i := 575) (by decide +kernel)), rfl⟩
theorem kM_X1_37 : Cond.methodLink RX1 37 arraycopyName ∈ zG := List.mem_filter.mpr ⟨List.mem_append_right _ (List.mem_of_getElem? (i := 576) (by decide +kernel)), rfl⟩
theorem kM_L_155 : Cond.methodLink RL 155 yX5_undo ∈ zG := List.mem_filter.mpr ⟨List.mem_append_right _ (List.mem_of_getElem? (i := 577) (by decide +kernel)), rfl⟩
theorem kI_X5_undo : Cond.instanceMethod yX5_undo ∈ zG := List.mem_filter.mpr ⟨List.mem_append_right _ (List.mem_of_getElem? (i := 578) (by decide +kernel)), rfl⟩
theorem kS_X5_undo : Cond.selects RX5 yX5_undo yX5_undo ∈ zG := List.mem_filter.mpr ⟨List.mem_append_right _ (List.mem_of_getElem? (i := 579) (by decide +kernel)), rfl⟩
theorem kD_X5_undo : Cond.code yX5_undo cX5_undo 1 (some .int) ∈ zG := List.mem_filter.mpr ⟨List.mem_append_right _ (List.mem_of_getElem? (i := 580) (by decide +kernel)), rfl⟩
theorem kM_L_159 : Cond.methodLink RL 159 yX5_tear ∈ zG := List.mem_filter.mpr ⟨List.mem_append_right _ (List.mem_of_getElem? (i := 581) (by decide +kernel)), rfl⟩
theorem kI_X5_tear : Cond.instanceMethod yX5_tear ∈ zG := List.mem_filter.mpr ⟨List.mem_append_right _ (List.mem_of_getElem? (i := 582) (by decide +kernel)), rfl⟩
theorem kS_X5_tear : Cond.selects RX5 yX5_tear yX5_tear ∈ zG := List.mem_filter.mpr ⟨List.mem_append_right _ (List.mem_of_getElem? (i := 583) (by decide +kernel)), rfl⟩
theorem kD_X5_tear : Cond.code yX5_tear cX5_tear 2 (some .int) ∈ zG := List.mem_filter.mpr ⟨List.mem_append_right _ (List.mem_of_getElem? (i := 584) (by decide +kernel)), rfl⟩
theorem kM_L_163 : Cond.methodLink RL 163 yX5_count ∈ zG := List.mem_filter.mpr ⟨List.mem_append_right _ (List.mem_of_getElem? (i := 585) (by decide +kernel)), rfl⟩
theorem kI_X5_count : Cond.instanceMethod yX5_count ∈ zG := List.mem_filter.mpr ⟨List.mem_append_right _ (List.mem_of_getElem? (i := 586) (by decide +kernel)), rfl⟩
theorem kS_X5_count : Cond.selects RX5 yX5_count yX5_count ∈ zG := List.mem_filter.mpr ⟨List.mem_append_right _ (List.mem_of_getElem? (i := 587) (by decide +kernel)), rfl⟩
theorem kD_X5_count : Cond.code yX5_count cX5_count 2 (some .int) ∈ zG := List.mem_filter.mpr ⟨List.mem_append_right _ (List.mem_of_getElem? (i := 588) (by decide +kernel)), rfl⟩
theorem kM_L_167 : Cond.methodLink RL 167 yX5_status ∈ zG := List.mem_filter.mpr ⟨List.mem_append_right _ (List.mem_of_getElem? (i := 589) (by decide +kernel)), rfl⟩
theorem kI_X5_status : Cond.instanceMethod yX5_status ∈ zG := List.mem_filter.mpr ⟨List.mem_append_right _ (List.mem_of_getElem? (i := 590) (by decide +kernel)), rfl⟩
theorem kS_X5_status : Cond.selects RX5 yX5_status yX5_status ∈ zG := List.mem_filter.mpr ⟨List.mem_append_right _ (List.mem_of_getElem? (i := 591) (by decide +kernel)), rfl⟩
theorem kD_X5_status : Cond.code yX5_status cX5_status 4 (some .int) ∈ zG := List.mem_filter.mpr ⟨List.mem_append_right _ (List.mem_of_getElem? (i := 592) (by decide +kernel)), rfl⟩
theorem kL_L_10 : Cond.classLink RL 10 RX6 ∈ zG := List.mem_filter.mpr ⟨List.mem_append_right _ (List.mem_of_getElem? (i := 593) (by decide +kernel)), rfl⟩
theorem kO_X6 : Cond.instantiable RX6 25 ∈ zG := List.mem_filter.mpr ⟨List.mem_append_right _ (List.mem_of_getElem? (i := 594) (by decide +kernel)), rfl⟩
theorem kM_L_12 : Cond.methodLink RL 12 yX6_init ∈ zG := List.mem_filter.mpr ⟨List.mem_append_right _ (List.mem_of_getElem? (i := 595) (by decide +kernel)), rfl⟩
theorem kI_X6_init : Cond.instanceMethod yX6_init ∈ zG := List.mem_filter.mpr ⟨List.mem_append_right _ (List.mem_of_getElem? (i := 596) (by decide +kernel)), rfl⟩
theorem kD_X6_init : Cond.code yX6_init cX6_init 2 none ∈ zG := List.mem_filter.mpr ⟨List.mem_append_right _ (List.mem_of_getElem? (i := 597) (by decide +kernel)), rfl⟩
theorem kM_X6_1 : Cond.methodLink RX6 1 objectInit ∈ zG := List.mem_filter.mpr ⟨List.mem_append_right _ (List.mem_of_getElem? (i := 598) (by decide +kernel)), rfl⟩
theorem kF_X6_9 : Cond.fieldLink RX6 9 RX6 "s" "[I" ∈ zG := List.mem_filter.mpr ⟨List.mem_append_right _ (List.mem_of_getElem? (i := 599) (by decide +kernel)), rfl⟩
theorem kF_X6_13 : Cond.fieldLink RX6 13 RX6 "kept" "[I" ∈ zG := List.mem_filter.mpr ⟨List.mem_append_right _ (List.mem_of_getElem? (i := 600) (by decide +kernel)), rfl⟩
theorem kF_X6_16 : Cond.fieldLink RX6 16 RX6 "aside" "[I" ∈ zG := List.mem_filter.mpr ⟨List.mem_append_right _ (List.mem_of_getElem? (i := 601) (by decide +kernel)), rfl⟩
theorem kF_X6_242 : Cond.fieldLink RX6 242 RX6 "isKept" "Z" ∈ zG := List.mem_filter.mpr ⟨List.mem_append_right _ (List.mem_of_getElem? (i := 602) (by decide +kernel)), rfl⟩
theorem kF_X6_19 : Cond.fieldLink RX6 19 RX6 "tape" "[I" ∈ zG := List.mem_filter.mpr ⟨List.mem_append_right _ (List.mem_of_getElem? (i := 603) (by decide +kernel)), rfl⟩
theorem kF_X6_183 : Cond.fieldLink RX6 183 RX6 "taped" "I" ∈ zG := List.mem_filter.mpr ⟨List.mem_append_right _ (List.mem_of_getElem? (i := 604) (by decide +kernel)), rfl⟩
theorem kF_X6_22 : Cond.fieldLink RX6 22 RX6 "findings" "[I" ∈ zG := List.mem_filter.mpr ⟨List.mem_append_right _ (List.mem_of_getElem? (i := 605) (by decide +kernel)), rfl⟩
theorem kF_X6_25 : Cond.fieldLink RX6 25 RX6 "steps" "[I" ∈ zG := List.mem_filter.mpr ⟨List.mem_append_right _ (List.mem_of_getElem? (i := 606) (by decide +kernel)), rfl⟩
theorem kF_X6_28 : Cond.fieldLink RX6 28 RX6 "then" "[I" ∈ zG := List.mem_filter.mpr ⟨List.mem_append_right _ (List.mem_of_getElem? (i := 607) (by decide +kernel)), rfl⟩
theorem kF_X6_108 : Cond.fieldLink RX6 108 RX6 "moved" "I" ∈ zG := List.mem_filter.mpr ⟨List.mem_append_right _ (List.mem_of_getElem? (i := 608) (by decide +kernel)), rfl⟩
theorem kF_X6_124 : Cond.fieldLink RX6 124 RX6 "size" "I" ∈ zG := List.mem_filter.mpr ⟨List.mem_append_right _ (List.mem_of_getElem? (i := 609) (by decide +kernel)), rfl⟩
theorem kF_X6_127 : Cond.fieldLink RX6 127 RX6 "noise" "I" ∈ zG := List.mem_filter.mpr ⟨List.mem_append_right _ (List.mem_of_getElem? (i := 610) (by decide +kernel)), rfl⟩
theorem kF_X6_31 : Cond.fieldLink RX6 31 RX6 "sizes" "[I" ∈ zG := List.mem_filter.mpr ⟨List.mem_append_right _ (List.mem_of_getElem? (i := 611) (by decide +kernel)), rfl⟩
theorem kF_X6_34 : Cond.fieldLink RX6 34 RX6 "wides" "[I" ∈ zG := List.mem_filter.mpr ⟨List.mem_append_right _ (List.mem_of_getElem? (i := 612) (by decide +kernel)), rfl⟩
theorem kF_X6_143 : Cond.fieldLink RX6 143 RX6 "noises" "I" ∈ zG := List.mem_filter.mpr ⟨List.mem_append_right _ (List.mem_of_getElem? (i := 613) (by decide +kernel)), rfl⟩
theorem kF_X6_37 : Cond.fieldLink RX6 37 RX6 "code" "[I" ∈ zG := List.mem_filter.mpr ⟨List.mem_append_right _ (List.mem_of_getElem? (i := 614) (by decide +kernel)), rfl⟩
theorem kF_X6_199 : Cond.fieldLink RX6 199 RX6 "coded" "I" ∈ zG := List.mem_filter.mpr ⟨List.mem_append_right _ (List.mem_of_getElem? (i := 615) (by decide +kernel)), rfl⟩
theorem kF_X6_180 : Cond.fieldLink RX6 180 RX6 "here" "I" ∈ zG := List.mem_filter.mpr ⟨List.mem_append_right _ (List.mem_of_getElem? (i := 616) (by decide +kernel)), rfl⟩
theorem kF_X6_186 : Cond.fieldLink RX6 186 RX6 "fault" "I" ∈ zG := List.mem_filter.mpr ⟨List.mem_append_right _ (List.mem_of_getElem? (i := 617) (by decide +kernel)), rfl⟩
theorem kF_X6_208 : Cond.fieldLink RX6 208 RX6 "open" "I" ∈ zG := List.mem_filter.mpr ⟨List.mem_append_right _ (List.mem_of_getElem? (i := 618) (by decide +kernel)), rfl⟩
theorem kF_X6_40 : Cond.fieldLink RX6 40 RX6 "pile" "[I" ∈ zG := List.mem_filter.mpr ⟨List.mem_append_right _ (List.mem_of_getElem? (i := 619) (by decide +kernel)), rfl⟩
theorem kF_X6_43 : Cond.fieldLink RX6 43 RX6 "bits" "[I" ∈ zG := List.mem_filter.mpr ⟨List.mem_append_right _ (List.mem_of_getElem? (i := 620) (by decide +kernel)), rfl⟩
theorem kF_X6_46 : Cond.fieldLink RX6 46 RX6 "longs" "[I" ∈ zG := List.mem_filter.mpr ⟨List.mem_append_right _ (List.mem_of_getElem? (i := 621) (by decide +kernel)), rfl⟩
theorem kF_X6_49 : Cond.fieldLink RX6 49 RX6 "cells" "[J" ∈ zG := List.mem_filter.mpr ⟨List.mem_append_right _ (List.mem_of_getElem? (i := 622) (by decide +kernel)), rfl⟩
theorem kF_X6_53 : Cond.fieldLink RX6 53 RX6 "between" "[J" ∈ zG := List.mem_filter.mpr ⟨List.mem_append_right _ (List.mem_of_getElem? (i := 623) (by decide +kernel)), rfl⟩
theorem kM_L_17 : Cond.methodLink RL 17 yX6_block ∈ zG := List.mem_filter.mpr ⟨List.mem_append_right _ (List.mem_of_getElem? (i := 675) (by decide +kernel)), rfl⟩
theorem kI_X6_block : Cond.instanceMethod yX6_block ∈ zG := List.mem_filter.mpr ⟨List.mem_append_right _ (List.mem_of_getElem? (i := 676) (by decide +kernel)), rfl⟩
theorem kS_X6_block : Cond.selects RX6 yX6_block yX6_block ∈ zG := List.mem_filter.mpr ⟨List.mem_append_right _ (List.mem_of_getElem? (i := 677) (by decide +kernel)), rfl⟩
theorem kD_X6_block : Cond.code yX6_block cX6_block 6 (some .int) ∈ zG := List.mem_filter.mpr ⟨List.mem_append_right _ (List.mem_of_getElem? (i := 678) (by decide +kernel)), rfl⟩
theorem kM_X6_57 : Cond.methodLink RX6 57 yX6_in ∈ zG := List.mem_filter.mpr ⟨List.mem_append_right _ (List.mem_of_getElem? (i := 679) (by decide +kernel)), rfl⟩
theorem kT_X6_in : Cond.static yX6_in ∈ zG := List.mem_filter.mpr ⟨List.mem_append_right _ (List.mem_of_getElem? (i := 680) (by decide +kernel)), rfl⟩
theorem kD_X6_in : Cond.code yX6_in cX6_in 3 (some .boolean) ∈ zG := List.mem_filter.mpr ⟨List.mem_append_right _ (List.mem_of_getElem? (i := 681) (by decide +kernel)), rfl⟩
theorem kM_X6_85 : Cond.methodLink RX6 85 yX6_no ∈ zG := List.mem_filter.mpr ⟨List.mem_append_right _ (List.mem_of_getElem? (i := 682) (by decide +kernel)), rfl⟩
theorem kI_X6_no : Cond.instanceMethod yX6_no ∈ zG := List.mem_filter.mpr ⟨List.mem_append_right _ (List.mem_of_getElem? (i := 684) (by decide +kernel)), rfl⟩
theorem kD_X6_no : Cond.code yX6_no cX6_no 2 (some .int) ∈ zG := List.mem_filter.mpr ⟨List.mem_append_right _ (List.mem_of_getElem? (i := 685) (by decide +kernel)), rfl⟩
theorem kK_X6_56 : Cond.constant RX6 56 (-1000000001 : Int32) ∈ zG := List.mem_filter.mpr ⟨List.mem_append_right _ (List.mem_of_getElem? (i := 686) (by decide +kernel)), rfl⟩
theorem kM_X6_88 : Cond.methodLink RX6 88 yX6_become ∈ zG := List.mem_filter.mpr ⟨List.mem_append_right _ (List.mem_of_getElem? (i := 687) (by decide +kernel)), rfl⟩
theorem kI_X6_become : Cond.instanceMethod yX6_become ∈ zG := List.mem_filter.mpr ⟨List.mem_append_right _ (List.mem_of_getElem? (i := 689) (by decide +kernel)), rfl⟩
theorem kD_X6_become : Cond.code yX6_become cX6_become 5 (some .int) ∈ zG := List.mem_filter.mpr ⟨List.mem_append_right _ (List.mem_of_getElem? (i := 690) (by decide +kernel)), rfl⟩
theorem kM_X6_61 : Cond.methodLink RX6 61 yX6_at ∈ zG := List.mem_filter.mpr ⟨List.mem_append_right _ (List.mem_of_getElem? (i := 691) (by decide +kernel)), rfl⟩
theorem kI_X6_at : Cond.instanceMethod yX6_at ∈ zG := List.mem_filter.mpr ⟨List.mem_append_right _ (List.mem_of_getElem? (i := 693) (by decide +kernel)), rfl⟩
theorem kD_X6_at : Cond.code yX6_at cX6_at 3 (some .int) ∈ zG := List.mem_filter.mpr ⟨List.mem_append_right _ (List.mem_of_getElem? (i := 694) (by decide +kernel)), rfl⟩
theorem kM_L_22 : Cond.methodLink RL 22 yX6_of ∈ zG := List.mem_filter.mpr ⟨List.mem_append_right _ (List.mem_of_getElem? (i := 695) (by decide +kernel)), rfl⟩
theorem kI_X6_of : Cond.instanceMethod yX6_of ∈ zG := List.mem_filter.mpr ⟨List.mem_append_right _ (List.mem_of_getElem? (i := 696) (by decide +kernel)), rfl⟩
theorem kS_X6_of : Cond.selects RX6 yX6_of yX6_of ∈ zG := List.mem_filter.mpr ⟨List.mem_append_right _ (List.mem_of_getElem? (i := 697) (by decide +kernel)), rfl⟩
theorem kD_X6_of : Cond.code yX6_of cX6_of 3 (some .int) ∈ zG := List.mem_filter.mpr ⟨List.mem_append_right _ (List.mem_of_getElem? (i := 698) (by decide +kernel)), rfl⟩
theorem kM_X6_92 : Cond.methodLink RX6 92 yX6_isBlock ∈ zG := List.mem_filter.mpr ⟨List.mem_append_right _ (List.mem_of_getElem? (i := 699) (by decide +kernel)), rfl⟩
theorem kI_X6_isBlock : Cond.instanceMethod yX6_isBlock ∈ zG := List.mem_filter.mpr ⟨List.mem_append_right _ (List.mem_of_getElem? (i := 701) (by decide +kernel)), rfl⟩
theorem kD_X6_isBlock : Cond.code yX6_isBlock cX6_isBlock 2 (some .boolean) ∈ zG := List.mem_filter.mpr ⟨List.mem_append_right _ (List.mem_of_getElem? (i := 702) (by decide +kernel)), rfl⟩
theorem kM_X6_95 : Cond.methodLink RX6 95 yX6_pull ∈ zG := List.mem_filter.mpr ⟨List.mem_append_right _ (List.mem_of_getElem? (i := 703) (by decide +kernel)), rfl⟩
theorem kI_X6_pull : Cond.instanceMethod yX6_pull ∈ zG := List.mem_filter.mpr ⟨List.mem_append_right _ (List.mem_of_getElem? (i := 705) (by decide +kernel)), rfl⟩
theorem kD_X6_pull : Cond.code yX6_pull cX6_pull 3 (some .int) ∈ zG := List.mem_filter.mpr ⟨List.mem_append_right _ (List.mem_of_getElem? (i := 706) (by decide +kernel)), rfl⟩
theorem kM_X6_77 : Cond.methodLink RX6 77 yX6_placeOf ∈ zG := List.mem_filter.mpr ⟨List.mem_append_right _ (List.mem_of_getElem? (i := 707) (by decide +kernel)), rfl⟩
theorem kI_X6_placeOf : Cond.instanceMethod yX6_placeOf ∈ zG := List.mem_filter.mpr ⟨List.mem_append_right _ (List.mem_of_getElem? (i := 709) (by decide +kernel)), rfl⟩
theorem kD_X6_placeOf : Cond.code yX6_placeOf cX6_placeOf 2 (some .int) ∈ zG := List.mem_filter.mpr ⟨List.mem_append_right _ (List.mem_of_getElem? (i := 710) (by decide +kernel)), rfl⟩
theorem kM_X6_81 : Cond.methodLink RX6 81 yX6_isLast ∈ zG := List.mem_filter.mpr ⟨List.mem_append_right _ (List.mem_of_getElem? (i := 711) (by decide +kernel)), rfl⟩
theorem kI_X6_isLast : Cond.instanceMethod yX6_isLast ∈ zG := List.mem_filter.mpr ⟨List.mem_append_right _ (List.mem_of_getElem? (i := 713) (by decide +kernel)), rfl⟩
theorem kD_X6_isLast : Cond.code yX6_isLast cX6_isLast 2 (some .boolean) ∈ zG := List.mem_filter.mpr ⟨List.mem_append_right _ (List.mem_of_getElem? (i := 714) (by decide +kernel)), rfl⟩
theorem kM_X6_98 : Cond.methodLink RX6 98 yX6_holdsOf ∈ zG := List.mem_filter.mpr ⟨List.mem_append_right _ (List.mem_of_getElem? (i := 715) (by decide +kernel)), rfl⟩
theorem kI_X6_holdsOf : Cond.instanceMethod yX6_holdsOf ∈ zG := List.mem_filter.mpr ⟨List.mem_append_right _ (List.mem_of_getElem? (i := 717) (by decide +kernel)), rfl⟩
theorem kD_X6_holdsOf : Cond.code yX6_holdsOf cX6_holdsOf 4 (some .int) ∈ zG := List.mem_filter.mpr ⟨List.mem_append_right _ (List.mem_of_getElem? (i := 718) (by decide +kernel)), rfl⟩
theorem kM_X6_68 : Cond.methodLink RX6 68 yX6_plainHolds ∈ zG := List.mem_filter.mpr ⟨List.mem_append_right _ (List.mem_of_getElem? (i := 719) (by decide +kernel)), rfl⟩
theorem kI_X6_plainHolds : Cond.instanceMethod yX6_plainHolds ∈ zG := List.mem_filter.mpr ⟨List.mem_append_right _ (List.mem_of_getElem? (i := 721) (by decide +kernel)), rfl⟩
theorem kD_X6_plainHolds : Cond.code yX6_plainHolds cX6_plainHolds 3 (some .int) ∈ zG := List.mem_filter.mpr ⟨List.mem_append_right _ (List.mem_of_getElem? (i := 722) (by decide +kernel)), rfl⟩
theorem kM_X6_65 : Cond.methodLink RX6 65 yX6_lesser ∈ zG := List.mem_filter.mpr ⟨List.mem_append_right _ (List.mem_of_getElem? (i := 723) (by decide +kernel)), rfl⟩
theorem kT_X6_lesser : Cond.static yX6_lesser ∈ zG := List.mem_filter.mpr ⟨List.mem_append_right _ (List.mem_of_getElem? (i := 724) (by decide +kernel)), rfl⟩
theorem kD_X6_lesser : Cond.code yX6_lesser cX6_lesser 2 (some .int) ∈ zG := List.mem_filter.mpr ⟨List.mem_append_right _ (List.mem_of_getElem? (i := 725) (by decide +kernel)), rfl⟩
theorem kM_X6_71 : Cond.methodLink RX6 71 yX6_greater ∈ zG := List.mem_filter.mpr ⟨List.mem_append_right _ (List.mem_of_getElem? (i := 726) (by decide +kernel)), rfl⟩
theorem kT_X6_greater : Cond.static yX6_greater ∈ zG := List.mem_filter.mpr ⟨List.mem_append_right _ (List.mem_of_getElem? (i := 727) (by decide +kernel)), rfl⟩
theorem kD_X6_greater : Cond.code yX6_greater cX6_greater 2 (some .int) ∈ zG := List.mem_filter.mpr ⟨List.mem_append_right _ (List.mem_of_getElem? (i := 728) (by decide +kernel)), rfl⟩
theorem kM_X6_74 : Cond.methodLink RX6 74 yX6_given ∈ zG := List.mem_filter.mpr ⟨List.mem_append_right _ (List.mem_of_getElem? (i := 729) (by decide +kernel)), rfl⟩
theorem kI_X6_given : Cond.instanceMethod yX6_given ∈ zG := List.mem_filter.mpr ⟨List.mem_append_right _ (List.mem_of_getElem? (i := 731) (by decide +kernel)), rfl⟩
theorem kD_X6_given : Cond.code yX6_given cX6_given 6 (some .int) ∈ zG := List.mem_filter.mpr ⟨List.mem_append_right _ (List.mem_of_getElem? (i := 732) (by decide +kernel)), rfl⟩
theorem kM_X6_232 : Cond.methodLink RX6 232 yX6_worthOf ∈ zG := List.mem_filter.mpr ⟨List.mem_append_right _ (List.mem_of_getElem? (i := 733) (by decide +kernel)), rfl⟩
theorem kI_X6_worthOf : Cond.instanceMethod yX6_worthOf ∈ zG := List.mem_filter.mpr ⟨List.mem_append_right _ (List.mem_of_getElem? (i := 735) (by decide +kernel)), rfl⟩
theorem kD_X6_worthOf : Cond.code yX6_worthOf cX6_worthOf 4 (some .int) ∈ zG := List.mem_filter.mpr ⟨List.mem_append_right _ (List.mem_of_getElem? (i := 736) (by decide +kernel)), rfl⟩
theorem kM_X6_235 : Cond.methodLink RX6 235 yX6_done ∈ zG := List.mem_filter.mpr ⟨List.mem_append_right _ (List.mem_of_getElem? (i := 737) (by decide +kernel)), rfl⟩
theorem kT_X6_done : Cond.static yX6_done ∈ zG := List.mem_filter.mpr ⟨List.mem_append_right _ (List.mem_of_getElem? (i := 738) (by decide +kernel)), rfl⟩
theorem kD_X6_done : Cond.code yX6_done cX6_done 3 (some .int) ∈ zG := List.mem_filter.mpr ⟨List.mem_append_right _ (List.mem_of_getElem? (i := 739) (by decide +kernel)), rfl⟩
theorem kM_L_27 : Cond.methodLink RL 27 yX6_set ∈ zG := List.mem_filter.mpr ⟨List.mem_append_right _ (List.mem_of_getElem? (i := 740) (by decide +kernel)), rfl⟩
theorem kI_X6_set : Cond.instanceMethod yX6_set ∈ zG := List.mem_filter.mpr ⟨List.mem_append_right _ (List.mem_of_getElem? (i := 741) (by decide +kernel)), rfl⟩
theorem kS_X6_set : Cond.selects RX6 yX6_set yX6_set ∈ zG := List.mem_filter.mpr ⟨List.mem_append_right _ (List.mem_of_getElem? (i := 742) (by decide +kernel)), rfl⟩
theorem kD_X6_set : Cond.code yX6_set cX6_set 4 (some .int) ∈ zG := List.mem_filter.mpr ⟨List.mem_append_right _ (List.mem_of_getElem? (i := 743) (by decide +kernel)), rfl⟩
theorem kM_L_31 : Cond.methodLink RL 31 yX6_as ∈ zG := List.mem_filter.mpr ⟨List.mem_append_right _ (List.mem_of_getElem? (i := 744) (by decide +kernel)), rfl⟩
theorem kI_X6_as : Cond.instanceMethod yX6_as ∈ zG := List.mem_filter.mpr ⟨List.mem_append_right _ (List.mem_of_getElem? (i := 745) (by decide +kernel)), rfl⟩
theorem kS_X6_as : Cond.selects RX6 yX6_as yX6_as ∈ zG := List.mem_filter.mpr ⟨List.mem_append_right _ (List.mem_of_getElem? (i := 746) (by decide +kernel)), rfl⟩
theorem kD_X6_as : Cond.code yX6_as cX6_as 3 (some .int) ∈ zG := List.mem_filter.mpr ⟨List.mem_append_right _ (List.mem_of_getElem? (i := 747) (by decide +kernel)), rfl⟩
theorem kM_X6_101 : Cond.methodLink RX6 101 yX6_isUnder ∈ zG := List.mem_filter.mpr ⟨List.mem_append_right _ (List.mem_of_getElem? (i := 748) (by decide +kernel)), rfl⟩
theorem kT_X6_isUnder : Cond.static yX6_isUnder ∈ zG := List.mem_filter.mpr ⟨List.mem_append_right _ (List.mem_of_getElem? (i := 749) (by decide +kernel)), rfl⟩
theorem kD_X6_isUnder : Cond.code yX6_isUnder cX6_isUnder 2 (some .boolean) ∈ zG := List.mem_filter.mpr ⟨List.mem_append_right _ (List.mem_of_getElem? (i := 750) (by decide +kernel)), rfl⟩
theorem kM_L_35 : Cond.methodLink RL 35 yX6_holds ∈ zG := List.mem_filter.mpr ⟨List.mem_append_right _ (List.mem_of_getElem? (i := 751) (by decide +kernel)), rfl⟩
theorem kI_X6_holds : Cond.instanceMethod yX6_holds ∈ zG := List.mem_filter.mpr ⟨List.mem_append_right _ (List.mem_of_getElem? (i := 752) (by decide +kernel)), rfl⟩
theorem kS_X6_holds : Cond.selects RX6 yX6_holds yX6_holds ∈ zG := List.mem_filter.mpr ⟨List.mem_append_right _ (List.mem_of_getElem? (i := 753) (by decide +kernel)), rfl⟩
theorem kD_X6_holds : Cond.code yX6_holds cX6_holds 3 (some .int) ∈ zG := List.mem_filter.mpr ⟨List.mem_append_right _ (List.mem_of_getElem? (i := 754) (by decide +kernel)), rfl⟩
theorem kM_L_39 : Cond.methodLink RL 39 yX6_rubs ∈ zG := List.mem_filter.mpr ⟨List.mem_append_right _ (List.mem_of_getElem? (i := 755) (by decide +kernel)), rfl⟩
theorem kI_X6_rubs : Cond.instanceMethod yX6_rubs ∈ zG := List.mem_filter.mpr ⟨List.mem_append_right _ (List.mem_of_getElem? (i := 756) (by decide +kernel)), rfl⟩
theorem kS_X6_rubs : Cond.selects RX6 yX6_rubs yX6_rubs ∈ zG := List.mem_filter.mpr ⟨List.mem_append_right _ (List.mem_of_getElem? (i := 757) (by decide +kernel)), rfl⟩
theorem kD_X6_rubs : Cond.code yX6_rubs cX6_rubs 3 (some .int) ∈ zG := List.mem_filter.mpr ⟨List.mem_append_right _ (List.mem_of_getElem? (i := 758) (by decide +kernel)), rfl⟩
theorem kM_X6_105 : Cond.methodLink RX6 105 yX6_rubsOf ∈ zG := List.mem_filter.mpr ⟨List.mem_append_right _ (List.mem_of_getElem? (i := 759) (by decide +kernel)), rfl⟩
theorem kI_X6_rubsOf : Cond.instanceMethod yX6_rubsOf ∈ zG := List.mem_filter.mpr ⟨List.mem_append_right _ (List.mem_of_getElem? (i := 761) (by decide +kernel)), rfl⟩
theorem kD_X6_rubsOf : Cond.code yX6_rubsOf cX6_rubsOf 4 (some .int) ∈ zG := List.mem_filter.mpr ⟨List.mem_append_right _ (List.mem_of_getElem? (i := 762) (by decide +kernel)), rfl⟩
theorem kM_L_43 : Cond.methodLink RL 43 yX6_push ∈ zG := List.mem_filter.mpr ⟨List.mem_append_right _ (List.mem_of_getElem? (i := 763) (by decide +kernel)), rfl⟩
theorem kI_X6_push : Cond.instanceMethod yX6_push ∈ zG := List.mem_filter.mpr ⟨List.mem_append_right _ (List.mem_of_getElem? (i := 764) (by decide +kernel)), rfl⟩
theorem kS_X6_push : Cond.selects RX6 yX6_push yX6_push ∈ zG := List.mem_filter.mpr ⟨List.mem_append_right _ (List.mem_of_getElem? (i := 765) (by decide +kernel)), rfl⟩
theorem kD_X6_push : Cond.code yX6_push cX6_push 3 (some .int) ∈ zG := List.mem_filter.mpr ⟨List.mem_append_right _ (List.mem_of_getElem? (i := 766) (by decide +kernel)), rfl⟩
theorem kM_L_47 : Cond.methodLink RL 47 yX6_oil ∈ zG := List.mem_filter.mpr ⟨List.mem_append_right _ (List.mem_of_getElem? (i := 767) (by decide +kernel)), rfl⟩
theorem kI_X6_oil : Cond.instanceMethod yX6_oil ∈ zG := List.mem_filter.mpr ⟨List.mem_append_right _ (List.mem_of_getElem? (i := 768) (by decide +kernel)), rfl⟩
theorem kS_X6_oil : Cond.selects RX6 yX6_oil yX6_oil ∈ zG := List.mem_filter.mpr ⟨List.mem_append_right _ (List.mem_of_getElem? (i := 769) (by decide +kernel)), rfl⟩
theorem kD_X6_oil : Cond.code yX6_oil cX6_oil 3 (some .int) ∈ zG := List.mem_filter.mpr ⟨List.mem_append_right _ (List.mem_of_getElem? (i := 770) (by decide +kernel)), rfl⟩
theorem kM_L_52 : Cond.methodLink RL 52 yX6_pace ∈ zG := List.mem_filter.mpr ⟨List.mem_append_right _ (List.mem_of_getElem? (i := 771) (by decide +kernel)), rfl⟩
theorem kI_X6_pace : Cond.instanceMethod yX6_pace ∈ zG := List.mem_filter.mpr ⟨List.mem_append_right _ (List.mem_of_getElem? (i := 772) (by decide +kernel)), rfl⟩
theorem kS_X6_pace : Cond.selects RX6 yX6_pace yX6_pace ∈ zG := List.mem_filter.mpr ⟨List.mem_append_right _ (List.mem_of_getElem? (i := 773) (by decide +kernel)), rfl⟩
theorem kD_X6_pace : Cond.code yX6_pace cX6_pace 3 (some .int) ∈ zG := List.mem_filter.mpr ⟨List.mem_append_right _ (List.mem_of_getElem? (i := 774) (by decide +kernel)), rfl⟩
theorem kM_L_56 : Cond.methodLink RL 56 yX6_ticks ∈ zG := List.mem_filter.mpr ⟨List.mem_append_right _ (List.mem_of_getElem? (i := 775) (by decide +kernel)), rfl⟩
theorem kI_X6_ticks : Cond.instanceMethod yX6_ticks ∈ zG := List.mem_filter.mpr ⟨List.mem_append_right _ (List.mem_of_getElem? (i := 776) (by decide +kernel)), rfl⟩
theorem kS_X6_ticks : Cond.selects RX6 yX6_ticks yX6_ticks ∈ zG := List.mem_filter.mpr ⟨List.mem_append_right _ (List.mem_of_getElem? (i := 777) (by decide +kernel)), rfl⟩
theorem kD_X6_ticks : Cond.code yX6_ticks cX6_ticks 3 (some .int) ∈ zG := List.mem_filter.mpr ⟨List.mem_append_right _ (List.mem_of_getElem? (i := 778) (by decide +kernel)), rfl⟩
theorem kM_X6_140 : Cond.methodLink RX6 140 yX6_tick ∈ zG := List.mem_filter.mpr ⟨List.mem_append_right _ (List.mem_of_getElem? (i := 779) (by decide +kernel)), rfl⟩
theorem kI_X6_tick : Cond.instanceMethod yX6_tick ∈ zG := List.mem_filter.mpr ⟨List.mem_append_right _ (List.mem_of_getElem? (i := 781) (by decide +kernel)), rfl⟩
theorem kD_X6_tick : Cond.code yX6_tick cX6_tick 5 none ∈ zG := List.mem_filter.mpr ⟨List.mem_append_right _ (List.mem_of_getElem? (i := 782) (by decide +kernel)), rfl⟩
theorem kM_X6_130 : Cond.methodLink RX6 130 yX6_round ∈ zG := List.mem_filter.mpr ⟨List.mem_append_right _ (List.mem_of_getElem? (i := 783) (by decide +kernel)), rfl⟩
theorem kI_X6_round : Cond.instanceMethod yX6_round ∈ zG := List.mem_filter.mpr ⟨List.mem_append_right _ (List.mem_of_getElem? (i := 785) (by decide +kernel)), rfl⟩
theorem kD_X6_round : Cond.code yX6_round cX6_round 3 (some .boolean) ∈ zG := List.mem_filter.mpr ⟨List.mem_append_right _ (List.mem_of_getElem? (i := 786) (by decide +kernel)), rfl⟩
theorem kM_X6_121 : Cond.methodLink RX6 121 yX6_stepsOf ∈ zG := List.mem_filter.mpr ⟨List.mem_append_right _ (List.mem_of_getElem? (i := 787) (by decide +kernel)), rfl⟩
theorem kI_X6_stepsOf : Cond.instanceMethod yX6_stepsOf ∈ zG := List.mem_filter.mpr ⟨List.mem_append_right _ (List.mem_of_getElem? (i := 789) (by decide +kernel)), rfl⟩
theorem kD_X6_stepsOf : Cond.code yX6_stepsOf cX6_stepsOf 9 (some .int) ∈ zG := List.mem_filter.mpr ⟨List.mem_append_right _ (List.mem_of_getElem? (i := 790) (by decide +kernel)), rfl⟩
theorem kM_X6_112 : Cond.methodLink RX6 112 yX6_without ∈ zG := List.mem_filter.mpr ⟨List.mem_append_right _ (List.mem_of_getElem? (i := 791) (by decide +kernel)), rfl⟩
theorem kT_X6_without : Cond.static yX6_without ∈ zG := List.mem_filter.mpr ⟨List.mem_append_right _ (List.mem_of_getElem? (i := 792) (by decide +kernel)), rfl⟩
theorem kD_X6_without : Cond.code yX6_without cX6_without 1 (some .long) ∈ zG := List.mem_filter.mpr ⟨List.mem_append_right _ (List.mem_of_getElem? (i := 793) (by decide +kernel)), rfl⟩
theorem kM_X6_116 : Cond.methodLink RX6 116 yX6_springs ∈ zG := List.mem_filter.mpr ⟨List.mem_append_right _ (List.mem_of_getElem? (i := 794) (by decide +kernel)), rfl⟩
theorem kI_X6_springs : Cond.instanceMethod yX6_springs ∈ zG := List.mem_filter.mpr ⟨List.mem_append_right _ (List.mem_of_getElem? (i := 796) (by decide +kernel)), rfl⟩
theorem kD_X6_springs : Cond.code yX6_springs cX6_springs 2 (some .int) ∈ zG := List.mem_filter.mpr ⟨List.mem_append_right _ (List.mem_of_getElem? (i := 797) (by decide +kernel)), rfl⟩
theorem kK_X6_119 : Cond.constantLong RX6 119 (999 : Int64) ∈ zG := List.mem_filter.mpr ⟨List.mem_append_right _ (List.mem_of_getElem? (i := 798) (by decide +kernel)), rfl⟩
theorem kM_X6_134 : Cond.methodLink RX6 134 yX6_classOf ∈ zG := List.mem_filter.mpr ⟨List.mem_append_right _ (List.mem_of_getElem? (i := 799) (by decide +kernel)), rfl⟩
theorem kT_X6_classOf : Cond.static yX6_classOf ∈ zG := List.mem_filter.mpr ⟨List.mem_append_right _ (List.mem_of_getElem? (i := 800) (by decide +kernel)), rfl⟩
theorem kD_X6_classOf : Cond.code yX6_classOf cX6_classOf 3 (some .int) ∈ zG := List.mem_filter.mpr ⟨List.mem_append_right _ (List.mem_of_getElem? (i := 801) (by decide +kernel)), rfl⟩
theorem kM_X6_137 : Cond.methodLink RX6 137 yX6_books ∈ zG := List.mem_filter.mpr ⟨List.mem_append_right _ (List.mem_of_getElem? (i := 802) (by decide +kernel)), rfl⟩
theorem kI_X6_books : Cond.instanceMethod yX6_books ∈ zG := List.mem_filter.mpr ⟨List.mem_append_right _ (List.mem_of_getElem? (i := 804) (by decide +kernel)), rfl⟩
theorem kD_X6_books : Cond.code yX6_books cX6_books 2 none ∈ zG := List.mem_filter.mpr ⟨List.mem_append_right _ (List.mem_of_getElem? (i := 805) (by decide +kernel)), rfl⟩
theorem kM_L_60 : Cond.methodLink RL 60 yX6_until ∈ zG := List.mem_filter.mpr ⟨List.mem_append_right _ (List.mem_of_getElem? (i := 806) (by decide +kernel)), rfl⟩
theorem kI_X6_until : Cond.instanceMethod yX6_until ∈ zG := List.mem_filter.mpr ⟨List.mem_append_right _ (List.mem_of_getElem? (i := 807) (by decide +kernel)), rfl⟩
theorem kS_X6_until : Cond.selects RX6 yX6_until yX6_until ∈ zG := List.mem_filter.mpr ⟨List.mem_append_right _ (List.mem_of_getElem? (i := 808) (by decide +kernel)), rfl⟩
theorem kD_X6_until : Cond.code yX6_until cX6_until 5 (some .int) ∈ zG := List.mem_filter.mpr ⟨List.mem_append_right _ (List.mem_of_getElem? (i := 809) (by decide +kernel)), rfl⟩
theorem kM_L_64 : Cond.methodLink RL 64 yX6_book ∈ zG := List.mem_filter.mpr ⟨List.mem_append_right _ (List.mem_of_getElem? (i := 810) (by decide +kernel)), rfl⟩
theorem kI_X6_book : Cond.instanceMethod yX6_book ∈ zG := List.mem_filter.mpr ⟨List.mem_append_right _ (List.mem_of_getElem? (i := 811) (by decide +kernel)), rfl⟩
theorem kS_X6_book : Cond.selects RX6 yX6_book yX6_book ∈ zG := List.mem_filter.mpr ⟨List.mem_append_right _ (List.mem_of_getElem? (i := 812) (by decide +kernel)), rfl⟩
theorem kD_X6_book : Cond.code yX6_book cX6_book 3 (some .int) ∈ zG := List.mem_filter.mpr ⟨List.mem_append_right _ (List.mem_of_getElem? (i := 813) (by decide +kernel)), rfl⟩
theorem kM_L_68 : Cond.methodLink RL 68 yX6_counts ∈ zG := List.mem_filter.mpr ⟨List.mem_append_right _ (List.mem_of_getElem? (i := 814) (by decide +kernel)), rfl⟩
theorem kI_X6_counts : Cond.instanceMethod yX6_counts ∈ zG := List.mem_filter.mpr ⟨List.mem_append_right _ (List.mem_of_getElem? (i := 815) (by decide +kernel)), rfl⟩
theorem kS_X6_counts : Cond.selects RX6 yX6_counts yX6_counts ∈ zG := List.mem_filter.mpr ⟨List.mem_append_right _ (List.mem_of_getElem? (i := 816) (by decide +kernel)), rfl⟩
theorem kD_X6_counts : Cond.code yX6_counts cX6_counts 2 (some .int) ∈ zG := List.mem_filter.mpr ⟨List.mem_append_right _ (List.mem_of_getElem? (i := 817) (by decide +kernel)), rfl⟩
theorem kM_L_73 : Cond.methodLink RL 73 yX6_power ∈ zG := List.mem_filter.mpr ⟨List.mem_append_right _ (List.mem_of_getElem? (i := 818) (by decide +kernel)), rfl⟩
theorem kI_X6_power : Cond.instanceMethod yX6_power ∈ zG := List.mem_filter.mpr ⟨List.mem_append_right _ (List.mem_of_getElem? (i := 819) (by decide +kernel)), rfl⟩
theorem kS_X6_power : Cond.selects RX6 yX6_power yX6_power ∈ zG := List.mem_filter.mpr ⟨List.mem_append_right _ (List.mem_of_getElem? (i := 820) (by decide +kernel)), rfl⟩
theorem kD_X6_power : Cond.code yX6_power cX6_power 3 (some .int) ∈ zG := List.mem_filter.mpr ⟨List.mem_append_right _ (List.mem_of_getElem? (i := 821) (by decide +kernel)), rfl⟩
theorem kM_L_77 : Cond.methodLink RL 77 yX6_tone ∈ zG := List.mem_filter.mpr ⟨List.mem_append_right _ (List.mem_of_getElem? (i := 822) (by decide +kernel)), rfl⟩
theorem kI_X6_tone : Cond.instanceMethod yX6_tone ∈ zG := List.mem_filter.mpr ⟨List.mem_append_right _ (List.mem_of_getElem? (i := 823) (by decide +kernel)), rfl⟩
theorem kS_X6_tone : Cond.selects RX6 yX6_tone yX6_tone ∈ zG := List.mem_filter.mpr ⟨List.mem_append_right _ (List.mem_of_getElem? (i := 824) (by decide +kernel)), rfl⟩
theorem kD_X6_tone : Cond.code yX6_tone cX6_tone 3 (some .int) ∈ zG := List.mem_filter.mpr ⟨List.mem_append_right _ (List.mem_of_getElem? (i := 825) (by decide +kernel)), rfl⟩
theorem kM_L_81 : Cond.methodLink RL 81 yX6_great ∈ zG := List.mem_filter.mpr ⟨List.mem_append_right _ (List.mem_of_getElem? (i := 826) (by decide +kernel)), rfl⟩
theorem kI_X6_great : Cond.instanceMethod yX6_great ∈ zG := List.mem_filter.mpr ⟨List.mem_append_right _ (List.mem_of_getElem? (i := 827) (by decide +kernel)), rfl⟩
theorem kS_X6_great : Cond.selects RX6 yX6_great yX6_great ∈ zG := List.mem_filter.mpr ⟨List.mem_append_right _ (List.mem_of_getElem? (i := 828) (by decide +kernel)), rfl⟩
theorem kD_X6_great : Cond.code yX6_great cX6_great 7 (some .int) ∈ zG := List.mem_filter.mpr ⟨List.mem_append_right _ (List.mem_of_getElem? (i := 829) (by decide +kernel)), rfl⟩
theorem kM_L_86 : Cond.methodLink RL 86 yX6_noise ∈ zG := List.mem_filter.mpr ⟨List.mem_append_right _ (List.mem_of_getElem? (i := 830) (by decide +kernel)), rfl⟩
theorem kI_X6_noise : Cond.instanceMethod yX6_noise ∈ zG := List.mem_filter.mpr ⟨List.mem_append_right _ (List.mem_of_getElem? (i := 831) (by decide +kernel)), rfl⟩
theorem kS_X6_noise : Cond.selects RX6 yX6_noise yX6_noise ∈ zG := List.mem_filter.mpr ⟨List.mem_append_right _ (List.mem_of_getElem? (i := 832) (by decide +kernel)), rfl⟩
theorem kD_X6_noise : Cond.code yX6_noise cX6_noise 5 (some .long) ∈ zG := List.mem_filter.mpr ⟨List.mem_append_right _ (List.mem_of_getElem? (i := 833) (by decide +kernel)), rfl⟩
theorem kM_L_90 : Cond.methodLink RL 90 yX6_ahead ∈ zG := List.mem_filter.mpr ⟨List.mem_append_right _ (List.mem_of_getElem? (i := 834) (by decide +kernel)), rfl⟩
theorem kI_X6_ahead : Cond.instanceMethod yX6_ahead ∈ zG := List.mem_filter.mpr ⟨List.mem_append_right _ (List.mem_of_getElem? (i := 835) (by decide +kernel)), rfl⟩
theorem kS_X6_ahead : Cond.selects RX6 yX6_ahead yX6_ahead ∈ zG := List.mem_filter.mpr ⟨List.mem_append_right _ (List.mem_of_getElem? (i := 836) (by decide +kernel)), rfl⟩
theorem kD_X6_ahead : Cond.code yX6_ahead cX6_ahead 4 (some .int) ∈ zG := List.mem_filter.mpr ⟨List.mem_append_right _ (List.mem_of_getElem? (i := 837) (by decide +kernel)), rfl⟩
theorem kM_X6_146 : Cond.methodLink RX6 146 yX6_isAhead ∈ zG := List.mem_filter.mpr ⟨List.mem_append_right _ (List.mem_of_getElem? (i := 838) (by decide +kernel)), rfl⟩
theorem kT_X6_isAhead : Cond.static yX6_isAhead ∈ zG := List.mem_filter.mpr ⟨List.mem_append_right _ (List.mem_of_getElem? (i := 839) (by decide +kernel)), rfl⟩
theorem kD_X6_isAhead : Cond.code yX6_isAhead cX6_isAhead 1 (some .boolean) ∈ zG := List.mem_filter.mpr ⟨List.mem_append_right _ (List.mem_of_getElem? (i := 840) (by decide +kernel)), rfl⟩
theorem kM_X6_149 : Cond.methodLink RX6 149 yX6_lay ∈ zG := List.mem_filter.mpr ⟨List.mem_append_right _ (List.mem_of_getElem? (i := 841) (by decide +kernel)), rfl⟩
theorem kT_X6_lay : Cond.static yX6_lay ∈ zG := List.mem_filter.mpr ⟨List.mem_append_right _ (List.mem_of_getElem? (i := 842) (by decide +kernel)), rfl⟩
theorem kD_X6_lay : Cond.code yX6_lay cX6_lay 3 none ∈ zG := List.mem_filter.mpr ⟨List.mem_append_right _ (List.mem_of_getElem? (i := 843) (by decide +kernel)), rfl⟩
theorem kM_X6_153 : Cond.methodLink RX6 153 yX6_goes ∈ zG := List.mem_filter.mpr ⟨List.mem_append_right _ (List.mem_of_getElem? (i := 844) (by decide +kernel)), rfl⟩
theorem kI_X6_goes : Cond.instanceMethod yX6_goes ∈ zG := List.mem_filter.mpr ⟨List.mem_append_right _ (List.mem_of_getElem? (i := 846) (by decide +kernel)), rfl⟩
theorem kD_X6_goes : Cond.code yX6_goes cX6_goes 3 none ∈ zG := List.mem_filter.mpr ⟨List.mem_append_right _ (List.mem_of_getElem? (i := 847) (by decide +kernel)), rfl⟩
theorem kM_X6_157 : Cond.methodLink RX6 157 yX6_jumps ∈ zG := List.mem_filter.mpr ⟨List.mem_append_right _ (List.mem_of_getElem? (i := 848) (by decide +kernel)), rfl⟩
theorem kI_X6_jumps : Cond.instanceMethod yX6_jumps ∈ zG := List.mem_filter.mpr ⟨List.mem_append_right _ (List.mem_of_getElem? (i := 850) (by decide +kernel)), rfl⟩
theorem kD_X6_jumps : Cond.code yX6_jumps cX6_jumps 4 (some .int) ∈ zG := List.mem_filter.mpr ⟨List.mem_append_right _ (List.mem_of_getElem? (i := 851) (by decide +kernel)), rfl⟩
theorem kM_X6_160 : Cond.methodLink RX6 160 yX6_greatest ∈ zG := List.mem_filter.mpr ⟨List.mem_append_right _ (List.mem_of_getElem? (i := 852) (by decide +kernel)), rfl⟩
theorem kI_X6_greatest : Cond.instanceMethod yX6_greatest ∈ zG := List.mem_filter.mpr ⟨List.mem_append_right _ (List.mem_of_getElem? (i := 854) (by decide +kernel)), rfl⟩
theorem kD_X6_greatest : Cond.code yX6_greatest cX6_greatest 4 (some .int) ∈ zG := List.mem_filter.mpr ⟨List.mem_append_right _ (List.mem_of_getElem? (i := 855) (by decide +kernel)), rfl⟩
theorem kM_L_94 : Cond.methodLink RL 94 yX6_from ∈ zG := List.mem_filter.mpr ⟨List.mem_append_right _ (List.mem_of_getElem? (i := 856) (by decide +kernel)), rfl⟩
theorem kI_X6_from : Cond.instanceMethod yX6_from ∈ zG := List.mem_filter.mpr ⟨List.mem_append_right _ (List.mem_of_getElem? (i := 857) (by decide +kernel)), rfl⟩
theorem kS_X6_from : Cond.selects RX6 yX6_from yX6_from ∈ zG := List.mem_filter.mpr ⟨List.mem_append_right _ (List.mem_of_getElem? (i := 858) (by decide +kernel)), rfl⟩
theorem kD_X6_from : Cond.code yX6_from cX6_from 2 (some .int) ∈ zG := List.mem_filter.mpr ⟨List.mem_append_right _ (List.mem_of_getElem? (i := 859) (by decide +kernel)), rfl⟩
theorem kM_X6_167 : Cond.methodLink RX6 167 yX6_leastSo ∈ zG := List.mem_filter.mpr ⟨List.mem_append_right _ (List.mem_of_getElem? (i := 860) (by decide +kernel)), rfl⟩
theorem kI_X6_leastSo : Cond.instanceMethod yX6_leastSo ∈ zG := List.mem_filter.mpr ⟨List.mem_append_right _ (List.mem_of_getElem? (i := 862) (by decide +kernel)), rfl⟩
theorem kD_X6_leastSo : Cond.code yX6_leastSo cX6_leastSo 6 (some .int) ∈ zG := List.mem_filter.mpr ⟨List.mem_append_right _ (List.mem_of_getElem? (i := 863) (by decide +kernel)), rfl⟩
theorem kM_X6_163 : Cond.methodLink RX6 163 yX6_isSo ∈ zG := List.mem_filter.mpr ⟨List.mem_append_right _ (List.mem_of_getElem? (i := 864) (by decide +kernel)), rfl⟩
theorem kI_X6_isSo : Cond.instanceMethod yX6_isSo ∈ zG := List.mem_filter.mpr ⟨List.mem_append_right _ (List.mem_of_getElem? (i := 866) (by decide +kernel)), rfl⟩
theorem kD_X6_isSo : Cond.code yX6_isSo cX6_isSo 6 (some .boolean) ∈ zG := List.mem_filter.mpr ⟨List.mem_append_right _ (List.mem_of_getElem? (i := 867) (by decide +kernel)), rfl⟩
theorem kM_L_98 : Cond.methodLink RL 98 yX6_still ∈ zG := List.mem_filter.mpr ⟨List.mem_append_right _ (List.mem_of_getElem? (i := 868) (by decide +kernel)), rfl⟩
theorem kI_X6_still : Cond.instanceMethod yX6_still ∈ zG := List.mem_filter.mpr ⟨List.mem_append_right _ (List.mem_of_getElem? (i := 869) (by decide +kernel)), rfl⟩
theorem kS_X6_still : Cond.selects RX6 yX6_still yX6_still ∈ zG := List.mem_filter.mpr ⟨List.mem_append_right _ (List.mem_of_getElem? (i := 870) (by decide +kernel)), rfl⟩
theorem kD_X6_still : Cond.code yX6_still cX6_still 4 (some .int) ∈ zG := List.mem_filter.mpr ⟨List.mem_append_right _ (List.mem_of_getElem? (i := 871) (by decide +kernel)), rfl⟩
theorem kM_L_102 : Cond.methodLink RL 102 yX6_which ∈ zG := List.mem_filter.mpr ⟨List.mem_append_right _ (List.mem_of_getElem? (i := 872) (by decide +kernel)), rfl⟩
theorem kI_X6_which : Cond.instanceMethod yX6_which ∈ zG := List.mem_filter.mpr ⟨List.mem_append_right _ (List.mem_of_getElem? (i := 873) (by decide +kernel)), rfl⟩
theorem kS_X6_which : Cond.selects RX6 yX6_which yX6_which ∈ zG := List.mem_filter.mpr ⟨List.mem_append_right _ (List.mem_of_getElem? (i := 874) (by decide +kernel)), rfl⟩
theorem kD_X6_which : Cond.code yX6_which cX6_which 5 (some .int) ∈ zG := List.mem_filter.mpr ⟨List.mem_append_right _ (List.mem_of_getElem? (i := 875) (by decide +kernel)), rfl⟩
theorem kM_X6_174 : Cond.methodLink RX6 174 yX6_isSheet ∈ zG := List.mem_filter.mpr ⟨List.mem_append_right _ (List.mem_of_getElem? (i := 876) (by decide +kernel)), rfl⟩
theorem kT_X6_isSheet : Cond.static yX6_isSheet ∈ zG := List.mem_filter.mpr ⟨List.mem_append_right _ (List.mem_of_getElem? (i := 877) (by decide +kernel)), rfl⟩
theorem kD_X6_isSheet : Cond.code yX6_isSheet cX6_isSheet 1 (some .boolean) ∈ zG := List.mem_filter.mpr ⟨List.mem_append_right _ (List.mem_of_getElem? (i := 878) (by decide +kernel)), rfl⟩
theorem kM_X6_171 : Cond.methodLink RX6 171 yX6_longOf ∈ zG := List.mem_filter.mpr ⟨List.mem_append_right _ (List.mem_of_getElem? (i := 879) (by decide +kernel)), rfl⟩
theorem kI_X6_longOf : Cond.instanceMethod yX6_longOf ∈ zG := List.mem_filter.mpr ⟨List.mem_append_right _ (List.mem_of_getElem? (i := 881) (by decide +kernel)), rfl⟩
theorem kD_X6_longOf : Cond.code yX6_longOf cX6_longOf 2 (some .int) ∈ zG := List.mem_filter.mpr ⟨List.mem_append_right _ (List.mem_of_getElem? (i := 882) (by decide +kernel)), rfl⟩
theorem kM_X6_177 : Cond.methodLink RX6 177 yX6_gives ∈ zG := List.mem_filter.mpr ⟨List.mem_append_right _ (List.mem_of_getElem? (i := 883) (by decide +kernel)), rfl⟩
theorem kI_X6_gives : Cond.instanceMethod yX6_gives ∈ zG := List.mem_filter.mpr ⟨List.mem_append_right _ (List.mem_of_getElem? (i := 885) (by decide +kernel)), rfl⟩
theorem kD_X6_gives : Cond.code yX6_gives cX6_gives 7 (some .boolean) ∈ zG := List.mem_filter.mpr ⟨List.mem_append_right _ (List.mem_of_getElem? (i := 886) (by decide +kernel)), rfl⟩
theorem kM_L_106 : Cond.methodLink RL 106 yX6_together ∈ zG := List.mem_filter.mpr ⟨List.mem_append_right _ (List.mem_of_getElem? (i := 887) (by decide +kernel)), rfl⟩
theorem kI_X6_together : Cond.instanceMethod yX6_together ∈ zG := List.mem_filter.mpr ⟨List.mem_append_right _ (List.mem_of_getElem? (i := 888) (by decide +kernel)), rfl⟩
theorem kS_X6_together : Cond.selects RX6 yX6_together yX6_together ∈ zG := List.mem_filter.mpr ⟨List.mem_append_right _ (List.mem_of_getElem? (i := 889) (by decide +kernel)), rfl⟩
theorem kD_X6_together : Cond.code yX6_together cX6_together 6 (some .int) ∈ zG := List.mem_filter.mpr ⟨List.mem_append_right _ (List.mem_of_getElem? (i := 890) (by decide +kernel)), rfl⟩
theorem kM_L_110 : Cond.methodLink RL 110 yX6_feed ∈ zG := List.mem_filter.mpr ⟨List.mem_append_right _ (List.mem_of_getElem? (i := 891) (by decide +kernel)), rfl⟩
theorem kI_X6_feed : Cond.instanceMethod yX6_feed ∈ zG := List.mem_filter.mpr ⟨List.mem_append_right _ (List.mem_of_getElem? (i := 892) (by decide +kernel)), rfl⟩
theorem kS_X6_feed : Cond.selects RX6 yX6_feed yX6_feed ∈ zG := List.mem_filter.mpr ⟨List.mem_append_right _ (List.mem_of_getElem? (i := 893) (by decide +kernel)), rfl⟩
theorem kD_X6_feed : Cond.code yX6_feed cX6_feed 4 (some .int) ∈ zG := List.mem_filter.mpr ⟨List.mem_append_right _ (List.mem_of_getElem? (i := 894) (by decide +kernel)), rfl⟩
theorem kM_L_114 : Cond.methodLink RL 114 yX6_wipe ∈ zG := List.mem_filter.mpr ⟨List.mem_append_right _ (List.mem_of_getElem? (i := 895) (by decide +kernel)), rfl⟩
theorem kI_X6_wipe : Cond.instanceMethod yX6_wipe ∈ zG := List.mem_filter.mpr ⟨List.mem_append_right _ (List.mem_of_getElem? (i := 896) (by decide +kernel)), rfl⟩
theorem kS_X6_wipe : Cond.selects RX6 yX6_wipe yX6_wipe ∈ zG := List.mem_filter.mpr ⟨List.mem_append_right _ (List.mem_of_getElem? (i := 897) (by decide +kernel)), rfl⟩
theorem kD_X6_wipe : Cond.code yX6_wipe cX6_wipe 2 (some .int) ∈ zG := List.mem_filter.mpr ⟨List.mem_append_right _ (List.mem_of_getElem? (i := 898) (by decide +kernel)), rfl⟩
theorem kM_L_118 : Cond.methodLink RL 118 yX6_law ∈ zG := List.mem_filter.mpr ⟨List.mem_append_right _ (List.mem_of_getElem? (i := 899) (by decide +kernel)), rfl⟩
theorem kI_X6_law : Cond.instanceMethod yX6_law ∈ zG := List.mem_filter.mpr ⟨List.mem_append_right _ (List.mem_of_getElem? (i := 900) (by decide +kernel)), rfl⟩
theorem kS_X6_law : Cond.selects RX6 yX6_law yX6_law ∈ zG := List.mem_filter.mpr ⟨List.mem_append_right _ (List.mem_of_getElem? (i := 901) (by decide +kernel)), rfl⟩
theorem kD_X6_law : Cond.code yX6_law cX6_law 2 (some .int) ∈ zG := List.mem_filter.mpr ⟨List.mem_append_right _ (List.mem_of_getElem? (i := 902) (by decide +kernel)), rfl⟩
theorem kM_X6_223 : Cond.methodLink RX6 223 yX6_sum ∈ zG := List.mem_filter.mpr ⟨List.mem_append_right _ (List.mem_of_getElem? (i := 903) (by decide +kernel)), rfl⟩
theorem kI_X6_sum : Cond.instanceMethod yX6_sum ∈ zG := List.mem_filter.mpr ⟨List.mem_append_right _ (List.mem_of_getElem? (i := 905) (by decide +kernel)), rfl⟩
theorem kD_X6_sum : Cond.code yX6_sum cX6_sum 3 none ∈ zG := List.mem_filter.mpr ⟨List.mem_append_right _ (List.mem_of_getElem? (i := 906) (by decide +kernel)), rfl⟩
theorem kM_X6_229 : Cond.methodLink RX6 229 yX6_term ∈ zG := List.mem_filter.mpr ⟨List.mem_append_right _ (List.mem_of_getElem? (i := 907) (by decide +kernel)), rfl⟩
theorem kI_X6_term : Cond.instanceMethod yX6_term ∈ zG := List.mem_filter.mpr ⟨List.mem_append_right _ (List.mem_of_getElem? (i := 909) (by decide +kernel)), rfl⟩
theorem kD_X6_term : Cond.code yX6_term cX6_term 3 none ∈ zG := List.mem_filter.mpr ⟨List.mem_append_right _ (List.mem_of_getElem? (i := 910) (by decide +kernel)), rfl⟩
theorem kM_X6_220 : Cond.methodLink RX6 220 yX6_factor ∈ zG := List.mem_filter.mpr ⟨List.mem_append_right _ (List.mem_of_getElem? (i := 911) (by decide +kernel)), rfl⟩
theorem kI_X6_factor : Cond.instanceMethod yX6_factor ∈ zG := List.mem_filter.mpr ⟨List.mem_append_right _ (List.mem_of_getElem? (i := 913) (by decide +kernel)), rfl⟩
theorem kD_X6_factor : Cond.code yX6_factor cX6_factor 1 none ∈ zG := List.mem_filter.mpr ⟨List.mem_append_right _ (List.mem_of_getElem? (i := 914) (by decide +kernel)), rfl⟩
theorem kM_X6_189 : Cond.methodLink RX6 189 yX6_byteAt ∈ zG := List.mem_filter.mpr ⟨List.mem_append_right _ (List.mem_of_getElem? (i := 915) (by decide +kernel)), rfl⟩
theorem kI_X6_byteAt : Cond.instanceMethod yX6_byteAt ∈ zG := List.mem_filter.mpr ⟨List.mem_append_right _ (List.mem_of_getElem? (i := 917) (by decide +kernel)), rfl⟩
theorem kD_X6_byteAt : Cond.code yX6_byteAt cX6_byteAt 1 (some .int) ∈ zG := List.mem_filter.mpr ⟨List.mem_append_right _ (List.mem_of_getElem? (i := 918) (by decide +kernel)), rfl⟩
theorem kM_X6_202 : Cond.methodLink RX6 202 yX6_isDigit ∈ zG := List.mem_filter.mpr ⟨List.mem_append_right _ (List.mem_of_getElem? (i := 919) (by decide +kernel)), rfl⟩
theorem kT_X6_isDigit : Cond.static yX6_isDigit ∈ zG := List.mem_filter.mpr ⟨List.mem_append_right _ (List.mem_of_getElem? (i := 920) (by decide +kernel)), rfl⟩
theorem kD_X6_isDigit : Cond.code yX6_isDigit cX6_isDigit 1 (some .boolean) ∈ zG := List.mem_filter.mpr ⟨List.mem_append_right _ (List.mem_of_getElem? (i := 921) (by decide +kernel)), rfl⟩
theorem kM_X6_211 : Cond.methodLink RX6 211 yX6_number ∈ zG := List.mem_filter.mpr ⟨List.mem_append_right _ (List.mem_of_getElem? (i := 922) (by decide +kernel)), rfl⟩
theorem kI_X6_number : Cond.instanceMethod yX6_number ∈ zG := List.mem_filter.mpr ⟨List.mem_append_right _ (List.mem_of_getElem? (i := 924) (by decide +kernel)), rfl⟩
theorem kD_X6_number : Cond.code yX6_number cX6_number 3 none ∈ zG := List.mem_filter.mpr ⟨List.mem_append_right _ (List.mem_of_getElem? (i := 925) (by decide +kernel)), rfl⟩
theorem kM_X6_205 : Cond.methodLink RX6 205 yX6_emit ∈ zG := List.mem_filter.mpr ⟨List.mem_append_right _ (List.mem_of_getElem? (i := 926) (by decide +kernel)), rfl⟩
theorem kI_X6_emit : Cond.instanceMethod yX6_emit ∈ zG := List.mem_filter.mpr ⟨List.mem_append_right _ (List.mem_of_getElem? (i := 928) (by decide +kernel)), rfl⟩
theorem kD_X6_emit : Cond.code yX6_emit cX6_emit 2 none ∈ zG := List.mem_filter.mpr ⟨List.mem_append_right _ (List.mem_of_getElem? (i := 929) (by decide +kernel)), rfl⟩
theorem kM_X6_214 : Cond.methodLink RX6 214 yX6_nameOf ∈ zG := List.mem_filter.mpr ⟨List.mem_append_right _ (List.mem_of_getElem? (i := 930) (by decide +kernel)), rfl⟩
theorem kT_X6_nameOf : Cond.static yX6_nameOf ∈ zG := List.mem_filter.mpr ⟨List.mem_append_right _ (List.mem_of_getElem? (i := 931) (by decide +kernel)), rfl⟩
theorem kD_X6_nameOf : Cond.code yX6_nameOf cX6_nameOf 1 (some .int) ∈ zG := List.mem_filter.mpr ⟨List.mem_append_right _ (List.mem_of_getElem? (i := 932) (by decide +kernel)), rfl⟩
theorem kM_X6_217 : Cond.methodLink RX6 217 yX6_opens ∈ zG := List.mem_filter.mpr ⟨List.mem_append_right _ (List.mem_of_getElem? (i := 933) (by decide +kernel)), rfl⟩
theorem kI_X6_opens : Cond.instanceMethod yX6_opens ∈ zG := List.mem_filter.mpr ⟨List.mem_append_right _ (List.mem_of_getElem? (i := 935) (by decide +kernel)), rfl⟩
theorem kD_X6_opens : Cond.code yX6_opens cX6_opens 2 (some .boolean) ∈ zG := List.mem_filter.mpr ⟨List.mem_append_right _ (List.mem_of_getElem? (i := 936) (by decide +kernel)), rfl⟩
theorem kM_X6_196 : Cond.methodLink RX6 196 yX6_fails ∈ zG := List.mem_filter.mpr ⟨List.mem_append_right _ (List.mem_of_getElem? (i := 937) (by decide +kernel)), rfl⟩
theorem kI_X6_fails : Cond.instanceMethod yX6_fails ∈ zG := List.mem_filter.mpr ⟨List.mem_append_right _ (List.mem_of_getElem? (i := 939) (by decide +kernel)), rfl⟩
theorem kD_X6_fails : Cond.code yX6_fails cX6_fails 1 none ∈ zG := List.mem_filter.mpr ⟨List.mem_append_right _ (List.mem_of_getElem? (i := 940) (by decide +kernel)), rfl⟩
theorem kM_X6_226 : Cond.methodLink RX6 226 yX6_must ∈ zG := List.mem_filter.mpr ⟨List.mem_append_right _ (List.mem_of_getElem? (i := 941) (by decide +kernel)), rfl⟩
theorem kI_X6_must : Cond.instanceMethod yX6_must ∈ zG := List.mem_filter.mpr ⟨List.mem_append_right _ (List.mem_of_getElem? (i := 943) (by decide +kernel)), rfl⟩
theorem kD_X6_must : Cond.code yX6_must cX6_must 2 none ∈ zG := List.mem_filter.mpr ⟨List.mem_append_right _ (List.mem_of_getElem? (i := 944) (by decide +kernel)), rfl⟩
theorem kM_X6_193 : Cond.methodLink RX6 193 yX6_may ∈ zG := List.mem_filter.mpr ⟨List.mem_append_right _ (List.mem_of_getElem? (i := 945) (by decide +kernel)), rfl⟩
theorem kI_X6_may : Cond.instanceMethod yX6_may ∈ zG := List.mem_filter.mpr ⟨List.mem_append_right _ (List.mem_of_getElem? (i := 947) (by decide +kernel)), rfl⟩
theorem kD_X6_may : Cond.code yX6_may cX6_may 3 (some .boolean) ∈ zG := List.mem_filter.mpr ⟨List.mem_append_right _ (List.mem_of_getElem? (i := 948) (by decide +kernel)), rfl⟩
theorem kM_L_122 : Cond.methodLink RL 122 yX6_plain ∈ zG := List.mem_filter.mpr ⟨List.mem_append_right _ (List.mem_of_getElem? (i := 949) (by decide +kernel)), rfl⟩
theorem kI_X6_plain : Cond.instanceMethod yX6_plain ∈ zG := List.mem_filter.mpr ⟨List.mem_append_right _ (List.mem_of_getElem? (i := 950) (by decide +kernel)), rfl⟩
theorem kS_X6_plain : Cond.selects RX6 yX6_plain yX6_plain ∈ zG := List.mem_filter.mpr ⟨List.mem_append_right _ (List.mem_of_getElem? (i := 951) (by decide +kernel)), rfl⟩
theorem kD_X6_plain : Cond.code yX6_plain cX6_plain 2 (some .int) ∈ zG := List.mem_filter.mpr ⟨List.mem_append_right _ (List.mem_of_getElem? (i := 952) (by decide +kernel)), rfl⟩
theorem kM_L_126 : Cond.methodLink RL 126 yX6_says ∈ zG := List.mem_filter.mpr ⟨List.mem_append_right _ (List.mem_of_getElem? (i := 953) (by decide +kernel)), rfl⟩
theorem kI_X6_says : Cond.instanceMethod yX6_says ∈ zG := List.mem_filter.mpr ⟨List.mem_append_right _ (List.mem_of_getElem? (i := 954) (by decide +kernel)), rfl⟩
theorem kS_X6_says : Cond.selects RX6 yX6_says yX6_says ∈ zG := List.mem_filter.mpr ⟨List.mem_append_right _ (List.mem_of_getElem? (i := 955) (by decide +kernel)), rfl⟩
theorem kD_X6_says : Cond.code yX6_says cX6_says 2 (some .int) ∈ zG := List.mem_filter.mpr ⟨List.mem_append_right _ (List.mem_of_getElem? (i := 956) (by decide +kernel)), rfl⟩
theorem kM_L_130 : Cond.methodLink RL 130 yX6_sheet ∈ zG := List.mem_filter.mpr ⟨List.mem_append_right _ (List.mem_of_getElem? (i := 957) (by decide +kernel)), rfl⟩
theorem kI_X6_sheet : Cond.instanceMethod yX6_sheet ∈ zG := List.mem_filter.mpr ⟨List.mem_append_right _ (List.mem_of_getElem? (i := 958) (by decide +kernel)), rfl⟩
theorem kS_X6_sheet : Cond.selects RX6 yX6_sheet yX6_sheet ∈ zG := List.mem_filter.mpr ⟨List.mem_append_right _ (List.mem_of_getElem? (i := 959) (by decide +kernel)), rfl⟩
theorem kD_X6_sheet : Cond.code yX6_sheet cX6_sheet 5 (some .int) ∈ zG := List.mem_filter.mpr ⟨List.mem_append_right _ (List.mem_of_getElem? (i := 960) (by decide +kernel)), rfl⟩
theorem kM_L_137 : Cond.methodLink RL 137 yX6_write ∈ zG := List.mem_filter.mpr ⟨List.mem_append_right _ (List.mem_of_getElem? (i := 961) (by decide +kernel)), rfl⟩
theorem kI_X6_write : Cond.instanceMethod yX6_write ∈ zG := List.mem_filter.mpr ⟨List.mem_append_right _ (List.mem_of_getElem? (i := 962) (by decide +kernel)), rfl⟩
theorem kS_X6_write : Cond.selects RX6 yX6_write yX6_write ∈ zG := List.mem_filter.mpr ⟨List.mem_append_right _ (List.mem_of_getElem? (i := 963) (by decide +kernel)), rfl⟩
theorem kD_X6_write : Cond.code yX6_write cX6_write 7 (some .long) ∈ zG := List.mem_filter.mpr ⟨List.mem_append_right _ (List.mem_of_getElem? (i := 964) (by decide +kernel)), rfl⟩
theorem kM_L_142 : Cond.methodLink RL 142 yX6_copy ∈ zG := List.mem_filter.mpr ⟨List.mem_append_right _ (List.mem_of_getElem? (i := 965) (by decide +kernel)), rfl⟩
theorem kI_X6_copy : Cond.instanceMethod yX6_copy ∈ zG := List.mem_filter.mpr ⟨List.mem_append_right _ (List.mem_of_getElem? (i := 966) (by decide +kernel)), rfl⟩
theorem kS_X6_copy : Cond.selects RX6 yX6_copy yX6_copy ∈ zG := List.mem_filter.mpr ⟨List.mem_append_right _ (List.mem_of_getElem? (i := 967) (by decide +kernel)), rfl⟩
theorem kD_X6_copy : Cond.code yX6_copy cX6_copy 7 (some .int) ∈ zG := List.mem_filter.mpr ⟨List.mem_append_right _ (List.mem_of_getElem? (i := 968) (by decide +kernel)), rfl⟩
theorem kM_L_146 : Cond.methodLink RL 146 yX6_draws ∈ zG := List.mem_filter.mpr ⟨List.mem_append_right _ (List.mem_of_getElem? (i := 969) (by decide +kernel)), rfl⟩
theorem kI_X6_draws : Cond.instanceMethod yX6_draws ∈ zG := List.mem_filter.mpr ⟨List.mem_append_right _ (List.mem_of_getElem? (i := 970) (by decide +kernel)), rfl⟩
theorem kS_X6_draws : Cond.selects RX6 yX6_draws yX6_draws ∈ zG := List.mem_filter.mpr ⟨List.mem_append_right _ (List.mem_of_getElem? (i := 971) (by decide +kernel)), rfl⟩
theorem kD_X6_draws : Cond.code yX6_draws cX6_draws 7 (some .int) ∈ zG := List.mem_filter.mpr ⟨List.mem_append_right _ (List.mem_of_getElem? (i := 972) (by decide +kernel)), rfl⟩
theorem kK_X6_238 : Cond.constantLong RX6 238 (-99 : Int64) ∈ zG := List.mem_filter.mpr ⟨List.mem_append_right _ (List.mem_of_getElem? (i := 973) (by decide +kernel)), rfl⟩
theorem kK_X6_240 : Cond.constantLong RX6 240 (99 : Int64) ∈ zG := List.mem_filter.mpr ⟨List.mem_append_right _ (List.mem_of_getElem? (i := 974) (by decide +kernel)), rfl⟩
theorem kM_L_150 : Cond.methodLink RL 150 yX6_read ∈ zG := List.mem_filter.mpr ⟨List.mem_append_right _ (List.mem_of_getElem? (i := 975) (by decide +kernel)), rfl⟩
theorem kI_X6_read : Cond.instanceMethod yX6_read ∈ zG := List.mem_filter.mpr ⟨List.mem_append_right _ (List.mem_of_getElem? (i := 976) (by decide +kernel)), rfl⟩
theorem kS_X6_read : Cond.selects RX6 yX6_read yX6_read ∈ zG := List.mem_filter.mpr ⟨List.mem_append_right _ (List.mem_of_getElem? (i := 977) (by decide +kernel)), rfl⟩
theorem kD_X6_read : Cond.code yX6_read cX6_read 3 (some .int) ∈ zG := List.mem_filter.mpr ⟨List.mem_append_right _ (List.mem_of_getElem? (i := 978) (by decide +kernel)), rfl⟩
theorem kM_L_154 : Cond.methodLink RL 154 yX6_image ∈ zG := List.mem_filter.mpr ⟨List.mem_append_right _ (List.mem_of_getElem? (i := 979) (by decide +kernel)), rfl⟩
theorem kI_X6_image : Cond.instanceMethod yX6_image ∈ zG := List.mem_filter.mpr ⟨List.mem_append_right _ (List.mem_of_getElem? (i := 980) (by decide +kernel)), rfl⟩
theorem kS_X6_image : Cond.selects RX6 yX6_image yX6_image ∈ zG := List.mem_filter.mpr ⟨List.mem_append_right _ (List.mem_of_getElem? (i := 981) (by decide +kernel)), rfl⟩
theorem kD_X6_image : Cond.code yX6_image cX6_image 1 (some .int) ∈ zG := List.mem_filter.mpr ⟨List.mem_append_right _ (List.mem_of_getElem? (i := 982) (by decide +kernel)), rfl⟩
theorem kM_L_158 : Cond.methodLink RL 158 yX6_undo ∈ zG := List.mem_filter.mpr ⟨List.mem_append_right _ (List.mem_of_getElem? (i := 983) (by decide +kernel)), rfl⟩
theorem kI_X6_undo : Cond.instanceMethod yX6_undo ∈ zG := List.mem_filter.mpr ⟨List.mem_append_right _ (List.mem_of_getElem? (i := 984) (by decide +kernel)), rfl⟩
theorem kS_X6_undo : Cond.selects RX6 yX6_undo yX6_undo ∈ zG := List.mem_filter.mpr ⟨List.mem_append_right _ (List.mem_of_getElem? (i := 985) (by decide +kernel)), rfl⟩
theorem kD_X6_undo : Cond.code yX6_undo cX6_undo 1 (some .int) ∈ zG := List.mem_filter.mpr ⟨List.mem_append_right _ (List.mem_of_getElem? (i := 986) (by decide +kernel)), rfl⟩
theorem kM_L_162 : Cond.methodLink RL 162 yX6_tear ∈ zG := List.mem_filter.mpr ⟨List.mem_append_right _ (List.mem_of_getElem? (i := 987) (by decide +kernel)), rfl⟩
theorem kI_X6_tear : Cond.instanceMethod yX6_tear ∈ zG := List.mem_filter.mpr ⟨List.mem_append_right _ (List.mem_of_getElem? (i := 988) (by decide +kernel)), rfl⟩
theorem kS_X6_tear : Cond.selects RX6 yX6_tear yX6_tear ∈ zG := List.mem_filter.mpr ⟨List.mem_append_right _ (List.mem_of_getElem? (i := 989) (by decide +kernel)), rfl⟩
theorem kD_X6_tear : Cond.code yX6_tear cX6_tear 2 (some .int) ∈ zG := List.mem_filter.mpr ⟨List.mem_append_right _ (List.mem_of_getElem? (i := 990) (by decide +kernel)), rfl⟩
theorem kM_L_166 : Cond.methodLink RL 166 yX6_count ∈ zG := List.mem_filter.mpr ⟨List.mem_append_right _ (List.mem_of_getElem? (i := 991) (by decide +kernel)), rfl⟩
theorem kI_X6_count : Cond.instanceMethod yX6_count ∈ zG := List.mem_filter.mpr ⟨List.mem_append_right _ (List.mem_of_getElem? (i := 992) (by decide +kernel)), rfl⟩
theorem kS_X6_count : Cond.selects RX6 yX6_count yX6_count ∈ zG := List.mem_filter.mpr ⟨List.mem_append_right _ (List.mem_of_getElem? (i := 993) (by decide +kernel)), rfl⟩
theorem kD_X6_count : Cond.code yX6_count cX6_count 2 (some .int) ∈ zG := List.mem_filter.mpr ⟨List.mem_append_right _ (List.mem_of_getElem? (i := 994) (by decide +kernel)), rfl⟩
theorem kM_L_170 : Cond.methodLink RL 170 yX6_status ∈ zG := List.mem_filter.mpr ⟨List.mem_append_right _ (List.mem_of_getElem? (i := 995) (by decide +kernel)), rfl⟩
theorem kI_X6_status : Cond.instanceMethod yX6_status ∈ zG := List.mem_filter.mpr ⟨List.mem_append_right _ (List.mem_of_getElem? (i := 996) (by decide +kernel)), rfl⟩
theorem kS_X6_status : Cond.selects RX6 yX6_status yX6_status ∈ zG := List.mem_filter.mpr ⟨List.mem_append_right _ (List.mem_of_getElem? (i := 997) (by decide +kernel)), rfl⟩
theorem kD_X6_status : Cond.code yX6_status cX6_status 4 (some .int) ∈ zG := List.mem_filter.mpr ⟨List.mem_append_right _ (List.mem_of_getElem? (i := 998) (by decide +kernel)), rfl⟩
theorem kK_L_131 : Cond.constantLong RL 131 (4294967295 : Int64) ∈ zG := List.mem_filter.mpr ⟨List.mem_append_right _ (List.mem_of_getElem? (i := 999) (by decide +kernel)), rfl⟩
theorem kS_X5_finding : Cond.selects RX5 yX5_finding yX5_finding ∈ zG := List.mem_filter.mpr ⟨List.mem_append_left _ (List.mem_of_getElem? (i := 0) (by decide +kernel)), rfl⟩
theorem kS_X4_readAll : Cond.selects RX4 yX4_readAll yX4_readAll ∈ zG := List.mem_filter.mpr ⟨List.mem_append_left _ (List.mem_of_getElem? (i := 1) (by decide +kernel)), rfl⟩
theorem kS_X4_sum : Cond.selects RX4 yX4_sum yX4_sum ∈ zG := List.mem_filter.mpr ⟨List.mem_append_left _ (List.mem_of_getElem? (i := 2) (by decide +kernel)), rfl⟩
theorem kS_X4_product : Cond.selects RX4 yX4_product yX4_product ∈ zG := List.mem_filter.mpr ⟨List.mem_append_left _ (List.mem_of_getElem? (i := 3) (by decide +kernel)), rfl⟩
theorem kS_X4_factor : Cond.selects RX4 yX4_factor yX4_factor ∈ zG := List.mem_filter.mpr ⟨List.mem_append_left _ (List.mem_of_getElem? (i := 4) (by decide +kernel)), rfl⟩
theorem kS_X4_pass : Cond.selects RX4 yX4_pass yX4_pass ∈ zG := List.mem_filter.mpr ⟨List.mem_append_left _ (List.mem_of_getElem? (i := 5) (by decide +kernel)), rfl⟩
theorem kS_X4_named : Cond.selects RX4 yX4_named yX4_named ∈ zG := List.mem_filter.mpr ⟨List.mem_append_left _ (List.mem_of_getElem? (i := 6) (by decide +kernel)), rfl⟩
theorem kS_X2_round : Cond.selects RX2 yX2_round yX2_round ∈ zG := List.mem_filter.mpr ⟨List.mem_append_left _ (List.mem_of_getElem? (i := 7) (by decide +kernel)), rfl⟩
theorem kS_X6_no : Cond.selects RX6 yX6_no yX6_no ∈ zG := List.mem_filter.mpr ⟨List.mem_append_left _ (List.mem_of_getElem? (i := 8) (by decide +kernel)), rfl⟩
theorem kS_X6_become : Cond.selects RX6 yX6_become yX6_become ∈ zG := List.mem_filter.mpr ⟨List.mem_append_left _ (List.mem_of_getElem? (i := 9) (by decide +kernel)), rfl⟩
theorem kS_X6_at : Cond.selects RX6 yX6_at yX6_at ∈ zG := List.mem_filter.mpr ⟨List.mem_append_left _ (List.mem_of_getElem? (i := 10) (by decide +kernel)), rfl⟩
theorem kS_X6_isBlock : Cond.selects RX6 yX6_isBlock yX6_isBlock ∈ zG := List.mem_filter.mpr ⟨List.mem_append_left _ (List.mem_of_getElem? (i := 11) (by decide +kernel)), rfl⟩
theorem kS_X6_pull : Cond.selects RX6 yX6_pull yX6_pull ∈ zG := List.mem_filter.mpr ⟨List.mem_append_left _ (List.mem_of_getElem? (i := 12) (by decide +kernel)), rfl⟩
theorem kS_X6_placeOf : Cond.selects RX6 yX6_placeOf yX6_placeOf ∈ zG := List.mem_filter.mpr ⟨List.mem_append_left _ (List.mem_of_getElem? (i := 13) (by decide +kernel)), rfl⟩
theorem kS_X6_isLast : Cond.selects RX6 yX6_isLast yX6_isLast ∈ zG := List.mem_filter.mpr ⟨List.mem_append_left _ (List.mem_of_getElem? (i := 14) (by decide +kernel)), rfl⟩
theorem kS_X6_holdsOf : Cond.selects RX6 yX6_holdsOf yX6_holdsOf ∈ zG := List.mem_filter.mpr ⟨List.mem_append_left _ (List.mem_of_getElem? (i := 15) (by decide +kernel)), rfl⟩
theorem kS_X6_plainHolds : Cond.selects RX6 yX6_plainHolds yX6_plainHolds ∈ zG := List.mem_filter.mpr ⟨List.mem_append_left _ (List.mem_of_getElem? (i := 16) (by decide +kernel)), rfl⟩
theorem kS_X6_given : Cond.selects RX6 yX6_given yX6_given ∈ zG := List.mem_filter.mpr ⟨List.mem_append_left _ (List.mem_of_getElem? (i := 17) (by decide +kernel)), rfl⟩
theorem kS_X6_worthOf : Cond.selects RX6 yX6_worthOf yX6_worthOf ∈ zG := List.mem_filter.mpr ⟨List.mem_append_left _ (List.mem_of_getElem? (i := 18) (by decide +kernel)), rfl⟩
theorem kS_X6_rubsOf : Cond.selects RX6 yX6_rubsOf yX6_rubsOf ∈ zG := List.mem_filter.mpr ⟨List.mem_append_left _ (List.mem_of_getElem? (i := 19) (by decide +kernel)), rfl⟩
theorem kS_X6_tick : Cond.selects RX6 yX6_tick yX6_tick ∈ zG := List.mem_filter.mpr ⟨List.mem_append_left _ (List.mem_of_getElem? (i := 20) (by decide +kernel)), rfl⟩
theorem kS_X6_round : Cond.selects RX6 yX6_round yX6_round ∈ zG := List.mem_filter.mpr ⟨List.mem_append_left _ (List.mem_of_getElem? (i := 21) (by decide +kernel)), rfl⟩
theorem kS_X6_stepsOf : Cond.selects RX6 yX6_stepsOf yX6_stepsOf ∈ zG := List.mem_filter.mpr ⟨List.mem_append_left _ (List.mem_of_getElem? (i := 22) (by decide +kernel)), rfl⟩
theorem kS_X6_springs : Cond.selects RX6 yX6_springs yX6_springs ∈ zG := List.mem_filter.mpr ⟨List.mem_append_left _ (List.mem_of_getElem? (i := 23) (by decide +kernel)), rfl⟩
theorem kS_X6_books : Cond.selects RX6 yX6_books yX6_books ∈ zG := List.mem_filter.mpr ⟨List.mem_append_left _ (List.mem_of_getElem? (i := 24) (by decide +kernel)), rfl⟩
theorem kS_X6_goes : Cond.selects RX6 yX6_goes yX6_goes ∈ zG := List.mem_filter.mpr ⟨List.mem_append_left _ (List.mem_of_getElem? (i := 25) (by decide +kernel)), rfl⟩
theorem kS_X6_jumps : Cond.selects RX6 yX6_jumps yX6_jumps ∈ zG := List.mem_filter.mpr ⟨List.mem_append_left _ (List.mem_of_getElem? (i := 26) (by decide +kernel)), rfl⟩
theorem kS_X6_greatest : Cond.selects RX6 yX6_greatest yX6_greatest ∈ zG := List.mem_filter.mpr ⟨List.mem_append_left _ (List.mem_of_getElem? (i := 27) (by decide +kernel)), rfl⟩
theorem kS_X6_leastSo : Cond.selects RX6 yX6_leastSo yX6_leastSo ∈ zG := List.mem_filter.mpr ⟨List.mem_append_left _ (List.mem_of_getElem? (i := 28) (by decide +kernel)), rfl⟩
theorem kS_X6_isSo : Cond.selects RX6 yX6_isSo yX6_isSo ∈ zG := List.mem_filter.mpr ⟨List.mem_append_left _ (List.mem_of_getElem? (i := 29) (by decide +kernel)), rfl⟩
theorem kS_X6_longOf : Cond.selects RX6 yX6_longOf yX6_longOf ∈ zG := List.mem_filter.mpr ⟨List.mem_append_left _ (List.mem_of_getElem? (i := 30) (by decide +kernel)), rfl⟩
theorem kS_X6_gives : Cond.selects RX6 yX6_gives yX6_gives ∈ zG := List.mem_filter.mpr ⟨List.mem_append_left _ (List.mem_of_getElem? (i := 31) (by decide +kernel)), rfl⟩
theorem kS_X6_sum : Cond.selects RX6 yX6_sum yX6_sum ∈ zG := List.mem_filter.mpr ⟨List.mem_append_left _ (List.mem_of_getElem? (i := 32) (by decide +kernel)), rfl⟩
theorem kS_X6_term : Cond.selects RX6 yX6_term yX6_term ∈ zG := List.mem_filter.mpr ⟨List.mem_append_left _ (List.mem_of_getElem? (i := 33) (by decide +kernel)), rfl⟩
theorem kS_X6_factor : Cond.selects RX6 yX6_factor yX6_factor ∈ zG := List.mem_filter.mpr ⟨List.mem_append_left _ (List.mem_of_getElem? (i := 34) (by decide +kernel)), rfl⟩
theorem kS_X6_byteAt : Cond.selects RX6 yX6_byteAt yX6_byteAt ∈ zG := List.mem_filter.mpr ⟨List.mem_append_left _ (List.mem_of_getElem? (i := 35) (by decide +kernel)), rfl⟩
theorem kS_X6_number : Cond.selects RX6 yX6_number yX6_number ∈ zG := List.mem_filter.mpr ⟨List.mem_append_left _ (List.mem_of_getElem? (i := 36) (by decide +kernel)), rfl⟩
theorem kS_X6_emit : Cond.selects RX6 yX6_emit yX6_emit ∈ zG := List.mem_filter.mpr ⟨List.mem_append_left _ (List.mem_of_getElem? (i := 37) (by decide +kernel)), rfl⟩
theorem kS_X6_opens : Cond.selects RX6 yX6_opens yX6_opens ∈ zG := List.mem_filter.mpr ⟨List.mem_append_left _ (List.mem_of_getElem? (i := 38) (by decide +kernel)), rfl⟩
theorem kS_X6_fails : Cond.selects RX6 yX6_fails yX6_fails ∈ zG := List.mem_filter.mpr ⟨List.mem_append_left _ (List.mem_of_getElem? (i := 39) (by decide +kernel)), rfl⟩
theorem kS_X6_must : Cond.selects RX6 yX6_must yX6_must ∈ zG := List.mem_filter.mpr ⟨List.mem_append_left _ (List.mem_of_getElem? (i := 40) (by decide +kernel)), rfl⟩
theorem kS_X6_may : Cond.selects RX6 yX6_may yX6_may ∈ zG := List.mem_filter.mpr ⟨List.mem_append_left _ (List.mem_of_getElem? (i := 41) (by decide +kernel)), rfl⟩
theorem kW_X0 : ∀ w ∈ wsX00, w ∈ zG := fun w h => List.mem_filter.mpr ⟨(by decide +kernel : ∀ w ∈ wsX00, w ∈ lw_tbl) w h, List.all_eq_true.mp (by decide +kernel : wsX00.all goodWord = true) w h⟩
theorem kW_X1 : ∀ w ∈ wsX10, w ∈ zG := fun w h => List.mem_filter.mpr ⟨(by decide +kernel : ∀ w ∈ wsX10, w ∈ lw_tbl) w h, List.all_eq_true.mp (by decide +kernel : wsX10.all goodWord = true) w h⟩
theorem kW_X2 : ∀ w ∈ wsX20, w ∈ zG := fun w h => List.mem_filter.mpr ⟨(by decide +kernel : ∀ w ∈ wsX20, w ∈ lw_tbl) w h, List.all_eq_true.mp (by decide +kernel : wsX20.all goodWord = true) w h⟩
theorem kW_X3 : ∀ w ∈ wsX30, w ∈ zG := fun w h => List.mem_filter.mpr ⟨(by decide +kernel : ∀ w ∈ wsX30, w ∈ lw_tbl) w h, List.all_eq_true.mp (by decide +kernel : wsX30.all goodWord = true) w h⟩
theorem kW_X4 : ∀ w ∈ wsX40, w ∈ zG := fun w h => List.mem_filter.mpr ⟨(by decide +kernel : ∀ w ∈ wsX40, w ∈ lw_tbl) w h, List.all_eq_true.mp (by decide +kernel : wsX40.all goodWord = true) w h⟩
theorem kW_X5 : ∀ w ∈ wsX50, w ∈ zG := fun w h => List.mem_filter.mpr ⟨(by decide +kernel : ∀ w ∈ wsX50, w ∈ lw_tbl) w h, List.all_eq_true.mp (by decide +kernel : wsX50.all goodWord = true) w h⟩
theorem kW_X6 : ∀ w ∈ wsX60, w ∈ zG := fun w h => List.mem_filter.mpr ⟨(by decide +kernel : ∀ w ∈ wsX60, w ∈ lw_tbl) w h, List.all_eq_true.mp (by decide +kernel : wsX60.all goodWord = true) w h⟩
/-- the words of nest mates: each about private members of another class of the same nest -/
def zNest : List Cond := [Cond.methodLinkNest RX2 29 yX4_init RX5,
  Cond.fieldLinkNest RX5 180 RX4 "bytes" "[I" RX5,
  Cond.fieldLinkNest RX2 71 RX4 "length" "I" RX5,
  Cond.fieldLinkNest RX5 179 RX4 "length" "I" RX5,
  Cond.methodLinkNest RX2 47 yX0_init RX5,
  Cond.fieldLinkNest RX5 82 RX0 "kind" "I" RX5,
  Cond.fieldLinkNest RX2 61 RX0 "kind" "I" RX5,
  Cond.fieldLinkNest RX5 85 RX0 "hold" "I" RX5,
  Cond.fieldLinkNest RX4 35 RX0 "hold" "I" RX5,
  Cond.fieldLinkNest RX2 72 RX0 "hold" "I" RX5,
  Cond.fieldLinkNest RX5 88 RX0 "go" "I" RX5,
  Cond.fieldLinkNest RX4 41 RX0 "go" "I" RX5,
  Cond.fieldLinkNest RX5 91 RX0 "stiff" "I" RX5,
  Cond.fieldLinkNest RX2 58 RX0 "stiff" "I" RX5,
  Cond.fieldLinkNest RX5 94 RX0 "drops" "I" RX5,
  Cond.fieldLinkNest RX4 48 RX0 "drops" "I" RX5,
  Cond.fieldLinkNest RX2 88 RX0 "drops" "I" RX5,
  Cond.fieldLinkNest RX5 97 RX0 "place" "I" RX5,
  Cond.fieldLinkNest RX2 55 RX0 "place" "I" RX5,
  Cond.fieldLinkNest RX5 100 RX0 "stood" "I" RX5,
  Cond.fieldLinkNest RX2 94 RX0 "stood" "I" RX5,
  Cond.fieldLinkNest RX2 114 RX0 "pull" "I" RX5,
  Cond.fieldLinkNest RX2 120 RX0 "steps" "I" RX5,
  Cond.fieldLinkNest RX5 68 RX2 "blocks" "[LDoorCreaks$Block;" RX5,
  Cond.fieldLinkNest RX5 63 RX2 "length" "I" RX5,
  Cond.fieldLinkNest RX5 229 RX2 "hand" "I" RX5,
  Cond.fieldLinkNest RX5 126 RX2 "pace" "I" RX5,
  Cond.fieldLinkNest RX5 187 RX2 "law" "LDoorCreaks$Text;" RX5,
  Cond.fieldLinkNest RX1 49 RX2 "size" "I" RX5,
  Cond.fieldLinkNest RX5 136 RX2 "size" "I" RX5,
  Cond.fieldLinkNest RX1 54 RX2 "wide" "I" RX5,
  Cond.fieldLinkNest RX5 176 RX2 "wide" "I" RX5,
  Cond.fieldLinkNest RX1 57 RX2 "noise" "I" RX5,
  Cond.fieldLinkNest RX5 162 RX2 "noise" "I" RX5,
  Cond.fieldLinkNest RX1 67 RX2 "chatters" "Z" RX5,
  Cond.methodLinkNest RX5 24 yX1_init RX5,
  Cond.fieldLinkNest RX5 140 RX1 "sizes" "[I" RX5,
  Cond.fieldLinkNest RX5 146 RX1 "wides" "[I" RX5,
  Cond.fieldLinkNest RX5 149 RX1 "noises" "[I" RX5,
  Cond.fieldLinkNest RX5 152 RX1 "classes" "[I" RX5,
  Cond.fieldLinkNest RX5 139 RX1 "length" "I" RX5,
  Cond.fieldLinkNest RX5 223 RX1 "ticks" "I" RX5,
  Cond.fieldLinkNest RX5 226 RX1 "chattered" "I" RX5,
  Cond.methodLinkNest RX5 38 yX4_init RX5,
  Cond.methodLinkNest RX5 53 yX3_init RX5,
  Cond.fieldLinkNest RX5 172 RX3 "numbers" "[J" RX5,
  Cond.fieldLinkNest RX5 204 RX3 "bits" "I" RX5,
  Cond.fieldLinkNest RX5 170 RX3 "length" "I" RX5]
theorem kN_X2_29 : Cond.methodLinkNest RX2 29 yX4_init RX5 ∈ zNest := List.mem_of_getElem? (i := 0) rfl
theorem kN_X5_180 : Cond.fieldLinkNest RX5 180 RX4 "bytes" "[I" RX5 ∈ zNest := List.mem_of_getElem? (i := 1) rfl
theorem kN_X2_71 : Cond.fieldLinkNest RX2 71 RX4 "length" "I" RX5 ∈ zNest := List.mem_of_getElem? (i := 2) rfl
theorem kN_X5_179 : Cond.fieldLinkNest RX5 179 RX4 "length" "I" RX5 ∈ zNest := List.mem_of_getElem? (i := 3) rfl
theorem kN_X2_47 : Cond.methodLinkNest RX2 47 yX0_init RX5 ∈ zNest := List.mem_of_getElem? (i := 4) rfl
theorem kN_X5_82 : Cond.fieldLinkNest RX5 82 RX0 "kind" "I" RX5 ∈ zNest := List.mem_of_getElem? (i := 5) rfl
theorem kN_X2_61 : Cond.fieldLinkNest RX2 61 RX0 "kind" "I" RX5 ∈ zNest := List.mem_of_getElem? (i := 6) rfl
theorem kN_X5_85 : Cond.fieldLinkNest RX5 85 RX0 "hold" "I" RX5 ∈ zNest := List.mem_of_getElem? (i := 7) rfl
theorem kN_X4_35 : Cond.fieldLinkNest RX4 35 RX0 "hold" "I" RX5 ∈ zNest := List.mem_of_getElem? (i := 8) rfl
theorem kN_X2_72 : Cond.fieldLinkNest RX2 72 RX0 "hold" "I" RX5 ∈ zNest := List.mem_of_getElem? (i := 9) rfl
theorem kN_X5_88 : Cond.fieldLinkNest RX5 88 RX0 "go" "I" RX5 ∈ zNest := List.mem_of_getElem? (i := 10) rfl
theorem kN_X4_41 : Cond.fieldLinkNest RX4 41 RX0 "go" "I" RX5 ∈ zNest := List.mem_of_getElem? (i := 11) rfl
theorem kN_X5_91 : Cond.fieldLinkNest RX5 91 RX0 "stiff" "I" RX5 ∈ zNest := List.mem_of_getElem? (i := 12) rfl
theorem kN_X2_58 : Cond.fieldLinkNest RX2 58 RX0 "stiff" "I" RX5 ∈ zNest := List.mem_of_getElem? (i := 13) rfl
theorem kN_X5_94 : Cond.fieldLinkNest RX5 94 RX0 "drops" "I" RX5 ∈ zNest := List.mem_of_getElem? (i := 14) rfl
theorem kN_X4_48 : Cond.fieldLinkNest RX4 48 RX0 "drops" "I" RX5 ∈ zNest := List.mem_of_getElem? (i := 15) rfl
theorem kN_X2_88 : Cond.fieldLinkNest RX2 88 RX0 "drops" "I" RX5 ∈ zNest := List.mem_of_getElem? (i := 16) rfl
theorem kN_X5_97 : Cond.fieldLinkNest RX5 97 RX0 "place" "I" RX5 ∈ zNest := List.mem_of_getElem? (i := 17) rfl
theorem kN_X2_55 : Cond.fieldLinkNest RX2 55 RX0 "place" "I" RX5 ∈ zNest := List.mem_of_getElem? (i := 18) rfl
theorem kN_X5_100 : Cond.fieldLinkNest RX5 100 RX0 "stood" "I" RX5 ∈ zNest := List.mem_of_getElem? (i := 19) rfl
theorem kN_X2_94 : Cond.fieldLinkNest RX2 94 RX0 "stood" "I" RX5 ∈ zNest := List.mem_of_getElem? (i := 20) rfl
theorem kN_X2_114 : Cond.fieldLinkNest RX2 114 RX0 "pull" "I" RX5 ∈ zNest := List.mem_of_getElem? (i := 21) rfl
theorem kN_X2_120 : Cond.fieldLinkNest RX2 120 RX0 "steps" "I" RX5 ∈ zNest := List.mem_of_getElem? (i := 22) rfl
theorem kN_X5_68 : Cond.fieldLinkNest RX5 68 RX2 "blocks" "[LDoorCreaks$Block;" RX5 ∈ zNest := List.mem_of_getElem? (i := 23) rfl
theorem kN_X5_63 : Cond.fieldLinkNest RX5 63 RX2 "length" "I" RX5 ∈ zNest := List.mem_of_getElem? (i := 24) rfl
theorem kN_X5_229 : Cond.fieldLinkNest RX5 229 RX2 "hand" "I" RX5 ∈ zNest := List.mem_of_getElem? (i := 25) rfl
theorem kN_X5_126 : Cond.fieldLinkNest RX5 126 RX2 "pace" "I" RX5 ∈ zNest := List.mem_of_getElem? (i := 26) rfl
theorem kN_X5_187 : Cond.fieldLinkNest RX5 187 RX2 "law" "LDoorCreaks$Text;" RX5 ∈ zNest := List.mem_of_getElem? (i := 27) rfl
theorem kN_X1_49 : Cond.fieldLinkNest RX1 49 RX2 "size" "I" RX5 ∈ zNest := List.mem_of_getElem? (i := 28) rfl
theorem kN_X5_136 : Cond.fieldLinkNest RX5 136 RX2 "size" "I" RX5 ∈ zNest := List.mem_of_getElem? (i := 29) rfl
theorem kN_X1_54 : Cond.fieldLinkNest RX1 54 RX2 "wide" "I" RX5 ∈ zNest := List.mem_of_getElem? (i := 30) rfl
theorem kN_X5_176 : Cond.fieldLinkNest RX5 176 RX2 "wide" "I" RX5 ∈ zNest := List.mem_of_getElem? (i := 31) rfl
theorem kN_X1_57 : Cond.fieldLinkNest RX1 57 RX2 "noise" "I" RX5 ∈ zNest := List.mem_of_getElem? (i := 32) rfl
theorem kN_X5_162 : Cond.fieldLinkNest RX5 162 RX2 "noise" "I" RX5 ∈ zNest := List.mem_of_getElem? (i := 33) rfl
theorem kN_X1_67 : Cond.fieldLinkNest RX1 67 RX2 "chatters" "Z" RX5 ∈ zNest := List.mem_of_getElem? (i := 34) rfl
theorem kN_X5_24 : Cond.methodLinkNest RX5 24 yX1_init RX5 ∈ zNest := List.mem_of_getElem? (i := 35) rfl
theorem kN_X5_140 : Cond.fieldLinkNest RX5 140 RX1 "sizes" "[I" RX5 ∈ zNest := List.mem_of_getElem? (i := 36) rfl
theorem kN_X5_146 : Cond.fieldLinkNest RX5 146 RX1 "wides" "[I" RX5 ∈ zNest := List.mem_of_getElem? (i := 37) rfl
theorem kN_X5_149 : Cond.fieldLinkNest RX5 149 RX1 "noises" "[I" RX5 ∈ zNest := List.mem_of_getElem? (i := 38) rfl
theorem kN_X5_152 : Cond.fieldLinkNest RX5 152 RX1 "classes" "[I" RX5 ∈ zNest := List.mem_of_getElem? (i := 39) rfl
theorem kN_X5_139 : Cond.fieldLinkNest RX5 139 RX1 "length" "I" RX5 ∈ zNest := List.mem_of_getElem? (i := 40) rfl
theorem kN_X5_223 : Cond.fieldLinkNest RX5 223 RX1 "ticks" "I" RX5 ∈ zNest := List.mem_of_getElem? (i := 41) rfl
theorem kN_X5_226 : Cond.fieldLinkNest RX5 226 RX1 "chattered" "I" RX5 ∈ zNest := List.mem_of_getElem? (i := 42) rfl
theorem kN_X5_38 : Cond.methodLinkNest RX5 38 yX4_init RX5 ∈ zNest := List.mem_of_getElem? (i := 43) rfl
theorem kN_X5_53 : Cond.methodLinkNest RX5 53 yX3_init RX5 ∈ zNest := List.mem_of_getElem? (i := 44) rfl
theorem kN_X5_172 : Cond.fieldLinkNest RX5 172 RX3 "numbers" "[J" RX5 ∈ zNest := List.mem_of_getElem? (i := 45) rfl
theorem kN_X5_204 : Cond.fieldLinkNest RX5 204 RX3 "bits" "I" RX5 ∈ zNest := List.mem_of_getElem? (i := 46) rfl
theorem kN_X5_170 : Cond.fieldLinkNest RX5 170 RX3 "length" "I" RX5 ∈ zNest := List.mem_of_getElem? (i := 47) rfl
theorem zNest_tbl : ∀ w ∈ zNest, w ∈ lw_tbl := by decide +kernel
def zIsN : Cond → Bool := fun w => match w with
  | .fieldLinkNest .. => true
  | .methodLinkNest .. => true
  | _ => false
theorem zNest_is : ∀ w ∈ zNest, zIsN w = true := fun w h => List.all_eq_true.mp (by decide +kernel : zNest.all zIsN = true) w h
end
section
/-! memory of ints and longs by cell and place; a layout says which cells there are, of which kind, which fields are references, how long arrays are -/
abbrev zM : Type := (Nat → Nat → Int32) × (Nat → Nat → Int64)
def zrI (M : zM) (c : Nat) (f : Nat → Int32) : zM := (va_up M.1 c f, M.2)
def zrL (M : zM) (c : Nat) (f : Nat → Int64) : zM := (M.1, va_up M.2 c f)
def zpI (M : zM) (c k : Nat) (v : Int32) : zM := zrI M c (upd (M.1 c) k v)
def zpL (M : zM) (c k : Nat) (v : Int64) : zM := zrL M c (vp_updL (M.2 c) k v)
abbrev zLy : Type := Nat × (Nat → Nat) × (Nat → Nat → Nat → Option Nat) × (Nat → Nat) × (Nat → Nat → Nat → Option (Int32 × Int32))
def zNf (κ : Nat) : Nat := match κ with
  | 0 => 11
  | 1 => 8
  | 2 => 9
  | 3 => 3
  | 4 => 11
  | 5 => 9
  | _ => 25
def zV (ly : zLy) (ad : Nat → Nat) (M : zM) (κ c k : Nat) : Value := match ly.2.2.1 κ c k with
  | some t => .ref (ad t)
  | none => .int (M.1 c k)
def zFs (ly : zLy) (ad : Nat → Nat) (M : zM) (κ c N : Nat) : List Value := (List.range N).map (zV ly ad M κ c)
def zE (ly : zLy) (cy : Nat → ClassId) (ad : Nat → Nat) (M : zM) (c : Nat) : va_E :=
  if ly.2.1 c < 7 then .inr (ly.2.1 c, zFs ly ad M (ly.2.1 c) c (zNf (ly.2.1 c)))
  else if ly.2.1 c = 7 then .inl (cy 7, ly.2.2.2.1 c, .inl (M.1 c))
  else if ly.2.1 c = 8 then .inl (cy 8, ly.2.2.2.1 c, .inr (.inl (M.2 c)))
  else .inl (cy (ly.2.1 c), ly.2.2.2.1 c, .inr (.inr (.inr (.inr (fun k => (ly.2.2.1 (ly.2.1 c) c k).map ad)))))
def zC (ly : zLy) (cy : Nat → ClassId) (ad : Nat → Nat) (M : zM) : va_W := (List.range ly.1).map (fun c => (ad c, zE ly cy ad M c))
def zA (ly : zLy) (ad : Nat → Nat) : Nat → Prop := fun q => ∃ c, c < ly.1 ∧ q = ad c
def zT (cy : Nat → ClassId) : List (ClassId × FieldType) := [(cy 7, .int), (cy 8, .long), (cy 9, .object RX0), (cy 10, .object RX3)]
def zIs (ly : zLy) (c κ : Nat) : Prop := c < ly.1 ∧ ly.2.1 c = κ
/-- the bounds that the layout tells of some places hold -/
def zIv (ly : zLy) (M : zM) : Prop := ∀ c, c < ly.1 → ∀ (k : Nat) (lo hi : Int32), ly.2.2.2.2 (ly.2.1 c) c k = some (lo, hi) → lo ≤ M.1 c k ∧ M.1 c k ≤ hi
/-- what may stand at a place -/
def zFit (o : Option (Int32 × Int32)) (v : Int32) : Prop := ∀ lo hi : Int32, o = some (lo, hi) → lo ≤ v ∧ v ≤ hi
theorem zcn {v : Int32} : zFit none v := fun _ _ h => by cases h
theorem zcs {lo hi v : Int32} (h : lo ≤ v ∧ v ≤ hi) : zFit (some (lo, hi)) v := fun _ _ e => by cases e; exact h
theorem zIv.put {ly : zLy} {M : zM} {c κ k : Nat} {v : Int32} (h : zIv ly M) (hi : zIs ly c κ) (hf : zFit (ly.2.2.2.2 κ c k) v) : zIv ly (zpI M c k v) := by
  intro a ha j lo hi' e
  by_cases hac : a = c
  · subst hac
    by_cases hjk : j = k
    · subst hjk
      rw [hi.2] at e
      have : (zpI M a j v).1 a j = v := by simp [zpI, zrI, va_up, upd]
      rw [this]
      exact hf lo hi' e
    · have : (zpI M a k v).1 a j = M.1 a j := by simp [zpI, zrI, va_up, upd, hjk]
      rw [this]
      exact h a ha j lo hi' e
  · have : (zpI M c k v).1 a j = M.1 a j := by simp [zpI, zrI, va_up, hac]
    rw [this]
    exact h a ha j lo hi' e
theorem zIv.row {ly : zLy} {M : zM} {c κ : Nat} {f : Nat → Int32} (h : zIv ly M) (hi : zIs ly c κ) (hf : ∀ k, zFit (ly.2.2.2.2 κ c k) (f k)) : zIv ly (zrI M c f) := by
  intro a ha j lo hi' e
  by_cases hac : a = c
  · subst hac
    rw [hi.2] at e
    have : (zrI M a f).1 a j = f j := by simp [zrI, va_up]
    rw [this]
    exact hf j lo hi' e
  · have : (zrI M c f).1 a j = M.1 a j := by simp [zrI, va_up, hac]
    rw [this]
    exact h a ha j lo hi' e
theorem zC_at {ly : zLy} {cy : Nat → ClassId} {ad : Nat → Nat} {M : zM} {c : Nat} (h : c < ly.1) : (zC ly cy ad M)[c]? = some (ad c, zE ly cy ad M c) := by
  simp [zC, h]
theorem zC_inv {ly : zLy} {cy : Nat → ClassId} {ad : Nat → Nat} {M : zM} {k : Nat} {q : Nat × va_E} (h : (zC ly cy ad M)[k]? = some q) : k < ly.1 ∧ q = (ad k, zE ly cy ad M k) := by
  have hk : k < ly.1 := by
    have := (List.getElem?_eq_some_iff.mp h).1
    simpa [zC] using this
  rw [zC_at hk] at h
  exact ⟨hk, (Option.some.inj h).symm⟩
theorem zE_congr {ly : zLy} {cy : Nat → ClassId} {ad : Nat → Nat} {M M' : zM} {c : Nat} (h1 : M'.1 c = M.1 c) (h2 : M'.2 c = M.2 c) : zE ly cy ad M' c = zE ly cy ad M c := by
  have h : zV ly ad M' (ly.2.1 c) c = zV ly ad M (ly.2.1 c) c := by
    funext k
    unfold zV
    rw [h1]
  unfold zE zFs
  rw [h, h1, h2]
theorem zC_set {ly : zLy} {cy : Nat → ClassId} {ad : Nat → Nat} {M M' : zM} {c : Nat} (hc : c < ly.1) (h1 : ∀ a, a ≠ c → M'.1 a = M.1 a) (h2 : ∀ a, a ≠ c → M'.2 a = M.2 a) : (zC ly cy ad M).set c (ad c, zE ly cy ad M' c) = zC ly cy ad M' := by
  apply List.ext_getElem?
  intro j
  have hlen : c < (zC ly cy ad M).length := by simpa [zC] using hc
  by_cases hj : j = c
  · subst hj
    rw [List.getElem?_set_self hlen, zC_at hc]
  · rw [List.getElem?_set_ne (Ne.symm hj)]
    by_cases hl : j < ly.1
    · rw [zC_at hl, zC_at hl, zE_congr (h1 j hj) (h2 j hj)]
    · rw [List.getElem?_eq_none (by simp [zC]; omega), List.getElem?_eq_none (by simp [zC]; omega)]
theorem zD_any {ly : zLy} {cy : Nat → ClassId} {ad : Nat → Nat} {M M' : zM} {A : Nat → Prop} (h : va_D A (zC ly cy ad M)) : va_D A (zC ly cy ad M') := by
  refine ⟨fun i j p q hi hj hpq => ?_, fun k q hk => ?_⟩
  · obtain ⟨li, rfl⟩ := zC_inv hi
    obtain ⟨lj, rfl⟩ := zC_inv hj
    exact h.1 i j _ _ (zC_at li) (zC_at lj) hpq
  · obtain ⟨lk, rfl⟩ := zC_inv hk
    exact h.2 k (ad k, zE ly cy ad M k) (zC_at lk)
theorem zE_obj {ly : zLy} {cy : Nat → ClassId} {ad : Nat → Nat} {M : zM} {c κ N : Nat} (hkd : ly.2.1 c = κ) (hlt : κ < 7) (hN : zNf κ = N) : zE ly cy ad M c = .inr (κ, zFs ly ad M κ c N) := by
  subst hkd; subst hN
  unfold zE
  rw [if_pos hlt]
theorem zE_ints {ly : zLy} {cy : Nat → ClassId} {ad : Nat → Nat} {M : zM} {c n : Nat} (hkd : ly.2.1 c = 7) (hn : ly.2.2.2.1 c = n) : zE ly cy ad M c = .inl (cy 7, n, .inl (M.1 c)) := by
  subst hn
  unfold zE
  rw [hkd]
  rfl
theorem zE_longs {ly : zLy} {cy : Nat → ClassId} {ad : Nat → Nat} {M : zM} {c n : Nat} (hkd : ly.2.1 c = 8) (hn : ly.2.2.2.1 c = n) : zE ly cy ad M c = .inl (cy 8, n, .inr (.inl (M.2 c))) := by
  subst hn
  unfold zE
  rw [hkd]
  rfl
theorem zE_refs {ly : zLy} {cy : Nat → ClassId} {ad : Nat → Nat} {M : zM} {c n κ : Nat} (hκ : κ = 9 ∨ κ = 10) (hkd : ly.2.1 c = κ) (hn : ly.2.2.2.1 c = n) : zE ly cy ad M c = .inl (cy κ, n, .inr (.inr (.inr (.inr (fun k => (ly.2.2.1 κ c k).map ad))))) := by
  subst hn; subst hkd
  unfold zE
  rcases hκ with h | h <;> rw [h] <;> rfl
theorem zFs_int {ly : zLy} {ad : Nat → Nat} {M : zM} {κ c N k : Nat} (hk : k < N) (hr : ly.2.2.1 κ c k = none) : (zFs ly ad M κ c N)[k]? = some (.int (M.1 c k)) := by
  simp [zFs, hk, zV, hr]
theorem zFs_ref {ly : zLy} {ad : Nat → Nat} {M : zM} {κ c N k t : Nat} (hk : k < N) (hr : ly.2.2.1 κ c k = some t) : (zFs ly ad M κ c N)[k]? = some (.ref (ad t)) := by
  simp [zFs, hk, zV, hr]
theorem zFs_set {ly : zLy} {ad : Nat → Nat} {M : zM} {κ c N k : Nat} {v : Int32} (hr : ly.2.2.1 κ c k = none) : (zFs ly ad M κ c N).set k (.int v) = zFs ly ad (zpI M c k v) κ c N := by
  apply List.ext_getElem?
  intro j
  by_cases hj : j < N
  · by_cases hjk : j = k
    · subst hjk
      rw [List.getElem?_set_self (by simpa [zFs] using hj)]
      rw [zFs_int hj hr]
      simp [zpI, zrI, va_up, upd]
    · rw [List.getElem?_set_ne (Ne.symm hjk)]
      simp only [zFs, List.getElem?_map, List.getElem?_range hj, Option.map_some]
      unfold zV
      cases ly.2.2.1 κ c j with
      | some t => rfl
      | none => simp [zpI, zrI, va_up, upd, hjk]
  · rw [List.getElem?_eq_none (by simp [zFs]; omega), List.getElem?_eq_none (by simp [zFs]; omega)]
/-- the nest mates' words hold -/
def zNw (U : State) : Prop := ∀ w ∈ zNest, va_Nw w U
theorem zNw.same {u U : State} (h : u.vm = U.vm) (hZ : zNw u) : zNw U := fun w hw => va_Nw.same (List.all_eq_true.mp (by decide +kernel : zNest.all Cond.onTables = true) w hw) h (hZ w hw)
theorem zNw.warm {s U : State} (hW : s.WarmedH U.vm) (hZ : zNw s) : zNw U := fun w hw => by
  have h1 := zNest_is w hw
  have h2 := hZ w hw
  cases w with
  | fieldLinkNest a i b n d h => exact va_Nw.warmF hW h2
  | methodLinkNest a i x h => exact va_Nw.warmM hW h2
  | _ => exact absurd h1 (by simp [zIsN])
/-- the class's table of kinds, at the start and ever since: nobody writes it -/
def zUnI (j : Nat) : Int32 := match j with
  | 0 => -1
  | 1 => 0
  | 2 => 0
  | 3 => 0
  | 4 => 1
  | _ => 2
def zSt (ly : zLy) (ad : Nat → Nat) (U : State) (H : Heap) : Prop := ∃ t : Nat, va_Z RX5 "UNDER" "[I" (.ref t) (zA ly ad) U H ∧ va_T .int t 6 (fun j => .int (zUnI j)) (zA ly ad) U H
theorem zSt.to {ly : zLy} {ad : Nat → Nat} {u U : State} {H H1 : Heap} (h : zSt ly ad u H) (hvm : u.vm.Alike U.vm) (hq : ∀ a : Nat, a < H.size → ¬ zA ly ad a → H1[a]? = H[a]?) : zSt ly ad U H1 := by
  obtain ⟨t, h1, h2⟩ := h
  exact ⟨t, (h1.moved hvm).kept hq, (h2.moved hvm).kept hq⟩
/-- the world of a layout, in a heap, since a start -/
def zH (D : va_G) (ly : zLy) (cy : Nat → ClassId) (ad : Nat → Nat) (H0 : Heap) (M : zM) (H : Heap) (locs : List Loc) : Prop := va_P D vwCl (zC ly cy ad M) H ∧ va_D (zA ly ad) (zC ly cy ad M) ∧ va_S (zA ly ad) H0 H locs ∧ zIv ly M
/-- what stays in a method -/
def zF (ly : zLy) (ad : Nat → Nat) (p : Program) (m : MethodId) (c : Code) (cc : ByteArray) (nL : Nat) (s : State) (args : Array Value) (own : String) (cw : Cond) (D : va_G) (cy : Nat → ClassId) (meth : Method) (ret : Option FieldType) : Prop :=
  CallFix p m c cc nL s args (cw :: zG) own ∧ va_K D vwCl (zT cy) s ∧ zNw s ∧ meth.sig.returnType = ret ∧ meth.locks = false ∧ zSt ly ad s s.heap
def zP (D : va_G) (ly : zLy) (cy : Nat → ClassId) (ad : Nat → Nat) (vals : List Value) (M : zM) : Array Value → State → Prop :=
  va_Pc vals (fun U => va_P D vwCl (zC ly cy ad M) U.heap ∧ va_K D vwCl (zT cy) U ∧ va_D (zA ly ad) (zC ly cy ad M) ∧ zNw U ∧ zSt ly ad U U.heap ∧ zIv ly M)
def zQi (D : va_G) (ly : zLy) (cy : Nat → ClassId) (ad : Nat → Nat) (v : Int32) (M : zM) : Array Value → State → Outcome → State → Prop := va_Qi (S := Unit) (fun x _ => x = v) (fun _ t => va_P D vwCl (zC ly cy ad M) t.heap ∧ zIv ly M) (zA ly ad)
def zQz (D : va_G) (ly : zLy) (cy : Nat → ClassId) (ad : Nat → Nat) (v : Int32) (M : zM) : Array Value → State → Outcome → State → Prop := va_Qi (S := Unit) (fun x _ => x = v ∧ (v = 0 ∨ v = 1)) (fun _ t => va_P D vwCl (zC ly cy ad M) t.heap ∧ zIv ly M) (zA ly ad)
def zQl (D : va_G) (ly : zLy) (cy : Nat → ClassId) (ad : Nat → Nat) (v : Int64) (M : zM) : Array Value → State → Outcome → State → Prop := va_Ql (S := Unit) (fun x _ => x = v) (fun _ t => va_P D vwCl (zC ly cy ad M) t.heap ∧ zIv ly M) (zA ly ad)
def zQv (D : va_G) (ly : zLy) (cy : Nat → ClassId) (ad : Nat → Nat) (M : zM) : Array Value → State → Outcome → State → Prop := va_Qv (S := Unit) (fun _ => True) (fun _ t => va_P D vwCl (zC ly cy ad M) t.heap ∧ zIv ly M) (zA ly ad)
theorem zP_blind {D : va_G} {ly : zLy} {cy : Nat → ClassId} {ad : Nat → Nat} {vals : List Value} {M : zM} : FrameBlind (zP D ly cy ad vals M) := fun a U g mk q => by
  obtain ⟨h0, h1, h2, h3, h4, h5, h6⟩ := q
  exact ⟨h0, h1, va_K.moved (u := U) (U := U.calling g mk a) (Vm.Alike.refl U.vm) h2, h3, zNw.same (u := U) (U := U.calling g mk a) rfl h4, h5.to (u := U) (U := U.calling g mk a) (Vm.Alike.refl U.vm) (fun _ _ _ => rfl), h6⟩
theorem zMet {l : Launch} {y : MethodName} {cc : ByteArray} {maxL : Nat} {ret : Option FieldType} {rm : Room} {D : va_G} {ly : zLy} {cy : Nat → ClassId} {ad : Nat → Nat} {vals : List Value} {M : zM} {Qc : Array Value → State → Outcome → State → Prop} (hy : plainName y.cls = true) (hle : (lg_sl vals).length ≤ maxL)
    (body : ∀ (p : Program) (e : Env) (s : State) (m : MethodId) (args : Array Value) (below : List Frame) (meth : Method) (c : Code) (ls : Array Slot), zF ly ad p m c cc maxL s args y.cls (Cond.code y cc maxL ret) D cy meth ret → zH D ly cy ad s.heap M s.heap [] → lv_has ls maxL (lv_args 0 vals) → W p l e rm s m args below meth c s.heap [] 0 0 (MQ below Qc args s 0 0 (zA ly ad)) (F0 m 0 ls [])) :
    Met l y (Cond.code y cc maxL ret :: zG) rm (zP D ly cy ad vals M) Qc 0 0 (zA ly ad) := by
  refine Met.ofW (cc := cc) (maxL := maxL) (ret := ret) hy rfl ?_
  intro p e s m args below meth c s₁ B hml hv
  obtain ⟨rfl, hP, hK, hD, hN, hU, hV⟩ := hv
  have hl := lv_entry vals (n := maxL) hle
  rw [lg_entry_eq]
  exact body p e s m _ below meth c _ ⟨⟨B.exec, B.bytes, hml, findClass_of_methodNamed B.named, atoms_spec (ws := Cond.code y cc maxL ret :: zG) B.pre⟩, hK, hN, B.returns, B.notSynchronized, hU⟩ ⟨hP, hD, va_S.rf, hV⟩ hl
/-- a class of the list, with all that is asked of it -/
def zCl (κ : Nat) (C : String) (T : u_T) (N : Nat) (ty : Nat → FieldType) : Prop := vwCl[κ]? = some (C, T, N) ∧ κ < 7 ∧ zNf κ = N ∧ (∀ w ∈ u_ws C T N, w ∈ zG) ∧ (∀ k, k < N → (T k).1 = C) ∧ (∀ k, k < N → parseFieldDescriptor (T k).2.2.1 = some (ty k)) ∧ (∀ a, a < N → ∀ b, b < N → a ≠ b → (T a).2.1 ≠ (T b).2.1)
theorem zK0 : zCl 0 RX0 TX0 11 tyX0 := ⟨rfl, by decide, rfl, kW_X0, by decide +kernel, tyX0_ok, nmX0⟩
theorem zK1 : zCl 1 RX1 TX1 8 tyX1 := ⟨rfl, by decide, rfl, kW_X1, by decide +kernel, tyX1_ok, nmX1⟩
theorem zK2 : zCl 2 RX2 TX2 9 tyX2 := ⟨rfl, by decide, rfl, kW_X2, by decide +kernel, tyX2_ok, nmX2⟩
theorem zK3 : zCl 3 RX3 TX3 3 tyX3 := ⟨rfl, by decide, rfl, kW_X3, by decide +kernel, tyX3_ok, nmX3⟩
theorem zK4 : zCl 4 RX4 TX4 11 tyX4 := ⟨rfl, by decide, rfl, kW_X4, by decide +kernel, tyX4_ok, nmX4⟩
theorem zK5 : zCl 5 RX5 TX5 9 tyX5 := ⟨rfl, by decide, rfl, kW_X5, by decide +kernel, tyX5_ok, nmX5⟩
theorem zK6 : zCl 6 RX6 TX6 25 tyX6 := ⟨rfl, by decide, rfl, kW_X6, by decide +kernel, tyX6_ok, nmX6⟩
section ZROWS
variable {p : Program} {l : Launch} {e : Env} {R : Room} {s : State} {m : MethodId} {args : Array Value} {below : List Frame} {meth : Method} {c : Code} {H : Heap} {locs : List Loc} {Q : State → Prop}
variable {cc : ByteArray} {nL pc : Nat} {ls : Array Slot} {rest : List Value} {own : String} {cw : Cond} {D : va_G} {cy : Nat → ClassId} {ret : Option FieldType} {ly : zLy} {ad : Nat → Nat} {M : zM}
theorem zgI (C0 : zF ly ad p m c cc nL s args own cw D cy meth ret) (hH : zH D ly cy ad s.heap M H locs) {κ N index : Nat} {C : String} {T : u_T} {ty : Nat → FieldType} (hC : zCl κ C T N ty) (k : Nat) (hk : k < N) {c0 : Nat} (hi : zIs ly c0 κ) (hr : ly.2.2.1 κ c0 k = none) (hlink : Cond.fieldLink own index C (T k).2.1 (T k).2.2.1 ∈ zG) (hdg : decode cc pc = .ok (.getfield index, 3))
    (kk : W p l e R s m args below meth c H locs 0 0 Q (F0 m (pc + 3) ls (.int (M.1 c0 k) :: rest))) : W p l e R s m args below meth c H locs 0 0 Q (F0 m pc ls (.ref (ad c0) :: rest)) := by
  obtain ⟨⟨hx, hb, hml, hown, hts⟩, hK, hN, -, -, -⟩ := C0
  obtain ⟨h1, h2, h3, h4, h5, h6, h7⟩ := hC
  exact va_get (ci := κ) (fs := zFs ly ad M κ c0 N) hx hb hts (fun w h => List.mem_cons_of_mem _ (h4 w h)) hown hK hH.1 c0 (by rw [zC_at hi.1, zE_obj hi.2 h2 h3]) h1 k hk (hts _ (List.mem_cons_of_mem _ hlink)) (by rw [h5 k hk]; exact fun _ h => h) (zFs_int hk hr) hdg kk
theorem zgR (C0 : zF ly ad p m c cc nL s args own cw D cy meth ret) (hH : zH D ly cy ad s.heap M H locs) {κ N index : Nat} {C : String} {T : u_T} {ty : Nat → FieldType} (hC : zCl κ C T N ty) (k : Nat) (hk : k < N) {c0 : Nat} (t : Nat) (hi : zIs ly c0 κ) (hr : ly.2.2.1 κ c0 k = some t) (hlink : Cond.fieldLink own index C (T k).2.1 (T k).2.2.1 ∈ zG) (hdg : decode cc pc = .ok (.getfield index, 3))
    (kk : W p l e R s m args below meth c H locs 0 0 Q (F0 m (pc + 3) ls (.ref (ad t) :: rest))) : W p l e R s m args below meth c H locs 0 0 Q (F0 m pc ls (.ref (ad c0) :: rest)) := by
  obtain ⟨⟨hx, hb, hml, hown, hts⟩, hK, hN, -, -, -⟩ := C0
  obtain ⟨h1, h2, h3, h4, h5, h6, h7⟩ := hC
  exact va_get (ci := κ) (fs := zFs ly ad M κ c0 N) hx hb hts (fun w h => List.mem_cons_of_mem _ (h4 w h)) hown hK hH.1 c0 (by rw [zC_at hi.1, zE_obj hi.2 h2 h3]) h1 k hk (hts _ (List.mem_cons_of_mem _ hlink)) (by rw [h5 k hk]; exact fun _ h => h) (zFs_ref hk hr) hdg kk
theorem zgIN (C0 : zF ly ad p m c cc nL s args own cw D cy meth ret) (hH : zH D ly cy ad s.heap M H locs) {κ N index : Nat} {C host : String} {T : u_T} {ty : Nat → FieldType} (hC : zCl κ C T N ty) (k : Nat) (hk : k < N) {c0 : Nat} (hi : zIs ly c0 κ) (hr : ly.2.2.1 κ c0 k = none) (hlink : Cond.fieldLinkNest own index C (T k).2.1 (T k).2.2.1 host ∈ zNest) (hdg : decode cc pc = .ok (.getfield index, 3))
    (kk : W p l e R s m args below meth c H locs 0 0 Q (F0 m (pc + 3) ls (.int (M.1 c0 k) :: rest))) : W p l e R s m args below meth c H locs 0 0 Q (F0 m pc ls (.ref (ad c0) :: rest)) := by
  obtain ⟨⟨hx, hb, hml, hown, hts⟩, hK, hN, -, -, -⟩ := C0
  obtain ⟨h1, h2, h3, h4, h5, h6, h7⟩ := hC
  exact va_getN (ci := κ) (fs := zFs ly ad M κ c0 N) hx hb hts (fun w h => List.mem_cons_of_mem _ (h4 w h)) hown hK hH.1 c0 (by rw [zC_at hi.1, zE_obj hi.2 h2 h3]) h1 k hk (va_Nw.use rfl (hN _ hlink)) (by rw [h5 k hk]; exact fun _ h => h) (zFs_int hk hr) hdg kk
theorem zgRN (C0 : zF ly ad p m c cc nL s args own cw D cy meth ret) (hH : zH D ly cy ad s.heap M H locs) {κ N index : Nat} {C host : String} {T : u_T} {ty : Nat → FieldType} (hC : zCl κ C T N ty) (k : Nat) (hk : k < N) {c0 : Nat} (t : Nat) (hi : zIs ly c0 κ) (hr : ly.2.2.1 κ c0 k = some t) (hlink : Cond.fieldLinkNest own index C (T k).2.1 (T k).2.2.1 host ∈ zNest) (hdg : decode cc pc = .ok (.getfield index, 3))
    (kk : W p l e R s m args below meth c H locs 0 0 Q (F0 m (pc + 3) ls (.ref (ad t) :: rest))) : W p l e R s m args below meth c H locs 0 0 Q (F0 m pc ls (.ref (ad c0) :: rest)) := by
  obtain ⟨⟨hx, hb, hml, hown, hts⟩, hK, hN, -, -, -⟩ := C0
  obtain ⟨h1, h2, h3, h4, h5, h6, h7⟩ := hC
  exact va_getN (ci := κ) (fs := zFs ly ad M κ c0 N) hx hb hts (fun w h => List.mem_cons_of_mem _ (h4 w h)) hown hK hH.1 c0 (by rw [zC_at hi.1, zE_obj hi.2 h2 h3]) h1 k hk (va_Nw.use rfl (hN _ hlink)) (by rw [h5 k hk]; exact fun _ h => h) (zFs_ref hk hr) hdg kk
theorem zH_put {D : va_G} {ly : zLy} {cy : Nat → ClassId} {ad : Nat → Nat} {M M' : zM} {H0 H1 : Heap} {locs1 : List Loc} {c0 : Nat} (hc : c0 < ly.1) (h1 : ∀ a, a ≠ c0 → M'.1 a = M.1 a) (h2 : ∀ a, a ≠ c0 → M'.2 a = M.2 a) {en : va_E} (he : en = zE ly cy ad M' c0)
    (hP : va_P D vwCl ((zC ly cy ad M).set c0 (ad c0, en)) H1) (hD : va_D (zA ly ad) ((zC ly cy ad M).set c0 (ad c0, en))) (hS : va_S (zA ly ad) H0 H1 locs1) (hV : zIv ly M') : zH D ly cy ad H0 M' H1 locs1 := by
  subst he
  rw [zC_set hc h1 h2] at hP hD
  exact ⟨hP, hD, hS, hV⟩
theorem zpI_ne {M : zM} {c k : Nat} {v : Int32} : (∀ a, a ≠ c → (zpI M c k v).1 a = M.1 a) ∧ (∀ a, a ≠ c → (zpI M c k v).2 a = M.2 a) := ⟨fun a h => by simp [zpI, zrI, va_up, h], fun a h => rfl⟩
theorem zpL_ne {M : zM} {c k : Nat} {v : Int64} : (∀ a, a ≠ c → (zpL M c k v).1 a = M.1 a) ∧ (∀ a, a ≠ c → (zpL M c k v).2 a = M.2 a) := ⟨fun a h => rfl, fun a h => by simp [zpL, zrL, va_up, h]⟩
theorem zrI_ne {M : zM} {c : Nat} {f : Nat → Int32} : (∀ a, a ≠ c → (zrI M c f).1 a = M.1 a) ∧ (∀ a, a ≠ c → (zrI M c f).2 a = M.2 a) := ⟨fun a h => by simp [zrI, va_up, h], fun a h => rfl⟩
theorem zrL_ne {M : zM} {c : Nat} {f : Nat → Int64} : (∀ a, a ≠ c → (zrL M c f).1 a = M.1 a) ∧ (∀ a, a ≠ c → (zrL M c f).2 a = M.2 a) := ⟨fun a h => rfl, fun a h => by simp [zrL, va_up, h]⟩
/-- what may be written into a field of that type as it is -/
def zOk (ty : FieldType) (v : Int32) : Prop := narrow ty (.int v) = .int v ∧ fits ty (.int v) = true
theorem zOk_int {v : Int32} : zOk .int v := ⟨rfl, rfl⟩
theorem zOk_01 {v : Int32} (h : v = 0 ∨ v = 1) : zOk .boolean v := by rcases h with rfl | rfl <;> exact ⟨by decide, by decide⟩
theorem zp (C0 : zF ly ad p m c cc nL s args own cw D cy meth ret) (hH : zH D ly cy ad s.heap M H locs) {κ N index : Nat} {C : String} {T : u_T} {ty : Nat → FieldType} (hC : zCl κ C T N ty) (k : Nat) (hk : k < N) {c0 : Nat} (hi : zIs ly c0 κ) (hr : ly.2.2.1 κ c0 k = none) (hfin : (T k).2.2.2 = false) {v : Int32} (hv : zOk (ty k) v) (hf : zFit (ly.2.2.2.2 κ c0 k) v) (hlink : Cond.fieldLink own index C (T k).2.1 (T k).2.2.1 ∈ zG) (hdg : decode cc pc = .ok (.putfield index, 3))
    (kk : ∀ (H1 : Heap) (locs1 : List Loc), zH D ly cy ad s.heap (zpI M c0 k v) H1 locs1 → W p l e R s m args below meth c H1 locs1 0 0 Q (F0 m (pc + 3) ls rest)) : W p l e R s m args below meth c H locs 0 0 Q (F0 m pc ls (.int v :: .ref (ad c0) :: rest)) := by
  obtain ⟨⟨hx, hb, hml, hown, hts⟩, hK, hN, -, -, -⟩ := C0
  obtain ⟨h1, h2, h3, h4, h5, h6, h7⟩ := hC
  refine va_put (ci := κ) (fs := zFs ly ad M κ c0 N) hx hb hts (fun w h => List.mem_cons_of_mem _ (h4 w h)) ty h6 h7 hown hK hH.1 hH.2.1 hH.2.2.1 c0 (by rw [zC_at hi.1, zE_obj hi.2 h2 h3]) h1 k hk (hts _ (List.mem_cons_of_mem _ hlink)) (by rw [h5 k hk]; exact fun _ h => h) hfin (h6 k hk) hv.1 hv.2 (by simpa [zFs] using hk) hdg (fun H1 locs1 hP hD hS => ?_)
  exact kk H1 locs1 (zH_put hi.1 zpI_ne.1 zpI_ne.2 (by rw [zE_obj hi.2 h2 h3, zFs_set hr]) hP hD hS (hH.2.2.2.put hi hf))
theorem zpN (C0 : zF ly ad p m c cc nL s args own cw D cy meth ret) (hH : zH D ly cy ad s.heap M H locs) {κ N index : Nat} {C host : String} {T : u_T} {ty : Nat → FieldType} (hC : zCl κ C T N ty) (k : Nat) (hk : k < N) {c0 : Nat} (hi : zIs ly c0 κ) (hr : ly.2.2.1 κ c0 k = none) (hfin : (T k).2.2.2 = false) {v : Int32} (hv : zOk (ty k) v) (hf : zFit (ly.2.2.2.2 κ c0 k) v) (hlink : Cond.fieldLinkNest own index C (T k).2.1 (T k).2.2.1 host ∈ zNest) (hdg : decode cc pc = .ok (.putfield index, 3))
    (kk : ∀ (H1 : Heap) (locs1 : List Loc), zH D ly cy ad s.heap (zpI M c0 k v) H1 locs1 → W p l e R s m args below meth c H1 locs1 0 0 Q (F0 m (pc + 3) ls rest)) : W p l e R s m args below meth c H locs 0 0 Q (F0 m pc ls (.int v :: .ref (ad c0) :: rest)) := by
  obtain ⟨⟨hx, hb, hml, hown, hts⟩, hK, hN, -, -, -⟩ := C0
  obtain ⟨h1, h2, h3, h4, h5, h6, h7⟩ := hC
  refine va_putN (ci := κ) (fs := zFs ly ad M κ c0 N) hx hb hts (fun w h => List.mem_cons_of_mem _ (h4 w h)) ty h6 h7 hown hK hH.1 hH.2.1 hH.2.2.1 c0 (by rw [zC_at hi.1, zE_obj hi.2 h2 h3]) h1 k hk (va_Nw.use rfl (hN _ hlink)) (by rw [h5 k hk]; exact fun _ h => h) hfin (h6 k hk) hv.1 hv.2 (by simpa [zFs] using hk) hdg (fun H1 locs1 hP hD hS => ?_)
  exact kk H1 locs1 (zH_put hi.1 zpI_ne.1 zpI_ne.2 (by rw [zE_obj hi.2 h2 h3, zFs_set hr]) hP hD hS (hH.2.2.2.put hi hf))
theorem zald (C0 : zF ly ad p m c cc nL s args own cw D cy meth ret) (hH : zH D ly cy ad s.heap M H locs) {c0 n : Nat} (hi : zIs ly c0 7) (hn : ly.2.2.2.1 c0 = n) {i : Int32} (hin : vp_in i n) (hdg : decode cc pc = .ok (.iaload, 1))
    (kk : W p l e R s m args below meth c H locs 0 0 Q (F0 m (pc + 1) ls (.int (M.1 c0 i.toNatClampNeg) :: rest))) : W p l e R s m args below meth c H locs 0 0 Q (F0 m pc ls (.int i :: .ref (ad c0) :: rest)) := by
  obtain ⟨⟨hx, hb, hml, hown, hts⟩, hK, hN, -, -, -⟩ := C0
  exact va_iald hx hb hK hH.1 c0 0 (by rw [zC_at hi.1, zE_ints hi.2 hn]) rfl hin hdg kk
theorem zlld (C0 : zF ly ad p m c cc nL s args own cw D cy meth ret) (hH : zH D ly cy ad s.heap M H locs) {c0 n : Nat} (hi : zIs ly c0 8) (hn : ly.2.2.2.1 c0 = n) {i : Int32} (hin : vp_in i n) (hdg : decode cc pc = .ok (.laload, 1))
    (kk : W p l e R s m args below meth c H locs 0 0 Q (F0 m (pc + 1) ls (.long (M.2 c0 i.toNatClampNeg) :: rest))) : W p l e R s m args below meth c H locs 0 0 Q (F0 m pc ls (.int i :: .ref (ad c0) :: rest)) := by
  obtain ⟨⟨hx, hb, hml, hown, hts⟩, hK, hN, -, -, -⟩ := C0
  exact va_lald hx hb hK hH.1 c0 1 (by rw [zC_at hi.1, zE_longs hi.2 hn]) rfl hin hdg kk
theorem zqld9 (C0 : zF ly ad p m c cc nL s args own cw D cy meth ret) (hH : zH D ly cy ad s.heap M H locs) {c0 n : Nat} (t : Nat) (hi : zIs ly c0 9) (hn : ly.2.2.2.1 c0 = n) {i : Int32} (hin : vp_in i n) (hr : ly.2.2.1 9 c0 i.toNatClampNeg = some t) (hdg : decode cc pc = .ok (.aaload, 1))
    (kk : W p l e R s m args below meth c H locs 0 0 Q (F0 m (pc + 1) ls (.ref (ad t) :: rest))) : W p l e R s m args below meth c H locs 0 0 Q (F0 m pc ls (.int i :: .ref (ad c0) :: rest)) := by
  obtain ⟨⟨hx, hb, hml, hown, hts⟩, hK, hN, -, -, -⟩ := C0
  refine va_aldq hx hb hK hH.1 c0 2 (by rw [zC_at hi.1, zE_refs (Or.inl rfl) hi.2 hn]) rfl hin hdg ?_
  rw [hr]
  exact kk
theorem zqld10 (C0 : zF ly ad p m c cc nL s args own cw D cy meth ret) (hH : zH D ly cy ad s.heap M H locs) {c0 n : Nat} (t : Nat) (hi : zIs ly c0 10) (hn : ly.2.2.2.1 c0 = n) {i : Int32} (hin : vp_in i n) (hr : ly.2.2.1 10 c0 i.toNatClampNeg = some t) (hdg : decode cc pc = .ok (.aaload, 1))
    (kk : W p l e R s m args below meth c H locs 0 0 Q (F0 m (pc + 1) ls (.ref (ad t) :: rest))) : W p l e R s m args below meth c H locs 0 0 Q (F0 m pc ls (.int i :: .ref (ad c0) :: rest)) := by
  obtain ⟨⟨hx, hb, hml, hown, hts⟩, hK, hN, -, -, -⟩ := C0
  refine va_aldq hx hb hK hH.1 c0 3 (by rw [zC_at hi.1, zE_refs (Or.inr rfl) hi.2 hn]) rfl hin hdg ?_
  rw [hr]
  exact kk
theorem zast (C0 : zF ly ad p m c cc nL s args own cw D cy meth ret) (hH : zH D ly cy ad s.heap M H locs) {c0 n : Nat} (hi : zIs ly c0 7) (hn : ly.2.2.2.1 c0 = n) {i x : Int32} (hin : vp_in i n) (hf : zFit (ly.2.2.2.2 7 c0 i.toNatClampNeg) x) (hdg : decode cc pc = .ok (.iastore, 1))
    (kk : ∀ (H1 : Heap) (locs1 : List Loc), zH D ly cy ad s.heap (zpI M c0 i.toNatClampNeg x) H1 locs1 → W p l e R s m args below meth c H1 locs1 0 0 Q (F0 m (pc + 1) ls rest)) : W p l e R s m args below meth c H locs 0 0 Q (F0 m pc ls (.int x :: .int i :: .ref (ad c0) :: rest)) := by
  obtain ⟨⟨hx, hb, hml, hown, hts⟩, hK, hN, -, -, -⟩ := C0
  refine va_iast hx hb hK hH.1 hH.2.1 hH.2.2.1 c0 0 (by rw [zC_at hi.1, zE_ints hi.2 hn]) rfl hin hdg (fun H1 locs1 hP hD hS => ?_)
  exact kk H1 locs1 (zH_put hi.1 zpI_ne.1 zpI_ne.2 (by rw [zE_ints hi.2 hn]; simp [zpI, zrI, va_up]) hP hD hS (hH.2.2.2.put hi hf))
theorem zlst (C0 : zF ly ad p m c cc nL s args own cw D cy meth ret) (hH : zH D ly cy ad s.heap M H locs) {c0 n : Nat} (hi : zIs ly c0 8) (hn : ly.2.2.2.1 c0 = n) {i : Int32} {x : Int64} (hin : vp_in i n) (hdg : decode cc pc = .ok (.lastore, 1))
    (kk : ∀ (H1 : Heap) (locs1 : List Loc), zH D ly cy ad s.heap (zpL M c0 i.toNatClampNeg x) H1 locs1 → W p l e R s m args below meth c H1 locs1 0 0 Q (F0 m (pc + 1) ls rest)) : W p l e R s m args below meth c H locs 0 0 Q (F0 m pc ls (.long x :: .int i :: .ref (ad c0) :: rest)) := by
  obtain ⟨⟨hx, hb, hml, hown, hts⟩, hK, hN, -, -, -⟩ := C0
  refine va_last hx hb hK hH.1 hH.2.1 hH.2.2.1 c0 1 (by rw [zC_at hi.1, zE_longs hi.2 hn]) rfl hin hdg (fun H1 locs1 hP hD hS => ?_)
  exact kk H1 locs1 (zH_put hi.1 zpL_ne.1 zpL_ne.2 (by rw [zE_longs hi.2 hn]; simp [zpL, zrL, va_up]) hP hD hS hH.2.2.2)
/-- what a callee's name needs of the tables -/
def zCal (C : String) (y : MethodName) (bytes : ByteArray) (maxL : Nat) (rt : Option FieldType) (n : Nat) : Prop := Cond.instanceMethod y ∈ zG ∧ Cond.selects C y y ∈ zG ∧ Cond.initialized C ∈ zG ∧ Cond.code y bytes maxL rt ∈ zG ∧ (y.cls = C ∧ y.cls ≠ "java/lang/invoke/MethodHandle" ∧ y.cls ≠ "java/lang/invoke/VarHandle" ∧ (parseMethodDescriptor y.desc).map (fun d => d.parameters.length) = some n)
def zCalS (y : MethodName) (bytes : ByteArray) (maxL : Nat) (rt : Option FieldType) (n : Nat) : Prop := Cond.static y ∈ zG ∧ Cond.initialized y.cls ∈ zG ∧ Cond.code y bytes maxL rt ∈ zG ∧ (y.cls ≠ "java/lang/invoke/MethodHandle" ∧ y.cls ≠ "java/lang/invoke/VarHandle" ∧ (parseMethodDescriptor y.desc).map (fun d => d.parameters.length) = some n)
theorem zGood {cw cw' : Cond} (h : cw' ∈ zG) : GoodIn (cw :: zG) (cw' :: zG) := fun w hw => by
  rcases List.mem_cons.mp hw with rfl | hw
  · exact ⟨List.mem_cons_of_mem _ h, good_of_word (zG_good _ h)⟩
  · exact ⟨List.mem_cons_of_mem _ hw, good_of_word (zG_good _ hw)⟩
theorem zrunV {y : MethodName} {bytes : ByteArray} {maxL n index : Nat} {rt : Option FieldType} {C : String} {rm : Room} {Qc : Array Value → State → Outcome → State → Prop} {As st0 : List Value} {c0 κ N : Nat} {T : u_T} {ty : Nat → FieldType} (C0 : zF ly ad p m c cc nL s args own cw D cy meth ret) (hH : zH D ly cy ad s.heap M H locs)
    (hM : Met l y (Cond.code y bytes maxL rt :: zG) rm (zP D ly cy ad (.ref (ad c0) :: As) M) Qc 0 0 (zA ly ad)) (hlink : Cond.methodLink own index y ∈ zG) (hC : zCl κ C T N ty) (hcal : zCal C y bytes maxL rt n) (hi : zIs ly c0 κ) (hn : As.length = n) (hsz : ls.size = nL) (hst : st0 = As.reverse ++ .ref (ad c0) :: rest) (hrc : rm.cells = 0) (hrs : rm.slots = 0) (hR : rm.frames + 1 ≤ R.frames ∧ 8 + (maxL + 11) + rm.locals ≤ R.locals) (hW : (rest.map fun v => v.category).sum ≤ 8) (hdg : decode cc pc = .ok (.invokevirtual index, 3)) :
    va_Run p l e R s m args below meth c H locs 0 0 0 0 (F0 m pc ls st0) rest (Qc (Value.ref (ad c0) :: As).toArray) (zA ly ad) := by
  obtain ⟨hfix, hK, hN, -, -, hUn⟩ := id C0
  obtain ⟨g2, g3, g4, g5, hd⟩ := hcal
  have hts := hfix.2.2.2.2
  have hin : ∀ w ∈ zG, w.before args s = true := fun w h => hts w (List.mem_cons_of_mem _ h)
  have hini : (Cond.initialized y.cls).before args s = true := by rw [hd.1]; exact hin _ g4
  subst hst
  exact va_runV (C := C) hfix hM ⟨callB_of n hts (zGood g5) rfl hrc hrs hini (hin _ hlink) hd.2 hR, hin _ g2, hin _ g3⟩
    ⟨zP_blind, va_recv hK hH.1 hC.1 (by rw [zC_at hi.1, zE_obj hi.2 hC.2.1 rfl]), fun U hU hW => ⟨rfl, by rw [hU]; exact hH.1, va_K.moved hW.alike hK, hH.2.1, zNw.warm hW hN, by rw [hU]; exact hUn.to hW.alike hH.2.2.1.2.1, hH.2.2.2⟩⟩
    rfl hn hsz rfl (lv_room hW) hdg ⟨Nat.zero_le _, Nat.zero_le _⟩
theorem zrunS {y : MethodName} {bytes : ByteArray} {maxL n index : Nat} {rt : Option FieldType} {rm : Room} {Qc : Array Value → State → Outcome → State → Prop} {As st0 : List Value} (C0 : zF ly ad p m c cc nL s args own cw D cy meth ret) (hH : zH D ly cy ad s.heap M H locs)
    (hM : Met l y (Cond.code y bytes maxL rt :: zG) rm (zP D ly cy ad As M) Qc 0 0 (zA ly ad)) (hlink : Cond.methodLink own index y ∈ zG) (hcal : zCalS y bytes maxL rt n) (hn : As.length = n) (hsz : ls.size = nL) (hst : st0 = As.reverse ++ rest) (hrc : rm.cells = 0) (hrs : rm.slots = 0) (hR : rm.frames + 1 ≤ R.frames ∧ 8 + (maxL + 11) + rm.locals ≤ R.locals) (hW : (rest.map fun v => v.category).sum ≤ 8) (hdg : decode cc pc = .ok (.invokestatic index, 3)) :
    va_Run p l e R s m args below meth c H locs 0 0 0 0 (F0 m pc ls st0) rest (Qc As.toArray) (zA ly ad) := by
  obtain ⟨hfix, hK, hN, -, -, hUn⟩ := id C0
  obtain ⟨g2, g4, g5, hd⟩ := hcal
  have hts := hfix.2.2.2.2
  have hin : ∀ w ∈ zG, w.before args s = true := fun w h => hts w (List.mem_cons_of_mem _ h)
  subst hst
  exact va_runS hfix hM ⟨callB_of n hts (zGood g5) rfl hrc hrs (hin _ g4) (hin _ hlink) hd hR, hin _ g2⟩
    ⟨zP_blind, fun U hU hW => ⟨rfl, by rw [hU]; exact hH.1, va_K.moved hW.alike hK, hH.2.1, zNw.warm hW hN, by rw [hU]; exact hUn.to hW.alike hH.2.2.1.2.1, hH.2.2.2⟩⟩
    rfl hn hsz rfl (lv_room hW) hdg ⟨Nat.zero_le _, Nat.zero_le _⟩
theorem zci {v : Int32} {M' : zM} {a : Array Value} {st0 : List Value} (hr : va_Run p l e R s m args below meth c H locs 0 0 0 0 (F0 m pc ls st0) rest (zQi D ly cy ad v M' a) (zA ly ad)) (hH : zH D ly cy ad s.heap M H locs)
    (kk : ∀ (H1 : Heap) (locs1 : List Loc), zH D ly cy ad s.heap M' H1 locs1 → W p l e R s m args below meth c H1 locs1 0 0 Q (F0 m (pc + 3) ls (.int v :: rest))) : W p l e R s m args below meth c H locs 0 0 Q (F0 m pc ls st0) := by
  refine va_calli hr hH.2.2.1 (fun _ _ h => h) (fun _ h => h) (fun r u t H1 locs1 ht hvm hp hb hz hk hS => ?_)
  subst hp
  exact kk H1 locs1 ⟨by rw [← ht]; exact hb.1, zD_any hH.2.1, hS, hb.2⟩
theorem zcz {v : Int32} {M' : zM} {a : Array Value} {st0 : List Value} (hr : va_Run p l e R s m args below meth c H locs 0 0 0 0 (F0 m pc ls st0) rest (zQz D ly cy ad v M' a) (zA ly ad)) (hH : zH D ly cy ad s.heap M H locs)
    (kk : ∀ (H1 : Heap) (locs1 : List Loc), zH D ly cy ad s.heap M' H1 locs1 → (v = 0 ∨ v = 1) → W p l e R s m args below meth c H1 locs1 0 0 Q (F0 m (pc + 3) ls (.int v :: rest))) : W p l e R s m args below meth c H locs 0 0 Q (F0 m pc ls st0) := by
  refine va_calli hr hH.2.2.1 (fun _ _ h => h) (fun _ h => h) (fun r u t H1 locs1 ht hvm hp hb hz hk hS => ?_)
  obtain ⟨rfl, h01⟩ := hp
  exact kk H1 locs1 ⟨by rw [← ht]; exact hb.1, zD_any hH.2.1, hS, hb.2⟩ h01
theorem zcl {v : Int64} {M' : zM} {a : Array Value} {st0 : List Value} (hr : va_Run p l e R s m args below meth c H locs 0 0 0 0 (F0 m pc ls st0) rest (zQl D ly cy ad v M' a) (zA ly ad)) (hH : zH D ly cy ad s.heap M H locs)
    (kk : ∀ (H1 : Heap) (locs1 : List Loc), zH D ly cy ad s.heap M' H1 locs1 → W p l e R s m args below meth c H1 locs1 0 0 Q (F0 m (pc + 3) ls (.long v :: rest))) : W p l e R s m args below meth c H locs 0 0 Q (F0 m pc ls st0) := by
  refine va_calll hr hH.2.2.1 (fun _ _ h => h) (fun _ h => h) (fun r u t H1 locs1 ht hvm hp hb hz hk hS => ?_)
  subst hp
  exact kk H1 locs1 ⟨by rw [← ht]; exact hb.1, zD_any hH.2.1, hS, hb.2⟩
theorem zcv {M' : zM} {a : Array Value} {st0 : List Value} (hr : va_Run p l e R s m args below meth c H locs 0 0 0 0 (F0 m pc ls st0) rest (zQv D ly cy ad M' a) (zA ly ad)) (hH : zH D ly cy ad s.heap M H locs)
    (kk : ∀ (H1 : Heap) (locs1 : List Loc), zH D ly cy ad s.heap M' H1 locs1 → W p l e R s m args below meth c H1 locs1 0 0 Q (F0 m (pc + 3) ls rest)) : W p l e R s m args below meth c H locs 0 0 Q (F0 m pc ls st0) := by
  refine va_callv hr hH.2.2.1 (fun _ _ h => h) (fun _ h => h) (fun u t H1 locs1 ht hvm hp hb hz hk hS => ?_)
  exact kk H1 locs1 ⟨by rw [← ht]; exact hb.1, zD_any hH.2.1, hS, hb.2⟩
theorem zreti {x v : Int32} {M' : zM} (C0 : zF ly ad p m c cc nL s args own cw D cy meth (some .int)) (hH : zH D ly cy ad s.heap M H locs) (hdg : decode cc pc = .ok (.ireturn, 1)) (hv : x = v) (hM : M = M') : W p l e R s m args below meth c H locs 0 0 (MQ below (zQi D ly cy ad v M') args s 0 0 (zA ly ad)) (F0 m pc ls [.int x]) := by
  obtain ⟨⟨hx, hb, hml, hown, hts⟩, hK, hN, hr, hlk, -⟩ := C0
  subst hv; subst hM
  exact W.iret hx hb hr (fun t ht hW => ⟨⟨x, (), rfl, rfl, ⟨by rw [ht]; exact hH.1, hH.2.2.2⟩⟩, hH.2.2.1.F ht⟩) hH.2.2.1.2.2 hdg hlk
theorem zretz {x v : Int32} {M' : zM} (C0 : zF ly ad p m c cc nL s args own cw D cy meth (some .boolean)) (hH : zH D ly cy ad s.heap M H locs) (hdg : decode cc pc = .ok (.ireturn, 1)) (h01 : x = 0 ∨ x = 1) (hv : x = v) (hM : M = M') : W p l e R s m args below meth c H locs 0 0 (MQ below (zQz D ly cy ad v M') args s 0 0 (zA ly ad)) (F0 m pc ls [.int x]) := by
  obtain ⟨⟨hx, hb, hml, hown, hts⟩, hK, hN, hr, hlk, -⟩ := C0
  subst hv; subst hM
  exact W.zret hx hb hr (zOk_01 h01).1 (fun t ht hW => ⟨⟨x, (), rfl, ⟨rfl, h01⟩, ⟨by rw [ht]; exact hH.1, hH.2.2.2⟩⟩, hH.2.2.1.F ht⟩) hH.2.2.1.2.2 hdg hlk
theorem zretl {x v : Int64} {M' : zM} (C0 : zF ly ad p m c cc nL s args own cw D cy meth (some .long)) (hH : zH D ly cy ad s.heap M H locs) (hdg : decode cc pc = .ok (.lreturn, 1)) (hv : x = v) (hM : M = M') : W p l e R s m args below meth c H locs 0 0 (MQ below (zQl D ly cy ad v M') args s 0 0 (zA ly ad)) (F0 m pc ls [.long x]) := by
  obtain ⟨⟨hx, hb, hml, hown, hts⟩, hK, hN, hr, hlk, -⟩ := C0
  subst hv; subst hM
  exact W.lret hx hb hr (fun t ht hW => ⟨⟨x, (), rfl, rfl, ⟨by rw [ht]; exact hH.1, hH.2.2.2⟩⟩, hH.2.2.1.F ht⟩) hH.2.2.1.2.2 hdg hlk
theorem zretv {M' : zM} (C0 : zF ly ad p m c cc nL s args own cw D cy meth none) (hH : zH D ly cy ad s.heap M H locs) (hdg : decode cc pc = .ok (.return_, 1)) (hM : M = M') : W p l e R s m args below meth c H locs 0 0 (MQ below (zQv D ly cy ad M') args s 0 0 (zA ly ad)) (F0 m pc ls []) := by
  obtain ⟨⟨hx, hb, hml, hown, hts⟩, hK, hN, hr, hlk, -⟩ := C0
  subst hM
  exact W.vret hx hb hr (fun t ht hW => ⟨⟨(), rfl, trivial, ⟨by rw [ht]; exact hH.1, hH.2.2.2⟩⟩, hH.2.2.1.F ht⟩) hH.2.2.1.2.2 hdg hlk
theorem zmax (C0 : zF ly ad p m c cc nL s args own cw D cy meth ret) (hsz : ls.size = nL) {index : Nat} (hlink : Cond.methodLink own index Lib.Math.max.name ∈ zG) (hf : 1 ≤ R.frames) (hl : (rest.map fun v => v.category).sum + 13 ≤ R.locals) {x y : Int32} (hdg : decode cc pc = .ok (.invokestatic index, 3))
    (kk : W p l e R s m args below meth c H locs 0 0 Q (F0 m (pc + 3) ls (.int (if x < y then y else x) :: rest))) : W p l e R s m args below meth c H locs 0 0 Q (F0 m pc ls (.int y :: .int x :: rest)) := by
  obtain ⟨⟨hx, hb, hml, hown, hts⟩, hK, hN, -, -, -⟩ := C0
  have hin : ∀ w ∈ zG, w.before args s = true := fun w h => hts w (List.mem_cons_of_mem _ h)
  exact va_mmax hx hb (hml.trans hsz.symm) hown (hin _ hlink) (hin _ kT_J_max) (hin _ kC_Math) (hin _ kD_J_max) hf hl (Nat.zero_le _) (Nat.zero_le _) hdg kk
theorem zmin (C0 : zF ly ad p m c cc nL s args own cw D cy meth ret) (hsz : ls.size = nL) {index : Nat} (hlink : Cond.methodLink own index Lib.Math.min.name ∈ zG) (hf : 1 ≤ R.frames) (hl : (rest.map fun v => v.category).sum + 13 ≤ R.locals) {x y : Int32} (hdg : decode cc pc = .ok (.invokestatic index, 3))
    (kk : W p l e R s m args below meth c H locs 0 0 Q (F0 m (pc + 3) ls (.int (if y < x then y else x) :: rest))) : W p l e R s m args below meth c H locs 0 0 Q (F0 m pc ls (.int y :: .int x :: rest)) := by
  obtain ⟨⟨hx, hb, hml, hown, hts⟩, hK, hN, -, -, -⟩ := C0
  have hin : ∀ w ∈ zG, w.before args s = true := fun w h => hts w (List.mem_cons_of_mem _ h)
  exact va_mmin hx hb (hml.trans hsz.symm) hown (hin _ hlink) (hin _ kT_J_min) (hin _ kC_Math) (hin _ kD_J_min) hf hl (Nat.zero_le _) (Nat.zero_le _) hdg kk
theorem zmaxl (C0 : zF ly ad p m c cc nL s args own cw D cy meth ret) (hsz : ls.size = nL) {index : Nat} (hlink : Cond.methodLink own index Lib.MathLoose.max_long.x ∈ zG) (hf : 1 ≤ R.frames) (hl : (rest.map fun v => v.category).sum + 15 ≤ R.locals) {x y : Int64} (hdg : decode cc pc = .ok (.invokestatic index, 3))
    (kk : W p l e R s m args below meth c H locs 0 0 Q (F0 m (pc + 3) ls (.long (if y < x then x else y) :: rest))) : W p l e R s m args below meth c H locs 0 0 Q (F0 m pc ls (.long y :: .long x :: rest)) := by
  obtain ⟨⟨hx, hb, hml, hown, hts⟩, hK, hN, -, -, -⟩ := C0
  have hin : ∀ w ∈ zG, w.before args s = true := fun w h => hts w (List.mem_cons_of_mem _ h)
  exact va_mmax_long hx hb (hml.trans hsz.symm) hown (hin _ hlink) (hin _ kT_J_max_long) (hin _ kC_Math) (hin _ kD_J_max_long) hf hl (Nat.zero_le _) (Nat.zero_le _) hdg kk
theorem zminl (C0 : zF ly ad p m c cc nL s args own cw D cy meth ret) (hsz : ls.size = nL) {index : Nat} (hlink : Cond.methodLink own index Lib.MathLoose.min_long.x ∈ zG) (hf : 1 ≤ R.frames) (hl : (rest.map fun v => v.category).sum + 15 ≤ R.locals) {x y : Int64} (hdg : decode cc pc = .ok (.invokestatic index, 3))
    (kk : W p l e R s m args below meth c H locs 0 0 Q (F0 m (pc + 3) ls (.long (if y < x then y else x) :: rest))) : W p l e R s m args below meth c H locs 0 0 Q (F0 m pc ls (.long y :: .long x :: rest)) := by
  obtain ⟨⟨hx, hb, hml, hown, hts⟩, hK, hN, -, -, -⟩ := C0
  have hin : ∀ w ∈ zG, w.before args s = true := fun w h => hts w (List.mem_cons_of_mem _ h)
  exact va_mmin_long hx hb (hml.trans hsz.symm) hown (hin _ hlink) (hin _ kT_J_min_long) (hin _ kC_Math) (hin _ kD_J_min_long) hf hl (Nat.zero_le _) (Nat.zero_le _) hdg kk
theorem zabsl (C0 : zF ly ad p m c cc nL s args own cw D cy meth ret) (hsz : ls.size = nL) {index : Nat} (hlink : Cond.methodLink own index Lib.MathLoose.abs_long.x ∈ zG) (hf : 1 ≤ R.frames) (hl : (rest.map fun v => v.category).sum + 13 ≤ R.locals) {x : Int64} (hdg : decode cc pc = .ok (.invokestatic index, 3))
    (kk : W p l e R s m args below meth c H locs 0 0 Q (F0 m (pc + 3) ls (.long (if 0 < x then x else -x) :: rest))) : W p l e R s m args below meth c H locs 0 0 Q (F0 m pc ls (.long x :: rest)) := by
  obtain ⟨⟨hx, hb, hml, hown, hts⟩, hK, hN, -, -, -⟩ := C0
  have hin : ∀ w ∈ zG, w.before args s = true := fun w h => hts w (List.mem_cons_of_mem _ h)
  exact va_mabs_long hx hb (hml.trans hsz.symm) hown (hin _ hlink) (hin _ kT_J_abs_long) (hin _ kC_Math) (hin _ kD_J_abs_long) hf hl (Nat.zero_le _) (Nat.zero_le _) hdg kk
theorem zcpyi (C0 : zF ly ad p m c cc nL s args own cw D cy meth ret) (hH : zH D ly cy ad s.heap M H locs) (hsz : ls.size = nL) {index : Nat} (hlink : Cond.methodLink own index arraycopyName ∈ zG) {c0 c1 n0 n1 : Nat} (hi0 : zIs ly c0 7) (hn0 : ly.2.2.2.1 c0 = n0) (hi1 : zIs ly c1 7) (hn1 : ly.2.2.2.1 c1 = n1) {sp dp n : Int32} (h1 : ¬ sp < 0) (h2 : ¬ dp < 0) (h3 : ¬ n < 0) (h4 : sp.toNatClampNeg + n.toNatClampNeg ≤ n0) (hf5 : ∀ k, zFit (ly.2.2.2.2 7 c1 k) (va_cpy (M.1 c0) (M.1 c1) sp.toNatClampNeg dp.toNatClampNeg n.toNatClampNeg k)) (h5 : dp.toNatClampNeg + n.toNatClampNeg ≤ n1)
    (hf : 1 ≤ R.frames) (hl : (rest.map fun v => v.category).sum + (nativeFrameWords "java/lang/System" "arraycopy" 5 + 11) ≤ R.locals) (hdg : decode cc pc = .ok (.invokestatic index, 3))
    (kk : ∀ (H1 : Heap) (locs1 : List Loc), zH D ly cy ad s.heap (zrI M c1 (va_cpy (M.1 c0) (M.1 c1) sp.toNatClampNeg dp.toNatClampNeg n.toNatClampNeg)) H1 locs1 → W p l e R s m args below meth c H1 locs1 0 0 Q (F0 m (pc + 3) ls rest)) : W p l e R s m args below meth c H locs 0 0 Q (F0 m pc ls (.int n :: .int dp :: .ref (ad c1) :: .int sp :: .ref (ad c0) :: rest)) := by
  obtain ⟨⟨hx, hb, hml, hown, hts⟩, hK, hN, -, -, -⟩ := C0
  have hin : ∀ w ∈ zG, w.before args s = true := fun w h => hts w (List.mem_cons_of_mem _ h)
  refine va_copyi hx hb (hml.trans hsz.symm) hown (hin _ hlink) (hin _ kB_J_arraycopy) (hin _ kT_J_arraycopy) (hin _ kC_System) hK hH.1 hH.2.1 hH.2.2.1 c0 c1 0 0 (by rw [zC_at hi0.1, zE_ints hi0.2 hn0]) (by rw [zC_at hi1.1, zE_ints hi1.2 hn1]) rfl rfl rfl h1 h2 h3 h4 h5 (fun _ _ => rfl) hf hl hdg (fun H1 locs1 hP hD hS => ?_)
  exact kk H1 locs1 (zH_put hi1.1 zrI_ne.1 zrI_ne.2 (by rw [zE_ints hi1.2 hn1]; simp [zrI, va_up]) hP hD hS (hH.2.2.2.row hi1 hf5))
theorem zcpyl (C0 : zF ly ad p m c cc nL s args own cw D cy meth ret) (hH : zH D ly cy ad s.heap M H locs) (hsz : ls.size = nL) {index : Nat} (hlink : Cond.methodLink own index arraycopyName ∈ zG) {c0 c1 n0 n1 : Nat} (hi0 : zIs ly c0 8) (hn0 : ly.2.2.2.1 c0 = n0) (hi1 : zIs ly c1 8) (hn1 : ly.2.2.2.1 c1 = n1) {sp dp n : Int32} (h1 : ¬ sp < 0) (h2 : ¬ dp < 0) (h3 : ¬ n < 0) (h4 : sp.toNatClampNeg + n.toNatClampNeg ≤ n0) (h5 : dp.toNatClampNeg + n.toNatClampNeg ≤ n1)
    (hf : 1 ≤ R.frames) (hl : (rest.map fun v => v.category).sum + (nativeFrameWords "java/lang/System" "arraycopy" 5 + 11) ≤ R.locals) (hdg : decode cc pc = .ok (.invokestatic index, 3))
    (kk : ∀ (H1 : Heap) (locs1 : List Loc), zH D ly cy ad s.heap (zrL M c1 (va_cpy (M.2 c0) (M.2 c1) sp.toNatClampNeg dp.toNatClampNeg n.toNatClampNeg)) H1 locs1 → W p l e R s m args below meth c H1 locs1 0 0 Q (F0 m (pc + 3) ls rest)) : W p l e R s m args below meth c H locs 0 0 Q (F0 m pc ls (.int n :: .int dp :: .ref (ad c1) :: .int sp :: .ref (ad c0) :: rest)) := by
  obtain ⟨⟨hx, hb, hml, hown, hts⟩, hK, hN, -, -, -⟩ := C0
  have hin : ∀ w ∈ zG, w.before args s = true := fun w h => hts w (List.mem_cons_of_mem _ h)
  refine va_copyl hx hb (hml.trans hsz.symm) hown (hin _ hlink) (hin _ kB_J_arraycopy) (hin _ kT_J_arraycopy) (hin _ kC_System) hK hH.1 hH.2.1 hH.2.2.1 c0 c1 1 1 (by rw [zC_at hi0.1, zE_longs hi0.2 hn0]) (by rw [zC_at hi1.1, zE_longs hi1.2 hn1]) rfl rfl rfl h1 h2 h3 h4 h5 (fun _ _ => rfl) hf hl hdg (fun H1 locs1 hP hD hS => ?_)
  exact kk H1 locs1 (zH_put hi1.1 zrL_ne.1 zrL_ne.2 (by rw [zE_longs hi1.2 hn1]; simp [zrL, va_up]) hP hD hS hH.2.2.2)
theorem zgets (C0 : zF ly ad p m c cc nL s args own cw D cy meth ret) (hH : zH D ly cy ad s.heap M H locs) {index : Nat} (hlink : Cond.fieldLink own index RX5 "UNDER" "[I" ∈ zG) (hdg : decode cc pc = .ok (.getstatic index, 3))
    (kk : ∀ t : Nat, va_T .int t 6 (fun j => .int (zUnI j)) (zA ly ad) s s.heap → W p l e R s m args below meth c H locs 0 0 Q (F0 m (pc + 3) ls (.ref t :: rest))) : W p l e R s m args below meth c H locs 0 0 Q (F0 m pc ls rest) := by
  obtain ⟨⟨hx, hb, hml, hown, hts⟩, hK, hN, -, -, t, h1, h2⟩ := C0
  exact va_gets hx hb h1 hH.2.2.1 hown (hts _ (List.mem_cons_of_mem _ hlink)) (fun _ h => h) hdg (kk t h2)
theorem zunld (C0 : zF ly ad p m c cc nL s args own cw D cy meth ret) (hH : zH D ly cy ad s.heap M H locs) {t : Nat} (hT : va_T .int t 6 (fun j => .int (zUnI j)) (zA ly ad) s s.heap) {i : Int32} (hin : vp_in i 6) (hdg : decode cc pc = .ok (.iaload, 1))
    (kk : W p l e R s m args below meth c H locs 0 0 Q (F0 m (pc + 1) ls (.int (zUnI i.toNatClampNeg) :: rest))) : W p l e R s m args below meth c H locs 0 0 Q (F0 m pc ls (.int i :: .ref t :: rest)) := by
  obtain ⟨⟨hx, hb, hml, hown, hts⟩, hK, hN, -, -, -⟩ := C0
  exact va_ti hx hb hT hH.2.2.1 hin rfl hdg kk
end ZROWS
theorem zif_pos {c : Prop} {d : Decidable c} {α : Type} {a b r : α} (h : c) (e : @ite α c d a b = r) : a = r := by rw [← e, if_pos h]
theorem zif_neg {c : Prop} {d : Decidable c} {α : Type} {a b r : α} (h : ¬ c) (e : @ite α c d a b = r) : b = r := by rw [← e, if_neg h]
end
section
/-! the class's cells: 0 the object, 1 15 29 the rows live kept trial (row, its array, ten blocks, text, bytes), 43 48 the books (book, four arrays), 53 54 the tape, 55 the sheets' array, 56.. the sheets (sheet, numbers), 64 the findings -/
def kdC (c : Nat) : Nat :=
  if c = 0 then 5
  else if c < 43 then (if (c - 1) % 14 = 0 then 2 else if (c - 1) % 14 = 1 then 9 else if (c - 1) % 14 < 12 then 0 else if (c - 1) % 14 = 12 then 4 else 7)
  else if c < 53 then (if (c - 43) % 5 = 0 then 1 else 7)
  else if c = 53 then 4 else if c = 54 then 7 else if c = 55 then 10
  else if c < 64 then (if c % 2 = 0 then 3 else 8) else 7
def tgC (κ c k : Nat) : Option Nat := match κ with
  | 5 => (match k with | 0 => some 1 | 1 => some 15 | 2 => some 29 | 3 => some 43 | 4 => some 48 | 6 => some 53 | 7 => some 55 | 8 => some 64 | _ => none)
  | 2 => (match k with | 0 => some (c + 1) | 4 => some (c + 12) | _ => none)
  | 9 => some (c + 1 + k)
  | 1 => (match k with | 0 => some (c + 1) | 1 => some (c + 2) | 2 => some (c + 3) | 3 => some (c + 4) | _ => none)
  | 4 => (match k with | 0 => some (c + 1) | _ => none)
  | 10 => some (c + 1 + 2 * k)
  | 3 => (match k with | 0 => some (c + 1) | _ => none)
  | _ => none
def lnC (c : Nat) : Nat :=
  if c < 43 then (if (c - 1) % 14 = 1 then 10 else 60)
  else if c < 53 then (if (c - 43) % 5 = 4 then 7 else 100)
  else if c = 54 then 60 else if c = 55 then 4 else if c = 64 then 7 else 40
def crC (κ _c k : Nat) : Option (Int32 × Int32) := match κ with
  | 1 => (match k with | 4 => some (0, 100) | 5 => some (0, 99) | _ => none)
  | 2 => (match k with | 1 => some (0, 10) | _ => none)
  | 3 => (match k with | 2 => some (0, 40) | _ => none)
  | 4 => (match k with | 1 => some (0, 60) | 2 => some (0, 60) | _ => none)
  | _ => none
def lyC : zLy := (65, kdC, tgC, lnC, crC)
/-! the reference's: 0 the object, then its arrays -/
def kdR (c : Nat) : Nat := if c = 0 then 6 else if c = 14 then 8 else if c = 15 then 8 else 7
def tgR (κ _c k : Nat) : Option Nat := match κ with
  | 6 => (match k with | 0 => some 1 | 1 => some 2 | 2 => some 3 | 4 => some 4 | 6 => some 5 | 7 => some 6 | 8 => some 7 | 12 => some 8 | 13 => some 9 | 15 => some 10 | 20 => some 11 | 21 => some 12 | 22 => some 13 | 23 => some 14 | 24 => some 15 | _ => none)
  | _ => none
def lnR (c : Nat) : Nat := match c with
  | 1 => 448
  | 2 => 448
  | 3 => 448
  | 4 => 60
  | 5 => 7
  | 6 => 10
  | 7 => 10
  | 8 => 60
  | 9 => 60
  | 10 => 64
  | 11 => 64
  | 12 => 4
  | 13 => 4
  | 14 => 160
  | _ => 40
def crS (k : Nat) : Option (Int32 × Int32) := match k with
  | 0 => some (0, 10)
  | 5 => some (-1, 60)
  | 13 => some (0, 100)
  | _ => none
def crR (_κ c k : Nat) : Option (Int32 × Int32) := match c with
  | 0 => (match k with | 5 => some (0, 60) | 16 => some (0, 60) | 17 => some (0, 60) | _ => none)
  | 1 => crS k
  | 2 => crS k
  | 3 => crS k
  | 13 => some (0, 40)
  | _ => none
def lyR : zLy := (16, kdR, tgR, lnR, crR)
theorem zlt {i : Int32} {n : Nat} (h : vp_in i n) : i.toNatClampNeg < n := Nat.not_le.mp fun q => h (Or.inr q)
def zRow (r : Nat) : Prop := r = 1 ∨ r = 15 ∨ r = 29
def zTxt (t : Nat) : Prop := t = 13 ∨ t = 27 ∨ t = 41 ∨ t = 53
def zBk (k : Nat) : Prop := k = 43 ∨ k = 48
def zSh (c : Nat) : Prop := c = 56 ∨ c = 58 ∨ c = 60 ∨ c = 62
def zBl (c : Nat) : Prop := zIs lyC c 0
def zS3 (c : Nat) : Prop := c = 1 ∨ c = 2 ∨ c = 3
theorem zX0 : zIs lyC 0 5 := ⟨by decide, by decide⟩
theorem zRow.is {r : Nat} (h : zRow r) : zIs lyC r 2 := by rcases h with rfl | rfl | rfl <;> exact ⟨by decide, by decide⟩
theorem zRow.arr {r : Nat} (h : zRow r) : zIs lyC (r + 1) 9 := by rcases h with rfl | rfl | rfl <;> exact ⟨by decide, by decide⟩
theorem zRow.ln {r : Nat} (h : zRow r) : lyC.2.2.2.1 (r + 1) = 10 := by rcases h with rfl | rfl | rfl <;> decide
theorem zRow.txt {r : Nat} (h : zRow r) : zTxt (r + 12) := by rcases h with rfl | rfl | rfl <;> simp [zTxt]
theorem zRow.blk {r b : Nat} (h : zRow r) (hb : b < 10) : zBl (r + 2 + b) := by
  have key : ∀ b, b < 10 → (1 + 2 + b < 65 ∧ kdC (1 + 2 + b) = 0) ∧ (15 + 2 + b < 65 ∧ kdC (15 + 2 + b) = 0) ∧ (29 + 2 + b < 65 ∧ kdC (29 + 2 + b) = 0) := by decide
  obtain ⟨k1, k2, k3⟩ := key b hb
  rcases h with rfl | rfl | rfl
  · exact k1
  · exact k2
  · exact k3
theorem zTxt.is {t : Nat} (h : zTxt t) : zIs lyC t 4 := by rcases h with rfl | rfl | rfl | rfl <;> exact ⟨by decide, by decide⟩
theorem zTxt.arr {t : Nat} (h : zTxt t) : zIs lyC (t + 1) 7 := by rcases h with rfl | rfl | rfl | rfl <;> exact ⟨by decide, by decide⟩
theorem zTxt.ln {t : Nat} (h : zTxt t) : lyC.2.2.2.1 (t + 1) = 60 := by rcases h with rfl | rfl | rfl | rfl <;> decide
theorem zBk.is {k : Nat} (h : zBk k) : zIs lyC k 1 := by rcases h with rfl | rfl <;> exact ⟨by decide, by decide⟩
theorem zBk.a1 {k : Nat} (h : zBk k) : zIs lyC (k + 1) 7 := by rcases h with rfl | rfl <;> exact ⟨by decide, by decide⟩
theorem zBk.a2 {k : Nat} (h : zBk k) : zIs lyC (k + 2) 7 := by rcases h with rfl | rfl <;> exact ⟨by decide, by decide⟩
theorem zBk.a3 {k : Nat} (h : zBk k) : zIs lyC (k + 3) 7 := by rcases h with rfl | rfl <;> exact ⟨by decide, by decide⟩
theorem zBk.a4 {k : Nat} (h : zBk k) : zIs lyC (k + 4) 7 := by rcases h with rfl | rfl <;> exact ⟨by decide, by decide⟩
theorem zBk.l1 {k : Nat} (h : zBk k) : lyC.2.2.2.1 (k + 1) = 100 := by rcases h with rfl | rfl <;> decide
theorem zBk.l2 {k : Nat} (h : zBk k) : lyC.2.2.2.1 (k + 2) = 100 := by rcases h with rfl | rfl <;> decide
theorem zBk.l3 {k : Nat} (h : zBk k) : lyC.2.2.2.1 (k + 3) = 100 := by rcases h with rfl | rfl <;> decide
theorem zBk.l4 {k : Nat} (h : zBk k) : lyC.2.2.2.1 (k + 4) = 7 := by rcases h with rfl | rfl <;> decide
theorem zSh.is {c : Nat} (h : zSh c) : zIs lyC c 3 := by rcases h with rfl | rfl | rfl | rfl <;> exact ⟨by decide, by decide⟩
theorem zSh.arr {c : Nat} (h : zSh c) : zIs lyC (c + 1) 8 := by rcases h with rfl | rfl | rfl | rfl <;> exact ⟨by decide, by decide⟩
theorem zSh.ln {c : Nat} (h : zSh c) : lyC.2.2.2.1 (c + 1) = 40 := by rcases h with rfl | rfl | rfl | rfl <;> decide
theorem zSh.of {i : Nat} (h : i < 4) : zSh (55 + 1 + 2 * i) := by
  have : i = 0 ∨ i = 1 ∨ i = 2 ∨ i = 3 := by omega
  rcases this with rfl | rfl | rfl | rfl <;> simp [zSh]
theorem zSs : zIs lyC 55 10 := ⟨by decide, by decide⟩
theorem zSs_ln : lyC.2.2.2.1 55 = 4 := by decide
theorem zFo : zIs lyC 64 7 := ⟨by decide, by decide⟩
theorem zFo_ln : lyC.2.2.2.1 64 = 7 := by decide
theorem zRow1 : zRow 1 := Or.inl rfl
theorem zRow15 : zRow 15 := Or.inr (Or.inl rfl)
theorem zRow29 : zRow 29 := Or.inr (Or.inr rfl)
theorem zBk43 : zBk 43 := Or.inl rfl
theorem zBk48 : zBk 48 := Or.inr rfl
theorem zTxt53 : zTxt 53 := Or.inr (Or.inr (Or.inr rfl))
theorem zR0 : zIs lyR 0 6 := ⟨by decide, by decide⟩
theorem zR_i {c : Nat} (h : c < 14) (h0 : c ≠ 0) : zIs lyR c 7 := by
  have key : ∀ c, c < 14 → c ≠ 0 → c < 16 ∧ kdR c = 7 := by decide
  exact key c h h0
theorem zR14 : zIs lyR 14 8 := ⟨by decide, by decide⟩
theorem zR15 : zIs lyR 15 8 := ⟨by decide, by decide⟩
theorem zS3.is {c : Nat} (h : zS3 c) : zIs lyR c 7 := by rcases h with rfl | rfl | rfl <;> exact ⟨by decide, by decide⟩
theorem zS3.ln {c : Nat} (h : zS3 c) : lyR.2.2.2.1 c = 448 := by rcases h with rfl | rfl | rfl <;> rfl
theorem zS31 : zS3 1 := Or.inl rfl
theorem zS32 : zS3 2 := Or.inr (Or.inl rfl)
theorem zS33 : zS3 3 := Or.inr (Or.inr rfl)
section ZROWS2
variable {p : Program} {l : Launch} {e : Env} {R : Room} {s : State} {m : MethodId} {args : Array Value} {below : List Frame} {meth : Method} {c : Code} {H : Heap} {locs : List Loc} {cells slots : Nat} {Q : State → Prop}
variable {cc : ByteArray} {nL pc : Nat} {ls : Array Slot} {rest : List Value}
/-- iinc, its number as it is written -/
theorem ziinc (hexec : p.tables.exec = Jvm.exec) (hb : c.code = cc) {i k : Nat} {n : Int} {x : Int32} (w : Int32) {lv lv' : List (Nat × Value)} (hw : Int32.ofInt n = w) (hdg : decode cc pc = .ok (.iinc i n, 3)) (h : lv_has ls nL lv) (hk : lv[k]? = some (i, .int x)) (hn : i < nL) (hl : (i, Value.int (x + w)) :: lv.filter (fun q => !(q.1 == i) && !(q.1 + 1 == i && q.2.category == 2)) = lv')
    (kk : ∀ ls' : Array Slot, lv_has ls' nL lv' → W p l e R s m args below meth c H locs cells slots Q (F0 m (pc + 3) ls' rest)) : W p l e R s m args below meth c H locs cells slots Q (F0 m pc ls rest) := by
  subst hw
  exact lv_iinc hexec hb hdg h hk rfl hn hl kk
/-- a switch by a table: one of its numbers -/
theorem ztab (hexec : p.tables.exec = Jvm.exec) (hb : c.code = cc) {dflt lo hi : Int} {offs : Array Int} {len : Nat} {x v : Int32} {off : Int} {tgt : Nat} (hv : x = v) (hdg : decode cc pc = .ok (.tableswitch dflt lo hi offs, len)) (h1 : ¬ v.toInt < lo) (h2 : ¬ hi < v.toInt) (ho : offs[(v.toInt - lo).toNat]? = some off) (ht : (pc : Int) + off = (tgt : Int))
    (k : W p l e R s m args below meth c H locs cells slots Q (F0 m tgt ls rest)) : W p l e R s m args below meth c H locs cells slots Q (F0 m pc ls (.int x :: rest)) := by
  subst hv
  exact lv_tableIn hexec hb hdg h1 h2 ho ht k
/-- none of those that are told -/
theorem ztabD (hexec : p.tables.exec = Jvm.exec) (hb : c.code = cc) {dflt lo hi : Int} {offs : Array Int} {len : Nat} {x : Int32} {tgt : Nat} (vs : List Int32) (hne : ∀ v ∈ vs, ¬ x = v) (hdg : decode cc pc = .ok (.tableswitch dflt lo hi offs, len)) (hsz : (hi - lo).toNat + 1 = offs.size) (hchk : ∀ j, j < offs.size → offs[j]? = some dflt ∨ ∃ v ∈ vs, v.toInt = lo + j) (ht : (pc : Int) + dflt = (tgt : Int))
    (k : W p l e R s m args below meth c H locs cells slots Q (F0 m tgt ls rest)) : W p l e R s m args below meth c H locs cells slots Q (F0 m pc ls (.int x :: rest)) := by
  by_cases h1 : x.toInt < lo
  · exact lv_tableOut hexec hb hdg (Or.inl h1) ht k
  · by_cases h2 : hi < x.toInt
    · exact lv_tableOut hexec hb hdg (Or.inr h2) ht k
    · have hj : (x.toInt - lo).toNat < offs.size := by omega
      rcases hchk _ hj with h | ⟨v, hv, hve⟩
      · exact lv_tableIn hexec hb hdg h1 h2 h ht k
      · refine absurd (Int32.toInt_inj.mp ?_) (hne v hv)
        rw [hve]
        omega
theorem zlook (hexec : p.tables.exec = Jvm.exec) (hb : c.code = cc) {dflt : Int} {ps : Array (Int × Int)} {len : Nat} {x v : Int32} {off : Int} {tgt : Nat} (hv : x = v) (hdg : decode cc pc = .ok (.lookupswitch dflt ps, len)) (hp : (ps.toList.zip (ps.toList.drop 1)).all (fun (a, next) => a.1 < next.1) = true) (ho : Op.lookupswitch.offset ps.toList dflt v.toInt = off) (ht : (pc : Int) + off = (tgt : Int))
    (k : W p l e R s m args below meth c H locs cells slots Q (F0 m tgt ls rest)) : W p l e R s m args below meth c H locs cells slots Q (F0 m pc ls (.int x :: rest)) := by
  subst hv
  exact lv_lookup hexec hb hdg hp ho ht k
end ZROWS2
section ZROWS3
variable {p : Program} {l : Launch} {e : Env} {R : Room} {s : State} {m : MethodId} {args : Array Value} {below : List Frame} {meth : Method} {c : Code} {H : Heap} {locs : List Loc} {Q : State → Prop}
variable {cc : ByteArray} {nL pc : Nat} {ls : Array Slot} {rest : List Value} {own : String} {cw : Cond} {D : va_G} {cy : Nat → ClassId} {ret : Option FieldType} {ad : Nat → Nat} {M : zM}
/-- a block of a row -/
theorem zqldB (C0 : zF lyC ad p m c cc nL s args own cw D cy meth ret) (hH : zH D lyC cy ad s.heap M H locs) {r : Nat} (hr : zRow r) {i : Int32} (hin : vp_in i 10) (hdg : decode cc pc = .ok (.aaload, 1))
    (kk : zBl (r + 2 + i.toNatClampNeg) → W p l e R s m args below meth c H locs 0 0 Q (F0 m (pc + 1) ls (.ref (ad (r + 2 + i.toNatClampNeg)) :: rest))) : W p l e R s m args below meth c H locs 0 0 Q (F0 m pc ls (.int i :: .ref (ad (r + 1)) :: rest)) :=
  zqld9 C0 hH (r + 2 + i.toNatClampNeg) hr.arr hr.ln hin rfl hdg (kk (hr.blk (zlt hin)))
/-- a sheet -/
theorem zqldS (C0 : zF lyC ad p m c cc nL s args own cw D cy meth ret) (hH : zH D lyC cy ad s.heap M H locs) {i : Int32} (hin : vp_in i 4) (hdg : decode cc pc = .ok (.aaload, 1))
    (kk : zSh (56 + 2 * i.toNatClampNeg) → W p l e R s m args below meth c H locs 0 0 Q (F0 m (pc + 1) ls (.ref (ad (56 + 2 * i.toNatClampNeg)) :: rest))) : W p l e R s m args below meth c H locs 0 0 Q (F0 m pc ls (.int i :: .ref (ad 55) :: rest)) :=
  zqld10 C0 hH (56 + 2 * i.toNatClampNeg) zSs zSs_ln hin rfl hdg (kk (zSh.of (zlt hin)))
end ZROWS3
section ZROWS4
variable {p : Program} {l : Launch} {e : Env} {R : Room} {s : State} {m : MethodId} {args : Array Value} {below : List Frame} {meth : Method} {c : Code} {H : Heap} {locs : List Loc} {Q : State → Prop}
variable {cc : ByteArray} {nL pc : Nat} {ls : Array Slot} {rest : List Value} {own : String} {cw : Cond} {D : va_G} {cy : Nat → ClassId} {ret : Option FieldType} {ly : zLy} {ad : Nat → Nat} {M : zM}
/-! at a place that is written as a number -/
theorem zaldK (C0 : zF ly ad p m c cc nL s args own cw D cy meth ret) (hH : zH D ly cy ad s.heap M H locs) {c0 n : Nat} (hi : zIs ly c0 7) (hn : ly.2.2.2.1 c0 = n) {i : Int32} {k : Nat} (hk : i.toNatClampNeg = k) (hin : vp_in i n) (hdg : decode cc pc = .ok (.iaload, 1))
    (kk : W p l e R s m args below meth c H locs 0 0 Q (F0 m (pc + 1) ls (.int (M.1 c0 k) :: rest))) : W p l e R s m args below meth c H locs 0 0 Q (F0 m pc ls (.int i :: .ref (ad c0) :: rest)) := by
  subst hk
  exact zald C0 hH hi hn hin hdg kk
theorem zlldK (C0 : zF ly ad p m c cc nL s args own cw D cy meth ret) (hH : zH D ly cy ad s.heap M H locs) {c0 n : Nat} (hi : zIs ly c0 8) (hn : ly.2.2.2.1 c0 = n) {i : Int32} {k : Nat} (hk : i.toNatClampNeg = k) (hin : vp_in i n) (hdg : decode cc pc = .ok (.laload, 1))
    (kk : W p l e R s m args below meth c H locs 0 0 Q (F0 m (pc + 1) ls (.long (M.2 c0 k) :: rest))) : W p l e R s m args below meth c H locs 0 0 Q (F0 m pc ls (.int i :: .ref (ad c0) :: rest)) := by
  subst hk
  exact zlld C0 hH hi hn hin hdg kk
theorem zastK (C0 : zF ly ad p m c cc nL s args own cw D cy meth ret) (hH : zH D ly cy ad s.heap M H locs) {c0 n : Nat} (hi : zIs ly c0 7) (hn : ly.2.2.2.1 c0 = n) {i x : Int32} {k : Nat} (hk : i.toNatClampNeg = k) (hin : vp_in i n) (hf : zFit (ly.2.2.2.2 7 c0 k) x) (hdg : decode cc pc = .ok (.iastore, 1))
    (kk : ∀ (H1 : Heap) (locs1 : List Loc), zH D ly cy ad s.heap (zpI M c0 k x) H1 locs1 → W p l e R s m args below meth c H1 locs1 0 0 Q (F0 m (pc + 1) ls rest)) : W p l e R s m args below meth c H locs 0 0 Q (F0 m pc ls (.int x :: .int i :: .ref (ad c0) :: rest)) := by
  subst hk
  exact zast C0 hH hi hn hin hf hdg kk
theorem zlstK (C0 : zF ly ad p m c cc nL s args own cw D cy meth ret) (hH : zH D ly cy ad s.heap M H locs) {c0 n : Nat} (hi : zIs ly c0 8) (hn : ly.2.2.2.1 c0 = n) {i : Int32} {x : Int64} {k : Nat} (hk : i.toNatClampNeg = k) (hin : vp_in i n) (hdg : decode cc pc = .ok (.lastore, 1))
    (kk : ∀ (H1 : Heap) (locs1 : List Loc), zH D ly cy ad s.heap (zpL M c0 k x) H1 locs1 → W p l e R s m args below meth c H1 locs1 0 0 Q (F0 m (pc + 1) ls rest)) : W p l e R s m args below meth c H locs 0 0 Q (F0 m pc ls (.long x :: .int i :: .ref (ad c0) :: rest)) := by
  subst hk
  exact zlst C0 hH hi hn hin hdg kk
end ZROWS4
theorem zcase {c : Prop} {d : Decidable c} {α : Type} {a b r : α} {G : Prop} (e : @ite α c d a b = r) (h1 : c → a = r → G) (h2 : ¬ c → b = r → G) : G := by
  by_cases h : c
  · exact h1 h (zif_pos h e)
  · exact h2 h (zif_neg h e)
theorem zH.row {D : va_G} {cy : Nat → ClassId} {ad : Nat → Nat} {H0 H : Heap} {M : zM} {locs : List Loc} {r : Nat} (h : zH D lyC cy ad H0 M H locs) (hr : zRow r) : 0 ≤ M.1 r 1 ∧ M.1 r 1 ≤ 10 := h.2.2.2 r hr.is.1 1 0 10 (by rw [hr.is.2]; rfl)
theorem zH.txt {D : va_G} {cy : Nat → ClassId} {ad : Nat → Nat} {H0 H : Heap} {M : zM} {locs : List Loc} {r : Nat} (h : zH D lyC cy ad H0 M H locs) (hr : zTxt r) : 0 ≤ M.1 r 1 ∧ M.1 r 1 ≤ 60 := h.2.2.2 r hr.is.1 1 0 60 (by rw [hr.is.2]; rfl)
theorem zH.bkl {D : va_G} {cy : Nat → ClassId} {ad : Nat → Nat} {H0 H : Heap} {M : zM} {locs : List Loc} {r : Nat} (h : zH D lyC cy ad H0 M H locs) (hr : zBk r) : 0 ≤ M.1 r 4 ∧ M.1 r 4 ≤ 100 := h.2.2.2 r hr.is.1 4 0 100 (by rw [hr.is.2]; rfl)
theorem zH.bkn {D : va_G} {cy : Nat → ClassId} {ad : Nat → Nat} {H0 H : Heap} {M : zM} {locs : List Loc} {r : Nat} (h : zH D lyC cy ad H0 M H locs) (hr : zBk r) : 0 ≤ M.1 r 5 ∧ M.1 r 5 ≤ 99 := h.2.2.2 r hr.is.1 5 0 99 (by rw [hr.is.2]; rfl)
theorem zH.sh {D : va_G} {cy : Nat → ClassId} {ad : Nat → Nat} {H0 H : Heap} {M : zM} {locs : List Loc} {r : Nat} (h : zH D lyC cy ad H0 M H locs) (hr : zSh r) : 0 ≤ M.1 r 2 ∧ M.1 r 2 ≤ 40 := h.2.2.2 r hr.is.1 2 0 40 (by rw [hr.is.2]; rfl)
theorem zH.txa {D : va_G} {cy : Nat → ClassId} {ad : Nat → Nat} {H0 H : Heap} {M : zM} {locs : List Loc} {r : Nat} (h : zH D lyC cy ad H0 M H locs) (hr : zTxt r) : 0 ≤ M.1 r 2 ∧ M.1 r 2 ≤ 60 := h.2.2.2 r hr.is.1 2 0 60 (by rw [hr.is.2]; rfl)
theorem zH.many {D : va_G} {cy : Nat → ClassId} {ad : Nat → Nat} {H0 H : Heap} {M : zM} {locs : List Loc} (h : zH D lyR cy ad H0 M H locs) : 0 ≤ M.1 1 0 ∧ M.1 1 0 ≤ 10 := h.2.2.2 1 (by decide) 0 0 10 rfl
theorem zH.coded {D : va_G} {cy : Nat → ClassId} {ad : Nat → Nat} {H0 H : Heap} {M : zM} {locs : List Loc} (h : zH D lyR cy ad H0 M H locs) : -1 ≤ M.1 1 5 ∧ M.1 1 5 ≤ 60 := h.2.2.2 1 (by decide) 5 (-1) 60 rfl
theorem zH.booked {D : va_G} {cy : Nat → ClassId} {ad : Nat → Nat} {H0 H : Heap} {M : zM} {locs : List Loc} (h : zH D lyR cy ad H0 M H locs) : 0 ≤ M.1 1 13 ∧ M.1 1 13 ≤ 100 := h.2.2.2 1 (by decide) 13 0 100 rfl
theorem zH.taped {D : va_G} {cy : Nat → ClassId} {ad : Nat → Nat} {H0 H : Heap} {M : zM} {locs : List Loc} (h : zH D lyR cy ad H0 M H locs) : 0 ≤ M.1 0 5 ∧ M.1 0 5 ≤ 60 := h.2.2.2 0 (by decide) 5 0 60 rfl
theorem zH.longs {D : va_G} {cy : Nat → ClassId} {ad : Nat → Nat} {H0 H : Heap} {M : zM} {locs : List Loc} (h : zH D lyR cy ad H0 M H locs) (k : Nat) : 0 ≤ M.1 13 k ∧ M.1 13 k ≤ 40 := h.2.2.2 13 (by decide) k 0 40 rfl
theorem zclamp {x : Int32} {n : Nat} (m : Int32) (hm : m.toInt = n) (h : 0 ≤ x ∧ x ≤ m) : x.toNatClampNeg ≤ n := by
  obtain ⟨h0, h1⟩ := h
  rw [Int32.le_iff_toInt_le] at h0 h1
  show x.toInt.toNat ≤ n
  omega
theorem zH.here {D : va_G} {cy : Nat → ClassId} {ad : Nat → Nat} {H0 H : Heap} {M : zM} {locs : List Loc} (h : zH D lyR cy ad H0 M H locs) : 0 ≤ M.1 0 17 ∧ M.1 0 17 ≤ 60 := h.2.2.2 0 (by decide) 17 0 60 rfl
theorem zH.ncode {D : va_G} {cy : Nat → ClassId} {ad : Nat → Nat} {H0 H : Heap} {M : zM} {locs : List Loc} (h : zH D lyR cy ad H0 M H locs) : 0 ≤ M.1 0 16 ∧ M.1 0 16 ≤ 60 := h.2.2.2 0 (by decide) 16 0 60 rfl
theorem crS_hi {k : Nat} (h : 14 ≤ k) : crS k = none := by
  unfold crS
  split <;> first | omega | rfl
theorem zfitS {i v : Int32} (h : 14 ≤ i) : zFit (lyR.2.2.2.2 7 1 i.toNatClampNeg) v := by
  have h1 : 14 ≤ i.toNatClampNeg := by
    rw [Int32.le_iff_toInt_le] at h
    have : (14 : Int32).toInt = 14 := by decide
    show 14 ≤ i.toInt.toNat
    omega
  show zFit (crS i.toNatClampNeg) v
  rw [crS_hi h1]
  exact zcn
theorem zS3.cr {c : Nat} (h : zS3 c) (κ k : Nat) : lyR.2.2.2.2 κ c k = crS k := by rcases h with rfl | rfl | rfl <;> rfl
theorem zfitLay {D : va_G} {cy : Nat → ClassId} {ad : Nat → Nat} {H0 H : Heap} {M : zM} {locs : List Loc} {a b k : Nat} (h : zH D lyR cy ad H0 M H locs) (ha : zS3 a) (hb : zS3 b) : zFit (lyR.2.2.2.2 7 b k) (M.1 a k) := by
  rw [hb.cr]
  intro lo hi e
  exact h.2.2.2 a ha.is.1 k lo hi (by rw [ha.cr]; exact e)
end
section
/-! indices and counters, in ints -/
theorem zvin {x : Int32} {n : Nat} (m : Int32) (hm : m.toInt = n) : vp_in x n ↔ 0 ≤ x ∧ x < m := by
  rw [vp_in_iff, Int32.le_iff_toInt_le, Int32.lt_iff_toInt_lt, hm]
  have h0 : (0 : Int32).toInt = 0 := by decide
  rw [h0]
theorem zin4 {x : Int32} : vp_in x 4 ↔ 0 ≤ x ∧ x < 4 := zvin 4 (by decide)
theorem zin6 {x : Int32} : vp_in x 6 ↔ 0 ≤ x ∧ x < 6 := zvin 6 (by decide)
theorem zin7 {x : Int32} : vp_in x 7 ↔ 0 ≤ x ∧ x < 7 := zvin 7 (by decide)
theorem zin10 {x : Int32} : vp_in x 10 ↔ 0 ≤ x ∧ x < 10 := zvin 10 (by decide)
theorem zin40 {x : Int32} : vp_in x 40 ↔ 0 ≤ x ∧ x < 40 := zvin 40 (by decide)
theorem zin60 {x : Int32} : vp_in x 60 ↔ 0 ≤ x ∧ x < 60 := zvin 60 (by decide)
theorem zin64 {x : Int32} : vp_in x 64 ↔ 0 ≤ x ∧ x < 64 := zvin 64 (by decide)
theorem zin100 {x : Int32} : vp_in x 100 ↔ 0 ≤ x ∧ x < 100 := zvin 100 (by decide)
theorem zin160 {x : Int32} : vp_in x 160 ↔ 0 ≤ x ∧ x < 160 := zvin 160 (by decide)
theorem zin448 {x : Int32} : vp_in x 448 ↔ 0 ≤ x ∧ x < 448 := zvin 448 (by decide)
theorem zadd1 {x m : Int32} (h : x < m) : (x + 1).toInt = x.toInt + 1 := by
  rw [Int32.lt_iff_toInt_lt] at h
  have h1 : (1 : Int32).toInt = 1 := by decide
  have hm := Int32.toInt_lt m
  have hx := Int32.le_toInt x
  rw [Int32.toInt_add, h1]
  apply Int.bmod_eq_of_le <;> omega
theorem zsub1 {x m : Int32} (h : m < x) : (x - 1).toInt = x.toInt - 1 := by
  rw [Int32.lt_iff_toInt_lt] at h
  have h1 : (1 : Int32).toInt = 1 := by decide
  have hm := Int32.le_toInt m
  have hx := Int32.toInt_lt x
  rw [Int32.toInt_sub, h1]
  apply Int.bmod_eq_of_le <;> omega
/-- a counter that goes up to B, with fuel n left -/
def zCt (B : Int32) (n : Nat) (v : Int32) : Prop := 0 ≤ v ∧ v ≤ B ∧ B.toInt < v.toInt + n
theorem zCt.start {B : Int32} {n : Nat} (h0 : 0 ≤ B) (h : B.toInt < n) : zCt B n 0 := by
  refine ⟨by decide, h0, ?_⟩
  have : (0 : Int32).toInt = 0 := by decide
  omega
theorem zCt.begin {B v : Int32} {n : Nat} (h0 : 0 ≤ v) (h1 : v ≤ B) (h : B.toInt < n) : zCt B n v := ⟨h0, h1, by
  rw [Int32.le_iff_toInt_le] at h0
  have : (0 : Int32).toInt = 0 := by decide
  omega⟩
theorem zCt.zero {B v : Int32} (h : zCt B 0 v) : False := by
  obtain ⟨-, h1, h2⟩ := h
  rw [Int32.le_iff_toInt_le] at h1
  omega
theorem zCt.step {B v m : Int32} {n : Nat} (h : zCt B (n + 1) v) (hv : v < m) (hm : m ≤ B) : zCt B n (v + 1) := by
  obtain ⟨h0, h1, h2⟩ := h
  have h3 := zadd1 hv
  rw [Int32.lt_iff_toInt_lt] at hv
  rw [Int32.le_iff_toInt_le] at h0 h1 hm
  refine ⟨?_, ?_, ?_⟩
  · rw [Int32.le_iff_toInt_le]; omega
  · rw [Int32.le_iff_toInt_le]; omega
  · omega
/-- a counter that goes down to -1, with fuel n left -/
def zCd (B : Int32) (n : Nat) (v : Int32) : Prop := -1 ≤ v ∧ v ≤ B ∧ v.toInt + 1 < n
theorem zCd.begin {B v : Int32} {n : Nat} (h0 : -1 ≤ v) (h1 : v ≤ B) (h : B.toInt + 1 < n) : zCd B n v := ⟨h0, h1, by
  rw [Int32.le_iff_toInt_le] at h1
  omega⟩
theorem zCd.zero {B v : Int32} (h : zCd B 0 v) : False := by
  obtain ⟨h0, h1, h2⟩ := h
  rw [Int32.le_iff_toInt_le] at h0
  have : (-1 : Int32).toInt = -1 := by decide
  omega
theorem zCd.step {B v : Int32} {n : Nat} (h : zCd B (n + 1) v) (hv : 0 ≤ v) : zCd B n (v - 1) := by
  obtain ⟨h0, h1, h2⟩ := h
  have h9 : (-1 : Int32) < v := by
    rw [Int32.le_iff_toInt_le] at hv
    rw [Int32.lt_iff_toInt_lt]
    have : (-1 : Int32).toInt = -1 := by decide
    have : (0 : Int32).toInt = 0 := by decide
    omega
  have h3 := zsub1 h9
  have e1 : (-1 : Int32).toInt = -1 := by decide
  have e0 : (0 : Int32).toInt = 0 := by decide
  rw [Int32.le_iff_toInt_le] at h1 hv
  refine ⟨?_, ?_, ?_⟩
  · rw [Int32.le_iff_toInt_le]; omega
  · rw [Int32.le_iff_toInt_le]; omega
  · omega
/-- the same of a method of the machine's own classes -/
theorem zMetF {l : Launch} {y : MethodName} {cc : ByteArray} {maxL : Nat} {ret : Option FieldType} {rm : Room} {D : va_G} {ly : zLy} {cy : Nat → ClassId} {ad : Nat → Nat} {vals : List Value} {M : zM} {Qc : Array Value → State → Outcome → State → Prop} (hy : plainFor y = true) (hle : (lg_sl vals).length ≤ maxL)
    (body : ∀ (p : Program) (e : Env) (s : State) (m : MethodId) (args : Array Value) (below : List Frame) (meth : Method) (c : Code) (ls : Array Slot), zF ly ad p m c cc maxL s args y.cls (Cond.code y cc maxL ret) D cy meth ret → zH D ly cy ad s.heap M s.heap [] → lv_has ls maxL (lv_args 0 vals) → W p l e rm s m args below meth c s.heap [] 0 0 (MQ below Qc args s 0 0 (zA ly ad)) (F0 m 0 ls [])) :
    Met l y (Cond.code y cc maxL ret :: zG) rm (zP D ly cy ad vals M) Qc 0 0 (zA ly ad) := by
  refine va_MetF (cc := cc) (maxL := maxL) (ret := ret) hy rfl ?_
  intro p e s m args below meth c s₁ B hml hv
  obtain ⟨rfl, hP, hK, hD, hN, hU, hV⟩ := hv
  have hl := lv_entry vals (n := maxL) hle
  rw [lg_entry_eq]
  exact body p e s m _ below meth c _ ⟨⟨B.exec, B.bytes, hml, findClass_of_methodNamed B.named, atoms_spec (ws := Cond.code y cc maxL ret :: zG) B.pre⟩, hK, hN, B.returns, B.notSynchronized, hU⟩ ⟨hP, hD, va_S.rf, hV⟩ hl
theorem zmx_ne (q : Int32) : ¬ (if (1 : Int32) < q then q else (1 : Int32)).toInt64 = 0 := by
  intro h
  have h1 := congrArg Int64.toInt h
  rw [Int32.toInt_toInt64] at h1
  have h0 : (0 : Int64).toInt = 0 := by decide
  rw [h0] at h1
  split at h1
  · rename_i hq
    rw [Int32.lt_iff_toInt_lt] at hq
    have : (1 : Int32).toInt = 1 := by decide
    omega
  · exact absurd h1 (by decide)
theorem zcp60 {x : Int32} (h : 0 ≤ x ∧ x ≤ 60) : (0 : Int32).toNatClampNeg + x.toNatClampNeg ≤ 60 := by
  have h1 := zclamp 60 (n := 60) (by decide) h
  have h2 : (0 : Int32).toNatClampNeg = 0 := by decide
  omega
theorem zfst {α β : Type} {a : α} {b : β} {r : α × β} (h : (a, b) = r) : a = r.1 := by rw [← h]
theorem zsnd {α β : Type} {a : α} {b : β} {r : α × β} (h : (a, b) = r) : b = r.2 := by rw [← h]
theorem zoff {v : Int32} {N : Nat} (K m : Int32) (h0 : 0 ≤ v) (h1 : v ≤ m) (hd : 0 ≤ K.toInt ∧ K.toInt + m.toInt < N ∧ K.toInt + m.toInt < 2147483648) : vp_in (K + v) N := by
  rw [Int32.le_iff_toInt_le] at h0 h1
  have z0 : (0 : Int32).toInt = 0 := by decide
  rw [z0] at h0
  have e : (K + v).toInt = K.toInt + v.toInt := by
    rw [Int32.toInt_add]
    apply Int.bmod_eq_of_le <;> omega
  rw [vp_in_iff, e]
  omega
theorem zoff1 {v : Int32} {N : Nat} (K m : Int32) (h0 : 0 ≤ v) (h1 : v ≤ m) (hd : 0 ≤ K.toInt ∧ K.toInt + m.toInt + 1 < N ∧ K.toInt + m.toInt + 1 < 2147483648) : vp_in (K + v + 1) N := by
  rw [Int32.le_iff_toInt_le] at h0 h1
  have z0 : (0 : Int32).toInt = 0 := by decide
  have z1 : (1 : Int32).toInt = 1 := by decide
  rw [z0] at h0
  have e : (K + v + 1).toInt = K.toInt + v.toInt + 1 := by
    rw [Int32.toInt_add, Int32.toInt_add, z1]
    rw [Int.bmod_eq_of_le (n := K.toInt + v.toInt) (by omega) (by omega)]
    apply Int.bmod_eq_of_le <;> omega
  rw [vp_in_iff, e]
  omega
end
section
theorem kq_X5_within : zCalS yX5_within cX5_within 3 (some .boolean) 3 := ⟨kT_X5_within, kC_X5, kD_X5_within, by decide, by decide, by decide +kernel⟩
theorem kq_X5_finding : zCal RX5 yX5_finding cX5_finding 3 (some .int) 1 := ⟨kI_X5_finding, kS_X5_finding, kC_X5, kD_X5_finding, rfl, by decide, by decide, by decide +kernel⟩
theorem kq_X0_begin : zCal RX0 yX0_begin cX0_begin 5 none 4 := ⟨kI_X0_begin, kS_X0_begin, kC_X0, kD_X0_begin, rfl, by decide, by decide, by decide +kernel⟩
theorem kq_X5_block : zCal RX5 yX5_block cX5_block 6 (some .int) 4 := ⟨kI_X5_block, kS_X5_block, kC_X5, kD_X5_block, rfl, by decide, by decide, by decide +kernel⟩
theorem kq_X2_has : zCal RX2 yX2_has cX2_has 2 (some .boolean) 1 := ⟨kI_X2_has, kS_X2_has, kC_X2, kD_X2_has, rfl, by decide, by decide, by decide +kernel⟩
theorem kq_X2_pullOf : zCal RX2 yX2_pullOf cX2_pullOf 6 (some .int) 1 := ⟨kI_X2_pullOf, kS_X2_pullOf, kC_X2, kD_X2_pullOf, rfl, by decide, by decide, by decide +kernel⟩
theorem kq_X0_plainHolds : zCal RX0 yX0_plainHolds cX0_plainHolds 2 (some .int) 1 := ⟨kI_X0_plainHolds, kS_X0_plainHolds, kC_X0, kD_X0_plainHolds, rfl, by decide, by decide, by decide +kernel⟩
theorem kq_X0_rustyHolds : zCal RX0 yX0_rustyHolds cX0_rustyHolds 2 (some .int) 1 := ⟨kI_X0_rustyHolds, kS_X0_rustyHolds, kC_X0, kD_X0_rustyHolds, rfl, by decide, by decide, by decide +kernel⟩
theorem kq_X0_oiledHolds : zCal RX0 yX0_oiledHolds cX0_oiledHolds 2 (some .int) 1 := ⟨kI_X0_oiledHolds, kS_X0_oiledHolds, kC_X0, kD_X0_oiledHolds, rfl, by decide, by decide, by decide +kernel⟩
theorem kq_X4_pass : zCal RX4 yX4_pass cX4_pass 2 none 1 := ⟨kI_X4_pass, kS_X4_pass, kC_X4, kD_X4_pass, rfl, by decide, by decide, by decide +kernel⟩
theorem kq_X4_named : zCal RX4 yX4_named cX4_named 2 (some .int) 1 := ⟨kI_X4_named, kS_X4_named, kC_X4, kD_X4_named, rfl, by decide, by decide, by decide +kernel⟩
theorem kq_X4_isName : zCalS yX4_isName cX4_isName 1 (some .boolean) 1 := ⟨kT_X4_isName, kC_X4, kD_X4_isName, by decide, by decide, by decide +kernel⟩
theorem kq_X4_factor : zCal RX4 yX4_factor cX4_factor 5 (some .int) 1 := ⟨kI_X4_factor, kS_X4_factor, kC_X4, kD_X4_factor, rfl, by decide, by decide, by decide +kernel⟩
theorem kq_X4_product : zCal RX4 yX4_product cX4_product 6 (some .int) 1 := ⟨kI_X4_product, kS_X4_product, kC_X4, kD_X4_product, rfl, by decide, by decide, by decide +kernel⟩
theorem kq_X4_sum : zCal RX4 yX4_sum cX4_sum 6 (some .int) 1 := ⟨kI_X4_sum, kS_X4_sum, kC_X4, kD_X4_sum, rfl, by decide, by decide, by decide +kernel⟩
theorem kq_X4_readAll : zCal RX4 yX4_readAll cX4_readAll 2 (some .int) 0 := ⟨kI_X4_readAll, kS_X4_readAll, kC_X4, kD_X4_readAll, rfl, by decide, by decide, by decide +kernel⟩
theorem kq_X4_valueFor : zCal RX4 yX4_valueFor cX4_valueFor 5 (some .int) 4 := ⟨kI_X4_valueFor, kS_X4_valueFor, kC_X4, kD_X4_valueFor, rfl, by decide, by decide, by decide +kernel⟩
theorem kq_X2_holdsOf : zCal RX2 yX2_holdsOf cX2_holdsOf 4 (some .int) 2 := ⟨kI_X2_holdsOf, kS_X2_holdsOf, kC_X2, kD_X2_holdsOf, rfl, by decide, by decide, by decide +kernel⟩
theorem kq_X5_of : zCal RX5 yX5_of cX5_of 4 (some .int) 2 := ⟨kI_X5_of, kS_X5_of, kC_X5, kD_X5_of, rfl, by decide, by decide, by decide +kernel⟩
theorem kq_X5_canBecome : zCalS yX5_canBecome cX5_canBecome 2 (some .boolean) 2 := ⟨kT_X5_canBecome, kC_X5, kD_X5_canBecome, by decide, by decide, by decide +kernel⟩
theorem kq_X5_set : zCal RX5 yX5_set cX5_set 6 (some .int) 3 := ⟨kI_X5_set, kS_X5_set, kC_X5, kD_X5_set, rfl, by decide, by decide, by decide +kernel⟩
theorem kq_X5_isOf : zCalS yX5_isOf cX5_isOf 4 (some .boolean) 2 := ⟨kT_X5_isOf, kC_X5, kD_X5_isOf, by decide, by decide, by decide +kernel⟩
theorem kq_X5_as : zCal RX5 yX5_as cX5_as 4 (some .int) 2 := ⟨kI_X5_as, kS_X5_as, kC_X5, kD_X5_as, rfl, by decide, by decide, by decide +kernel⟩
theorem kq_X5_holds : zCal RX5 yX5_holds cX5_holds 3 (some .int) 2 := ⟨kI_X5_holds, kS_X5_holds, kC_X5, kD_X5_holds, rfl, by decide, by decide, by decide +kernel⟩
theorem kq_X0_rubsBy : zCal RX0 yX0_rubsBy cX0_rubsBy 2 (some .int) 1 := ⟨kI_X0_rubsBy, kS_X0_rubsBy, kC_X0, kD_X0_rubsBy, rfl, by decide, by decide, by decide +kernel⟩
theorem kq_X5_rubs : zCal RX5 yX5_rubs cX5_rubs 3 (some .int) 2 := ⟨kI_X5_rubs, kS_X5_rubs, kC_X5, kD_X5_rubs, rfl, by decide, by decide, by decide +kernel⟩
theorem kq_X5_push : zCal RX5 yX5_push cX5_push 4 (some .int) 2 := ⟨kI_X5_push, kS_X5_push, kC_X5, kD_X5_push, rfl, by decide, by decide, by decide +kernel⟩
theorem kq_X5_oil : zCal RX5 yX5_oil cX5_oil 4 (some .int) 2 := ⟨kI_X5_oil, kS_X5_oil, kC_X5, kD_X5_oil, rfl, by decide, by decide, by decide +kernel⟩
theorem kq_X5_pace : zCal RX5 yX5_pace cX5_pace 3 (some .int) 1 := ⟨kI_X5_pace, kS_X5_pace, kC_X5, kD_X5_pace, rfl, by decide, by decide, by decide +kernel⟩
theorem kq_X0_startTick : zCal RX0 yX0_startTick cX0_startTick 2 none 1 := ⟨kI_X0_startTick, kS_X0_startTick, kC_X0, kD_X0_startTick, rfl, by decide, by decide, by decide +kernel⟩
theorem kq_X0_move : zCal RX0 yX0_move cX0_move 7 none 1 := ⟨kI_X0_move, kS_X0_move, kC_X0, kD_X0_move, rfl, by decide, by decide, by decide +kernel⟩
theorem kq_X2_round : zCal RX2 yX2_round cX2_round 4 (some .boolean) 0 := ⟨kI_X2_round, kS_X2_round, kC_X2, kD_X2_round, rfl, by decide, by decide, by decide +kernel⟩
theorem kq_X0_endTick : zCal RX0 yX0_endTick cX0_endTick 1 none 0 := ⟨kI_X0_endTick, kS_X0_endTick, kC_X0, kD_X0_endTick, rfl, by decide, by decide, by decide +kernel⟩
theorem kq_X2_tick : zCal RX2 yX2_tick cX2_tick 3 none 0 := ⟨kI_X2_tick, kS_X2_tick, kC_X2, kD_X2_tick, rfl, by decide, by decide, by decide +kernel⟩
theorem kq_X1_classOf : zCalS yX1_classOf cX1_classOf 2 (some .int) 1 := ⟨kT_X1_classOf, kC_X1, kD_X1_classOf, by decide, by decide, by decide +kernel⟩
theorem kq_X1_enter : zCal RX1 yX1_enter cX1_enter 2 none 1 := ⟨kI_X1_enter, kS_X1_enter, kC_X1, kD_X1_enter, rfl, by decide, by decide, by decide +kernel⟩
theorem kq_X5_ticks : zCal RX5 yX5_ticks cX5_ticks 3 (some .int) 1 := ⟨kI_X5_ticks, kS_X5_ticks, kC_X5, kD_X5_ticks, rfl, by decide, by decide, by decide +kernel⟩
theorem kq_X5_until : zCal RX5 yX5_until cX5_until 4 (some .int) 2 := ⟨kI_X5_until, kS_X5_until, kC_X5, kD_X5_until, rfl, by decide, by decide, by decide +kernel⟩
theorem kq_J9_floorMod_7cf53 : zCalS yJ9_floorMod_7cf53 cJ9_floorMod_7cf53 3 (some .int) 2 := ⟨kT_J_floorMod, kC_Math, kD_J_floorMod, by decide, by decide, by decide +kernel⟩
theorem kq_X1_slot : zCal RX1 yX1_slot cX1_slot 2 (some .int) 1 := ⟨kI_X1_slot, kS_X1_slot, kC_X1, kD_X1_slot, rfl, by decide, by decide, by decide +kernel⟩
theorem kq_X5_book : zCal RX5 yX5_book cX5_book 3 (some .int) 2 := ⟨kI_X5_book, kS_X5_book, kC_X5, kD_X5_book, rfl, by decide, by decide, by decide +kernel⟩
theorem kq_X5_counts : zCal RX5 yX5_counts cX5_counts 2 (some .int) 1 := ⟨kI_X5_counts, kS_X5_counts, kC_X5, kD_X5_counts, rfl, by decide, by decide, by decide +kernel⟩
theorem kq_X5_power : zCal RX5 yX5_power cX5_power 2 (some .int) 0 := ⟨kI_X5_power, kS_X5_power, kC_X5, kD_X5_power, rfl, by decide, by decide, by decide +kernel⟩
theorem kq_X5_tone : zCal RX5 yX5_tone cX5_tone 3 (some .int) 0 := ⟨kI_X5_tone, kS_X5_tone, kC_X5, kD_X5_tone, rfl, by decide, by decide, by decide +kernel⟩
theorem kq_X5_great : zCal RX5 yX5_great cX5_great 6 (some .int) 2 := ⟨kI_X5_great, kS_X5_great, kC_X5, kD_X5_great, rfl, by decide, by decide, by decide +kernel⟩
theorem kq_X5_noise : zCal RX5 yX5_noise cX5_noise 6 (some .long) 1 := ⟨kI_X5_noise, kS_X5_noise, kC_X5, kD_X5_noise, rfl, by decide, by decide, by decide +kernel⟩
theorem kq_X4_copyFrom : zCal RX4 yX4_copyFrom cX4_copyFrom 2 none 1 := ⟨kI_X4_copyFrom, kS_X4_copyFrom, kC_X4, kD_X4_copyFrom, rfl, by decide, by decide, by decide +kernel⟩
theorem kq_X0_copyFrom : zCal RX0 yX0_copyFrom cX0_copyFrom 2 none 1 := ⟨kI_X0_copyFrom, kS_X0_copyFrom, kC_X0, kD_X0_copyFrom, rfl, by decide, by decide, by decide +kernel⟩
theorem kq_X2_copyFrom : zCal RX2 yX2_copyFrom cX2_copyFrom 3 none 1 := ⟨kI_X2_copyFrom, kS_X2_copyFrom, kC_X2, kD_X2_copyFrom, rfl, by decide, by decide, by decide +kernel⟩
theorem kq_X5_ahead : zCal RX5 yX5_ahead cX5_ahead 7 (some .int) 2 := ⟨kI_X5_ahead, kS_X5_ahead, kC_X5, kD_X5_ahead, rfl, by decide, by decide, by decide +kernel⟩
theorem kq_X5_from : zCal RX5 yX5_from cX5_from 5 (some .int) 1 := ⟨kI_X5_from, kS_X5_from, kC_X5, kD_X5_from, rfl, by decide, by decide, by decide +kernel⟩
theorem kq_X5_still : zCal RX5 yX5_still cX5_still 7 (some .int) 3 := ⟨kI_X5_still, kS_X5_still, kC_X5, kD_X5_still, rfl, by decide, by decide, by decide +kernel⟩
theorem kq_X3_isMissing : zCal RX3 yX3_isMissing cX3_isMissing 1 (some .boolean) 0 := ⟨kI_X3_isMissing, kS_X3_isMissing, kC_X3, kD_X3_isMissing, rfl, by decide, by decide, by decide +kernel⟩
theorem kq_X5_which : zCal RX5 yX5_which cX5_which 8 (some .int) 2 := ⟨kI_X5_which, kS_X5_which, kC_X5, kD_X5_which, rfl, by decide, by decide, by decide +kernel⟩
theorem kq_X5_together : zCal RX5 yX5_together cX5_together 6 (some .int) 3 := ⟨kI_X5_together, kS_X5_together, kC_X5, kD_X5_together, rfl, by decide, by decide, by decide +kernel⟩
theorem kq_X5_feed : zCal RX5 yX5_feed cX5_feed 4 (some .int) 2 := ⟨kI_X5_feed, kS_X5_feed, kC_X5, kD_X5_feed, rfl, by decide, by decide, by decide +kernel⟩
theorem kq_X5_wipe : zCal RX5 yX5_wipe cX5_wipe 2 (some .int) 0 := ⟨kI_X5_wipe, kS_X5_wipe, kC_X5, kD_X5_wipe, rfl, by decide, by decide, by decide +kernel⟩
theorem kq_X4_findFault : zCal RX4 yX4_findFault cX4_findFault 1 (some .int) 0 := ⟨kI_X4_findFault, kS_X4_findFault, kC_X4, kD_X4_findFault, rfl, by decide, by decide, by decide +kernel⟩
theorem kq_X5_law : zCal RX5 yX5_law cX5_law 2 (some .int) 0 := ⟨kI_X5_law, kS_X5_law, kC_X5, kD_X5_law, rfl, by decide, by decide, by decide +kernel⟩
theorem kq_X5_plain : zCal RX5 yX5_plain cX5_plain 2 (some .int) 0 := ⟨kI_X5_plain, kS_X5_plain, kC_X5, kD_X5_plain, rfl, by decide, by decide, by decide +kernel⟩
theorem kq_X5_says : zCal RX5 yX5_says cX5_says 3 (some .int) 1 := ⟨kI_X5_says, kS_X5_says, kC_X5, kD_X5_says, rfl, by decide, by decide, by decide +kernel⟩
theorem kq_X3_begin : zCal RX3 yX3_begin cX3_begin 4 none 2 := ⟨kI_X3_begin, kS_X3_begin, kC_X3, kD_X3_begin, rfl, by decide, by decide, by decide +kernel⟩
theorem kq_X5_sheet : zCal RX5 yX5_sheet cX5_sheet 4 (some .int) 3 := ⟨kI_X5_sheet, kS_X5_sheet, kC_X5, kD_X5_sheet, rfl, by decide, by decide, by decide +kernel⟩
theorem kq_X3_lowestBits : zCal RX3 yX3_lowestBits cX3_lowestBits 3 (some .long) 1 := ⟨kI_X3_lowestBits, kS_X3_lowestBits, kC_X3, kD_X3_lowestBits, rfl, by decide, by decide, by decide +kernel⟩
theorem kq_X5_write : zCal RX5 yX5_write cX5_write 8 (some .long) 3 := ⟨kI_X5_write, kS_X5_write, kC_X5, kD_X5_write, rfl, by decide, by decide, by decide +kernel⟩
theorem kq_X3_hasPart : zCal RX3 yX3_hasPart cX3_hasPart 3 (some .boolean) 2 := ⟨kI_X3_hasPart, kS_X3_hasPart, kC_X3, kD_X3_hasPart, rfl, by decide, by decide, by decide +kernel⟩
theorem kq_X5_copy : zCal RX5 yX5_copy cX5_copy 8 (some .int) 5 := ⟨kI_X5_copy, kS_X5_copy, kC_X5, kD_X5_copy, rfl, by decide, by decide, by decide +kernel⟩
theorem kq_X5_draws : zCal RX5 yX5_draws cX5_draws 8 (some .int) 1 := ⟨kI_X5_draws, kS_X5_draws, kC_X5, kD_X5_draws, rfl, by decide, by decide, by decide +kernel⟩
theorem kq_X5_read : zCal RX5 yX5_read cX5_read 4 (some .int) 1 := ⟨kI_X5_read, kS_X5_read, kC_X5, kD_X5_read, rfl, by decide, by decide, by decide +kernel⟩
theorem kq_X1_copyFrom : zCal RX1 yX1_copyFrom cX1_copyFrom 2 none 1 := ⟨kI_X1_copyFrom, kS_X1_copyFrom, kC_X1, kD_X1_copyFrom, rfl, by decide, by decide, by decide +kernel⟩
theorem kq_X5_image : zCal RX5 yX5_image cX5_image 1 (some .int) 0 := ⟨kI_X5_image, kS_X5_image, kC_X5, kD_X5_image, rfl, by decide, by decide, by decide +kernel⟩
theorem kq_X5_undo : zCal RX5 yX5_undo cX5_undo 1 (some .int) 0 := ⟨kI_X5_undo, kS_X5_undo, kC_X5, kD_X5_undo, rfl, by decide, by decide, by decide +kernel⟩
theorem kq_X5_tear : zCal RX5 yX5_tear cX5_tear 2 (some .int) 0 := ⟨kI_X5_tear, kS_X5_tear, kC_X5, kD_X5_tear, rfl, by decide, by decide, by decide +kernel⟩
theorem kq_X5_count : zCal RX5 yX5_count cX5_count 2 (some .int) 1 := ⟨kI_X5_count, kS_X5_count, kC_X5, kD_X5_count, rfl, by decide, by decide, by decide +kernel⟩
theorem kq_X5_status : zCal RX5 yX5_status cX5_status 4 (some .int) 1 := ⟨kI_X5_status, kS_X5_status, kC_X5, kD_X5_status, rfl, by decide, by decide, by decide +kernel⟩
def f_X5_within (p0 : Int32) (p1 : Int32) (p2 : Int32) : Int32 :=
(if p0 < p1 then
(0 : Int32)
else
(if p2 < p0 then
(0 : Int32)
else
(1 : Int32)))
def f_X5_finding (p1 : Int32) (M : zM) : Int32 × zM :=
(let x1 : Int32 := ((-1000000001 : Int32) - p1);
(let x3 : Int32 := f_X5_within x1 (0 : Int32) (6 : Int32);
(if x3 = (0 : Int32) then
(p1, M)
else
(let m5 : zM := zpI M 64 x1.toNatClampNeg ((M.1 64 x1.toNatClampNeg) + (1 : Int32));
(p1, m5)))))
def f_X0_begin (a0 : Nat) (p1 : Int32) (p2 : Int32) (p3 : Int32) (p4 : Int32) (M : zM) : zM :=
(let m1 : zM := zpI M a0 0 p1;
(let m2 : zM := zpI m1 a0 1 p2;
(let m3 : zM := zpI m2 a0 2 p3;
(let m4 : zM := zpI m3 a0 3 p4;
(let m5 : zM := zpI m4 a0 4 (0 : Int32);
(let m6 : zM := zpI m5 a0 5 (0 : Int32);
(let m7 : zM := zpI m6 a0 6 (0 : Int32);
m7)))))))
def f_X5_block_42 (p1 : Int32) (p2 : Int32) (p3 : Int32) (p4 : Int32) (mm : zM) : Int32 × zM :=
(let x19 : Int32 × zM := f_X5_finding (-1000000001 : Int32) mm;
((x19.1), (x19.2)))
def f_X5_block (p1 : Int32) (p2 : Int32) (p3 : Int32) (p4 : Int32) (M : zM) : Int32 × zM :=
(let x2 : Int32 := f_X5_within p1 (0 : Int32) (5 : Int32);
(if x2 = (0 : Int32) then
f_X5_block_42 p1 p2 p3 p4 M
else
(let x5 : Int32 := f_X5_within p2 (1 : Int32) (999 : Int32);
(if x5 = (0 : Int32) then
f_X5_block_42 p1 p2 p3 p4 M
else
(let x8 : Int32 := f_X5_within p3 (0 : Int32) (999 : Int32);
(if x8 = (0 : Int32) then
f_X5_block_42 p1 p2 p3 p4 M
else
(let x11 : Int32 := f_X5_within p4 (0 : Int32) (99 : Int32);
(if x11 = (0 : Int32) then
f_X5_block_42 p1 p2 p3 p4 M
else
(if (M.1 1 1) < (10 : Int32) then
(let x14 : Int32 := (M.1 1 1);
(let m16 : zM := f_X0_begin (3 + x14.toNatClampNeg) p1 p2 p3 p4 M;
(let m17 : zM := zpI m16 1 1 ((m16.1 1 1) + (1 : Int32));
(x14, m17))))
else
(let x18 : Int32 × zM := f_X5_finding (-1000000002 : Int32) M;
((x18.1), (x18.2))))))))))))
def f_X2_has (a0 : Nat) (p1 : Int32) (M : zM) : Int32 :=
(if p1 < (0 : Int32) then
(0 : Int32)
else
(if (M.1 a0 1) ≤ p1 then
(0 : Int32)
else
(1 : Int32)))
def f_X2_pullOf_29 (a0 : Nat) (p1 : Int32) (M : zM) (c2 : Nat) (s0 : Int32) : Int32 :=
(let x4 : Int32 := ((M.1 c2 3) * (s0 - (M.1 c2 5)));
(if (M.1 a0 1) ≤ (p1 + (1 : Int32)) then
x4
else
(let x7 : Int32 := (x4 - ((M.1 ((a0 + 2) + (p1 + (1 : Int32)).toNatClampNeg) 3) * ((M.1 c2 5) - (M.1 ((a0 + 2) + (p1 + (1 : Int32)).toNatClampNeg) 5))));
x7)))
def f_X2_pullOf (a0 : Nat) (p1 : Int32) (M : zM) : Int32 :=
(if p1 = (0 : Int32) then
f_X2_pullOf_29 a0 p1 M ((a0 + 2) + p1.toNatClampNeg) (M.1 a0 2)
else
f_X2_pullOf_29 a0 p1 M ((a0 + 2) + p1.toNatClampNeg) (M.1 ((a0 + 2) + (p1 - (1 : Int32)).toNatClampNeg) 5))
def f_X0_plainHolds (a0 : Nat) (p1 : Int32) (M : zM) : Int32 :=
(let x1 : Int32 := (p1 / (4 : Int32));
((M.1 a0 1) + (if x1 < (50 : Int32) then x1 else (50 : Int32))))
def f_X0_rustyHolds (a0 : Nat) (p1 : Int32) (M : zM) : Int32 :=
(let x1 : Int32 := f_X0_plainHolds a0 p1 M;
(x1 + p1))
def f_X0_oiledHolds (a0 : Nat) (p1 : Int32) (M : zM) : Int32 :=
(let x1 : Int32 := f_X0_plainHolds a0 p1 M;
(let x2 : Int32 := ((x1 / (2 : Int32)) - (M.1 a0 4));
(if (0 : Int32) < x2 then x2 else (0 : Int32))))
def f_X4_pass_54 (a0 : Nat) (p1 : Int32) (mm : zM) : zM :=
(if (0 : Int32) ≤ (mm.1 a0 4) then
(let m8 : zM := zpI mm a0 3 (-1 : Int32);
m8)
else
(if (mm.1 a0 1) ≤ (mm.1 a0 2) then
(let m10 : zM := zpI mm a0 3 (-1 : Int32);
m10)
else
(let m11 : zM := zpI mm a0 3 (mm.1 (a0 + 1) (mm.1 a0 2).toNatClampNeg);
m11)))
def f_X4_pass_39 (a0 : Nat) (p1 : Int32) (mm : zM) : zM :=
(if (0 : Int32) ≤ (mm.1 a0 4) then
f_X4_pass_54 a0 p1 mm
else
(let m6 : zM := zpI mm a0 4 (mm.1 a0 2);
f_X4_pass_54 a0 p1 m6))
def f_X4_pass (a0 : Nat) (p1 : Int32) (M : zM) : zM :=
(if (0 : Int32) ≤ (M.1 a0 4) then
f_X4_pass_39 a0 p1 M
else
(if (M.1 a0 1) ≤ (M.1 a0 2) then
f_X4_pass_39 a0 p1 M
else
(if (M.1 a0 3) = p1 then
(let m4 : zM := zpI M a0 2 ((M.1 a0 2) + (1 : Int32));
f_X4_pass_54 a0 p1 m4)
else
f_X4_pass_39 a0 p1 M)))
def f_X4_named (a0 : Nat) (p1 : Int32) (M : zM) : Int32 :=
(if p1 = (98 : Int32) then
(M.1 a0 6)
else
(if p1 = (100 : Int32) then
(M.1 a0 9)
else
(if p1 = (103 : Int32) then
(M.1 a0 7)
else
(if p1 = (107 : Int32) then
(M.1 a0 8)
else
(if p1 = (112 : Int32) then
(M.1 a0 10)
else
(if p1 = (115 : Int32) then
(M.1 a0 5)
else
(0 : Int32)))))))
def f_X4_isName (p0 : Int32) : Int32 :=
(if p0 = (115 : Int32) then
(1 : Int32)
else
(if p0 = (98 : Int32) then
(1 : Int32)
else
(if p0 = (103 : Int32) then
(1 : Int32)
else
(if p0 = (107 : Int32) then
(1 : Int32)
else
(if p0 = (100 : Int32) then
(1 : Int32)
else
(if p0 = (112 : Int32) then
(1 : Int32)
else
(0 : Int32)))))))
def f_X4_factor_22 (Fsum Ffac : Nat → Int32 → zM → Int32 × zM) (a0 : Nat) (p1 : Int32) : Nat → Int32 → Int32 → zM → (Int32 × zM)
  | 0, v3, v4, mm => (0, mm)
  | n22 + 1, v3, v4, mm => (if (3 : Int32) ≤ v4 then
(v3, mm)
else
(if (mm.1 a0 3) < (48 : Int32) then
(v3, mm)
else
(if (57 : Int32) < (mm.1 a0 3) then
(v3, mm)
else
(let x14 : Int32 := ((((10 : Int32) * v3) + (mm.1 a0 3)) - (48 : Int32));
(let m15 : zM := f_X4_pass a0 (mm.1 a0 3) mm;
f_X4_factor_22 Fsum Ffac a0 p1 n22 x14 (v4 + (1 : Int32)) m15)))))
def f_X4_factor_172 (Fsum Ffac : Nat → Int32 → zM → Int32 × zM) (a0 : Nat) (p1 : Int32) (v3 : Int32) (s0 : Int32) (mm : zM) : Int32 × zM :=
(let m30 : zM := f_X4_pass a0 s0 mm;
(v3, m30))
def f_X4_factor_158 (Fsum Ffac : Nat → Int32 → zM → Int32 × zM) (a0 : Nat) (p1 : Int32) (v2 : Int32) (v3 : Int32) (mm : zM) : Int32 × zM :=
(if v2 = (91 : Int32) then
f_X4_factor_172 Fsum Ffac a0 p1 v3 (93 : Int32) mm
else
f_X4_factor_172 Fsum Ffac a0 p1 v3 (41 : Int32) mm)
def f_X4_factor_93 (Fsum Ffac : Nat → Int32 → zM → Int32 × zM) (a0 : Nat) (p1 : Int32) (v2 : Int32) (mm : zM) : Int32 × zM :=
(if p1 < (5 : Int32) then
(let m17 : zM := f_X4_pass a0 v2 mm;
(if v2 = (45 : Int32) then
(let x26 : Int32 × zM := Ffac a0 (p1 + (1 : Int32)) m17;
((-(x26.1)), (x26.2)))
else
(let x19 : Int32 × zM := Fsum a0 (p1 + (1 : Int32)) m17;
(let x20 : Int32 := (x19.1);
(if v2 = (91 : Int32) then
(let m22 : zM := f_X4_pass a0 (44 : Int32) (x19.2);
(let x23 : Int32 × zM := Fsum a0 (p1 + (1 : Int32)) m22;
(let x24 : Int32 := (x23.1);
(let x25 : Int32 := (if x20 < x24 then x24 else x20);
f_X4_factor_158 Fsum Ffac a0 p1 v2 x25 (x23.2)))))
else
f_X4_factor_158 Fsum Ffac a0 p1 v2 x20 (x19.2))))))
else
(let m27 : zM := f_X4_pass a0 (-2 : Int32) mm;
((0 : Int32), m27)))
def f_X4_factor_197 (Fsum Ffac : Nat → Int32 → zM → Int32 × zM) (a0 : Nat) (p1 : Int32) (v3 : Int32) (s0 : Int32) (mm : zM) : Int32 × zM :=
(let m28 : zM := f_X4_pass a0 s0 mm;
(v3, m28))
def f_X4_factor_75 (Fsum Ffac : Nat → Int32 → zM → Int32 × zM) (a0 : Nat) (p1 : Int32) (v2 : Int32) (mm : zM) : Int32 × zM :=
(if v2 = (45 : Int32) then
f_X4_factor_93 Fsum Ffac a0 p1 v2 mm
else
(if v2 = (40 : Int32) then
f_X4_factor_93 Fsum Ffac a0 p1 v2 mm
else
(if v2 = (91 : Int32) then
f_X4_factor_93 Fsum Ffac a0 p1 v2 mm
else
(let x7 : Int32 := f_X4_named a0 v2 mm;
(let x9 : Int32 := f_X4_isName v2;
(if x9 = (0 : Int32) then
f_X4_factor_197 Fsum Ffac a0 p1 x7 (-2 : Int32) mm
else
f_X4_factor_197 Fsum Ffac a0 p1 x7 v2 mm))))))
def f_X4_factor (Fsum Ffac : Nat → Int32 → zM → Int32 × zM) (a0 : Nat) (p1 : Int32) (M : zM) : Int32 × zM :=
(let x1 : Int32 := (M.1 a0 3);
(if x1 < (48 : Int32) then
f_X4_factor_75 Fsum Ffac a0 p1 x1 M
else
(if (57 : Int32) < x1 then
f_X4_factor_75 Fsum Ffac a0 p1 x1 M
else
f_X4_factor_22 Fsum Ffac a0 p1 (4) (0 : Int32) (0 : Int32) M)))
def f_X4_product_32 (Ffac : Nat → Int32 → zM → Int32 × zM) (a0 : Nat) (p1 : Int32) (k8 : Int32 → Int32 → zM → (Int32 × zM)) (v2 : Int32) (v3 : Int32) (mm : zM) : Int32 × zM :=
(let x6 : Int32 := (mm.1 a0 3);
(let m7 : zM := f_X4_pass a0 x6 mm;
(let x8 : Int32 × zM := Ffac a0 p1 m7;
(let x9 : Int32 := (x8.1);
(if x6 = (42 : Int32) then
(let x13 : Int32 := (v2 * x9);
k8 x13 (v3 + (1 : Int32)) (x8.2))
else
(if x9 = (0 : Int32) then
k8 (0 : Int32) (v3 + (1 : Int32)) (x8.2)
else
(let x12 : Int32 := (v2 / x9);
k8 x12 (v3 + (1 : Int32)) (x8.2))))))))
def f_X4_product_8 (Ffac : Nat → Int32 → zM → Int32 × zM) (a0 : Nat) (p1 : Int32) : Nat → Int32 → Int32 → zM → (Int32 × zM)
  | 0, v2, v3, mm => (0, mm)
  | n8 + 1, v2, v3, mm => (if (60 : Int32) ≤ v3 then
(v2, mm)
else
(if (mm.1 a0 3) = (42 : Int32) then
f_X4_product_32 Ffac a0 p1 (fun wv2 wv3 wmm => f_X4_product_8 Ffac a0 p1 n8 wv2 wv3 wmm) v2 v3 mm
else
(if (mm.1 a0 3) = (47 : Int32) then
f_X4_product_32 Ffac a0 p1 (fun wv2 wv3 wmm => f_X4_product_8 Ffac a0 p1 n8 wv2 wv3 wmm) v2 v3 mm
else
(v2, mm))))
def f_X4_product (Ffac : Nat → Int32 → zM → Int32 × zM) (a0 : Nat) (p1 : Int32) (M : zM) : Int32 × zM :=
(let x1 : Int32 × zM := Ffac a0 p1 M;
(let x2 : Int32 := (x1.1);
f_X4_product_8 Ffac a0 p1 (61) x2 (0 : Int32) (x1.2)))
def f_X4_sum_32 (Fprod : Nat → Int32 → zM → Int32 × zM) (a0 : Nat) (p1 : Int32) (k8 : Int32 → Int32 → zM → (Int32 × zM)) (v2 : Int32) (v3 : Int32) (mm : zM) : Int32 × zM :=
(let x6 : Int32 := (mm.1 a0 3);
(let m7 : zM := f_X4_pass a0 x6 mm;
(let x8 : Int32 × zM := Fprod a0 p1 m7;
(let x9 : Int32 := (x8.1);
(if x6 = (43 : Int32) then
(let x12 : Int32 := (v2 + x9);
k8 x12 (v3 + (1 : Int32)) (x8.2))
else
(let x11 : Int32 := (v2 - x9);
k8 x11 (v3 + (1 : Int32)) (x8.2)))))))
def f_X4_sum_8 (Fprod : Nat → Int32 → zM → Int32 × zM) (a0 : Nat) (p1 : Int32) : Nat → Int32 → Int32 → zM → (Int32 × zM)
  | 0, v2, v3, mm => (0, mm)
  | n8 + 1, v2, v3, mm => (if (60 : Int32) ≤ v3 then
(v2, mm)
else
(if (mm.1 a0 3) = (43 : Int32) then
f_X4_sum_32 Fprod a0 p1 (fun wv2 wv3 wmm => f_X4_sum_8 Fprod a0 p1 n8 wv2 wv3 wmm) v2 v3 mm
else
(if (mm.1 a0 3) = (45 : Int32) then
f_X4_sum_32 Fprod a0 p1 (fun wv2 wv3 wmm => f_X4_sum_8 Fprod a0 p1 n8 wv2 wv3 wmm) v2 v3 mm
else
(v2, mm))))
def f_X4_sum (Fprod : Nat → Int32 → zM → Int32 × zM) (a0 : Nat) (p1 : Int32) (M : zM) : Int32 × zM :=
(let x1 : Int32 × zM := Fprod a0 p1 M;
(let x2 : Int32 := (x1.1);
f_X4_sum_8 Fprod a0 p1 (61) x2 (0 : Int32) (x1.2)))
def g_X4_fac : Nat → Nat → Int32 → zM → Int32 × zM
  | 0 => f_X4_factor (fun _ _ m => (0, m)) (fun _ _ m => (0, m))
  | d + 1 => f_X4_factor (f_X4_sum (f_X4_product (g_X4_fac d))) (g_X4_fac d)
def g_X4_prod (d : Nat) : Nat → Int32 → zM → Int32 × zM := f_X4_product (g_X4_fac d)
def g_X4_sum (d : Nat) : Nat → Int32 → zM → Int32 × zM := f_X4_sum (g_X4_prod d)

def f_X4_readAll_28 (a0 : Nat) (s0 : Int32) (mm : zM) : Int32 × zM :=
(let m4 : zM := zpI mm a0 3 s0;
(let x5 : Int32 × zM := g_X4_sum 5 a0 (0 : Int32) m4;
(let x6 : Int32 := (x5.1);
(if (0 : Int32) ≤ ((x5.2).1 a0 4) then
(x6, (x5.2))
else
(if ((x5.2).1 a0 1) ≤ ((x5.2).1 a0 2) then
(x6, (x5.2))
else
(let m9 : zM := zpI (x5.2) a0 4 ((x5.2).1 a0 2);
(x6, m9)))))))
def f_X4_readAll (a0 : Nat) (M : zM) : Int32 × zM :=
(let m1 : zM := zpI M a0 2 (0 : Int32);
(let m2 : zM := zpI m1 a0 4 (-1 : Int32);
(if (m2.1 a0 1) ≤ (0 : Int32) then
f_X4_readAll_28 a0 (-1 : Int32) m2
else
f_X4_readAll_28 a0 (m2.1 (a0 + 1) 0) m2)))
def f_X4_valueFor (a0 : Nat) (a1 : Nat) (p2 : Int32) (p3 : Int32) (p4 : Int32) (M : zM) : Int32 × zM :=
(let m1 : zM := zpI M a0 5 p4;
(let m2 : zM := zpI m1 a0 6 (m1.1 a1 1);
(let m3 : zM := zpI m2 a0 7 (m2.1 a1 2);
(let m4 : zM := zpI m3 a0 8 p2;
(let m5 : zM := zpI m4 a0 9 (m4.1 a1 4);
(let m6 : zM := zpI m5 a0 10 p3;
(let x7 : Int32 × zM := f_X4_readAll a0 m6;
((x7.1), (x7.2)))))))))
def f_X2_holdsOf (a0 : Nat) (p1 : Int32) (p2 : Int32) (M : zM) : Int32 × zM :=
(let x3 : Int32 := (M.1 ((a0 + 2) + p1.toNatClampNeg) 0);
(if x3 = (1 : Int32) then
(let x4 : Int32 := f_X0_rustyHolds ((a0 + 2) + p1.toNatClampNeg) p2 M;
(x4, M))
else
(if x3 = (2 : Int32) then
(let x5 : Int32 := f_X0_oiledHolds ((a0 + 2) + p1.toNatClampNeg) p2 M;
(x5, M))
else
(if x3 = (3 : Int32) then
(if (M.1 (a0 + 12) 1) = (0 : Int32) then
((M.1 ((a0 + 2) + p1.toNatClampNeg) 1), M)
else
(let x7 : Int32 × zM := f_X4_valueFor (a0 + 12) ((a0 + 2) + p1.toNatClampNeg) p1 (M.1 a0 3) p2 M;
(let x8 : Int32 := (x7.1);
(let x9 : Int32 := (if x8 < (9999 : Int32) then x8 else (9999 : Int32));
((if (0 : Int32) < x9 then x9 else (0 : Int32)), (x7.2))))))
else
(if x3 = (4 : Int32) then
(if p2 < (40 : Int32) then
(let x11 : Int32 := f_X0_rustyHolds ((a0 + 2) + p1.toNatClampNeg) p2 M;
(x11, M))
else
(let x12 : Int32 := f_X0_rustyHolds ((a0 + 2) + p1.toNatClampNeg) p2 M;
(((3 : Int32) * x12), M)))
else
(if x3 = (5 : Int32) then
(let x13 : Int32 := f_X0_oiledHolds ((a0 + 2) + p1.toNatClampNeg) p2 M;
(let x14 : Int32 := (x13 - (M.1 ((a0 + 2) + p1.toNatClampNeg) 4));
((if (0 : Int32) < x14 then x14 else (0 : Int32)), M)))
else
(let x15 : Int32 := f_X0_plainHolds ((a0 + 2) + p1.toNatClampNeg) p2 M;
(x15, M))))))))
def f_X5_of (p1 : Int32) (p2 : Int32) (M : zM) : Int32 × zM :=
(let x2 : Int32 := f_X2_has 1 p1 M;
(if x2 = (0 : Int32) then
(let x9 : Int32 × zM := f_X5_finding (-1000000001 : Int32) M;
((x9.1), (x9.2)))
else
(if p2 = (0 : Int32) then
((M.1 (3 + p1.toNatClampNeg) 0), M)
else
(if p2 = (1 : Int32) then
((M.1 (3 + p1.toNatClampNeg) 1), M)
else
(if p2 = (2 : Int32) then
((M.1 (3 + p1.toNatClampNeg) 2), M)
else
(if p2 = (3 : Int32) then
((M.1 (3 + p1.toNatClampNeg) 3), M)
else
(if p2 = (4 : Int32) then
((M.1 (3 + p1.toNatClampNeg) 4), M)
else
(if p2 = (5 : Int32) then
((M.1 (3 + p1.toNatClampNeg) 5), M)
else
(if p2 = (6 : Int32) then
((M.1 (3 + p1.toNatClampNeg) 6), M)
else
(if p2 = (7 : Int32) then
(let x6 : Int32 := f_X2_pullOf 1 p1 M;
(x6, M))
else
(if p2 = (8 : Int32) then
(let x7 : Int32 × zM := f_X2_holdsOf 1 p1 (M.1 (3 + p1.toNatClampNeg) 6) M;
((x7.1), (x7.2)))
else
(let x8 : Int32 × zM := f_X5_finding (-1000000001 : Int32) M;
((x8.1), (x8.2))))))))))))))
def f_X5_canBecome (p0 : Int32) (p1 : Int32) : Int32 :=
(if p0 = (1 : Int32) then
(let x3 : Int32 := f_X5_within p1 (1 : Int32) (999 : Int32);
x3)
else
(if p0 = (2 : Int32) then
(let x5 : Int32 := f_X5_within p1 (0 : Int32) (999 : Int32);
x5)
else
(if p0 = (3 : Int32) then
(let x7 : Int32 := f_X5_within p1 (0 : Int32) (99 : Int32);
x7)
else
(if p0 = (4 : Int32) then
(let x9 : Int32 := f_X5_within p1 (0 : Int32) (99 : Int32);
x9)
else
(0 : Int32)))))
def f_X5_set_19 (p1 : Int32) (p2 : Int32) (p3 : Int32) (mm : zM) : Int32 × zM :=
(let x17 : Int32 × zM := f_X5_finding (-1000000001 : Int32) mm;
((x17.1), (x17.2)))
def f_X5_set (p1 : Int32) (p2 : Int32) (p3 : Int32) (M : zM) : Int32 × zM :=
(let x2 : Int32 := f_X2_has 1 p1 M;
(if x2 = (0 : Int32) then
f_X5_set_19 p1 p2 p3 M
else
(let x5 : Int32 := f_X5_canBecome p2 p3;
(if x5 = (0 : Int32) then
f_X5_set_19 p1 p2 p3 M
else
(if p2 = (1 : Int32) then
(let x9 : Int32 := (M.1 (3 + p1.toNatClampNeg) 1);
(let m10 : zM := zpI M (3 + p1.toNatClampNeg) 1 p3;
(x9, m10)))
else
(if p2 = (2 : Int32) then
(let x11 : Int32 := (M.1 (3 + p1.toNatClampNeg) 2);
(let m12 : zM := zpI M (3 + p1.toNatClampNeg) 2 p3;
(x11, m12)))
else
(if p2 = (3 : Int32) then
(let x13 : Int32 := (M.1 (3 + p1.toNatClampNeg) 3);
(let m14 : zM := zpI M (3 + p1.toNatClampNeg) 3 p3;
(x13, m14)))
else
(let x15 : Int32 := (M.1 (3 + p1.toNatClampNeg) 4);
(let m16 : zM := zpI M (3 + p1.toNatClampNeg) 4 p3;
(x15, m16))))))))))
def f_X5_isOf_4 (p0 : Int32) (p1 : Int32) (M : zM) : Nat → Int32 → Int32 → Int32
  | 0, v2, v3 => 0
  | n4 + 1, v2, v3 => (if (6 : Int32) ≤ v3 then
(0 : Int32)
else
(let x3 : Int32 := f_X5_within v2 (0 : Int32) (5 : Int32);
(if x3 = (0 : Int32) then
(0 : Int32)
else
(if v2 = p1 then
(1 : Int32)
else
(let x7 : Int32 := (zUnI v2.toNatClampNeg);
f_X5_isOf_4 p0 p1 M n4 x7 (v3 + (1 : Int32)))))))
def f_X5_isOf (p0 : Int32) (p1 : Int32) (M : zM) : Int32 :=
f_X5_isOf_4 p0 p1 M (7) p0 (0 : Int32)
def f_X5_as_20 (p1 : Int32) (p2 : Int32) (mm : zM) : Int32 × zM :=
(let x13 : Int32 × zM := f_X5_finding (-1000000001 : Int32) mm;
((x13.1), (x13.2)))
def f_X5_as (p1 : Int32) (p2 : Int32) (M : zM) : Int32 × zM :=
(let x2 : Int32 := f_X2_has 1 p1 M;
(if x2 = (0 : Int32) then
f_X5_as_20 p1 p2 M
else
(let x5 : Int32 := f_X5_within p2 (0 : Int32) (5 : Int32);
(if x5 = (0 : Int32) then
f_X5_as_20 p1 p2 M
else
(let x9 : Int32 := f_X5_isOf (M.1 (3 + p1.toNatClampNeg) 0) p2 M;
(if x9 = (0 : Int32) then
(let x12 : Int32 × zM := f_X5_finding (-1000000003 : Int32) M;
((x12.1), (x12.2)))
else
(let x11 : Int32 × zM := f_X2_holdsOf 1 p1 (M.1 (3 + p1.toNatClampNeg) 6) M;
((x11.1), (x11.2)))))))))
def f_X5_holds_22 (p1 : Int32) (p2 : Int32) (mm : zM) : Int32 × zM :=
(let x8 : Int32 × zM := f_X5_finding (-1000000001 : Int32) mm;
((x8.1), (x8.2)))
def f_X5_holds (p1 : Int32) (p2 : Int32) (M : zM) : Int32 × zM :=
(let x2 : Int32 := f_X2_has 1 p1 M;
(if x2 = (0 : Int32) then
f_X5_holds_22 p1 p2 M
else
(let x5 : Int32 := f_X5_within p2 (0 : Int32) (999 : Int32);
(if x5 = (0 : Int32) then
f_X5_holds_22 p1 p2 M
else
(let x7 : Int32 × zM := f_X2_holdsOf 1 p1 p2 M;
((x7.1), (x7.2)))))))
def f_X0_rubsBy (a0 : Nat) (p1 : Int32) (M : zM) : Int32 :=
(let x2 : Int32 := (M.1 a0 0);
(if x2 = (1 : Int32) then
(M.1 a0 2)
else
(if x2 = (2 : Int32) then
(let x3 : Int32 := (((M.1 a0 2) / (2 : Int32)) + p1);
(if x3 < (999 : Int32) then x3 else (999 : Int32)))
else
(if x2 = (4 : Int32) then
(M.1 a0 2)
else
(if x2 = (5 : Int32) then
(let x4 : Int32 := (((M.1 a0 2) / (2 : Int32)) + p1);
(if x4 < (999 : Int32) then x4 else (999 : Int32)))
else
(let x5 : Int32 := ((M.1 a0 2) - p1);
(if (0 : Int32) < x5 then x5 else (0 : Int32))))))))
def f_X5_rubs_22 (p1 : Int32) (p2 : Int32) (mm : zM) : Int32 × zM :=
(let x9 : Int32 × zM := f_X5_finding (-1000000001 : Int32) mm;
((x9.1), (x9.2)))
def f_X5_rubs (p1 : Int32) (p2 : Int32) (M : zM) : Int32 × zM :=
(let x2 : Int32 := f_X2_has 1 p1 M;
(if x2 = (0 : Int32) then
f_X5_rubs_22 p1 p2 M
else
(let x5 : Int32 := f_X5_within p2 (0 : Int32) (999 : Int32);
(if x5 = (0 : Int32) then
f_X5_rubs_22 p1 p2 M
else
(let x8 : Int32 := f_X0_rubsBy (3 + p1.toNatClampNeg) p2 M;
(x8, M))))))
def f_X5_push_24 (p1 : Int32) (p2 : Int32) (mm : zM) : Int32 × zM :=
(let x10 : Int32 × zM := f_X5_finding (-1000000001 : Int32) mm;
((x10.1), (x10.2)))
def f_X5_push (p1 : Int32) (p2 : Int32) (M : zM) : Int32 × zM :=
(let x2 : Int32 := f_X2_has 1 p1 M;
(if x2 = (0 : Int32) then
f_X5_push_24 p1 p2 M
else
(let x5 : Int32 := f_X5_within p2 (-9999 : Int32) (9999 : Int32);
(if x5 = (0 : Int32) then
f_X5_push_24 p1 p2 M
else
(let m8 : zM := zpI M (3 + p1.toNatClampNeg) 5 ((M.1 (3 + p1.toNatClampNeg) 5) + p2);
(let m9 : zM := zpI m8 (3 + p1.toNatClampNeg) 6 (0 : Int32);
((m9.1 (3 + p1.toNatClampNeg) 5), m9)))))))
def f_X5_oil_21 (p1 : Int32) (p2 : Int32) (mm : zM) : Int32 × zM :=
(let x10 : Int32 × zM := f_X5_finding (-1000000001 : Int32) mm;
((x10.1), (x10.2)))
def f_X5_oil (p1 : Int32) (p2 : Int32) (M : zM) : Int32 × zM :=
(let x2 : Int32 := f_X2_has 1 p1 M;
(if x2 = (0 : Int32) then
f_X5_oil_21 p1 p2 M
else
(let x5 : Int32 := f_X5_within p2 (1 : Int32) (99 : Int32);
(if x5 = (0 : Int32) then
f_X5_oil_21 p1 p2 M
else
(let x8 : Int32 := ((M.1 (3 + p1.toNatClampNeg) 4) + p2);
(let m9 : zM := zpI M (3 + p1.toNatClampNeg) 4 (if x8 < (99 : Int32) then x8 else (99 : Int32));
((m9.1 (3 + p1.toNatClampNeg) 4), m9)))))))
def f_X5_pace (p1 : Int32) (M : zM) : Int32 × zM :=
(let x2 : Int32 := f_X5_within p1 (-99 : Int32) (99 : Int32);
(if x2 = (0 : Int32) then
(let x6 : Int32 × zM := f_X5_finding (-1000000001 : Int32) M;
((x6.1), (x6.2)))
else
(let x4 : Int32 := (M.1 1 3);
(let m5 : zM := zpI M 1 3 p1;
(x4, m5)))))
def f_X0_startTick (a0 : Nat) (p1 : Int32) (M : zM) : zM :=
(let m1 : zM := zpI M a0 7 p1;
(let m2 : zM := zpI m1 a0 9 (0 : Int32);
(let m3 : zM := zpI m2 a0 10 (0 : Int32);
m3)))
def f_X0_move_36 (a0 : Nat) (p1 : Int32) (v2 : Int64) (v4 : Int32) (s0 : Int32) (s1 : Int64) (mm : zM) : zM :=
(if (0 : Int32) < (lg_cmp s1 (s0.toInt64)) then
(let x6 : Int64 := ((v2 - (v4.toInt64)) / ((if (1 : Int32) < p1 then p1 else (1 : Int32)).toInt64));
(let x7 : Int64 := (if x6 < (999 : Int64) then x6 else (999 : Int64));
(let m8 : zM := zpI mm a0 9 ((if x7 < (1 : Int64) then (1 : Int64) else x7).toInt32);
(if (m8.1 a0 8) ≤ (0 : Int32) then
(let m10 : zM := zpI m8 a0 5 ((m8.1 a0 5) + (-(m8.1 a0 9)));
(let m11 : zM := zpI m10 a0 10 (1 : Int32);
m11))
else
(let m12 : zM := zpI m8 a0 5 ((m8.1 a0 5) + (m8.1 a0 9));
(let m13 : zM := zpI m12 a0 10 (1 : Int32);
m13))))))
else
(let m14 : zM := zpI mm a0 9 (0 : Int32);
m14))
def f_X0_move (a0 : Nat) (p1 : Int32) (M : zM) : zM :=
(let x1 : Int64 := ((M.1 a0 8).toInt64);
(let x2 : Int64 := (if 0 < x1 then x1 else -x1);
(let x3 : Int32 := f_X0_rubsBy a0 (M.1 a0 9) M;
(if (M.1 a0 10) = (0 : Int32) then
f_X0_move_36 a0 p1 x2 x3 (M.1 a0 7) x2 M
else
f_X0_move_36 a0 p1 x2 x3 x3 x2 M))))
def f_X2_round_79 (a0 : Nat) (k34 : Int32 → Int32 → zM → (Int32 × zM)) (v1 : Int32) (v2 : Int32) (c3 : Nat) (s0 : Int32) (s1 : Int32) (d2 : Nat) (mm : zM) : Int32 × zM :=
(let m9 : zM := f_X0_move d2 (s1 + s0) mm;
(if (m9.1 c3 9) ≤ (0 : Int32) then
k34 v1 (v2 + (1 : Int32)) m9
else
(let m11 : zM := zpI m9 a0 5 ((m9.1 a0 5) + (1 : Int32));
(let m12 : zM := zpI m11 a0 6 ((m11.1 a0 6) ||| ((1 : Int32) <<< (v2 &&& 31)));
(let m13 : zM := zpI m12 a0 7 ((m12.1 a0 7) + (m12.1 c3 9));
k34 (1 : Int32) (v2 + (1 : Int32)) m13)))))
def f_X2_round_34 (a0 : Nat) : Nat → Int32 → Int32 → zM → (Int32 × zM)
  | 0, v1, v2, mm => (0, mm)
  | n34 + 1, v1, v2, mm => (if (mm.1 a0 1) ≤ v2 then
(v1, mm)
else
(if (mm.1 a0 1) ≤ (v2 + (1 : Int32)) then
f_X2_round_79 a0 (fun wv1 wv2 wmm => f_X2_round_34 a0 n34 wv1 wv2 wmm) v1 v2 ((a0 + 2) + v2.toNatClampNeg) (0 : Int32) (mm.1 ((a0 + 2) + v2.toNatClampNeg) 3) ((a0 + 2) + v2.toNatClampNeg) mm
else
f_X2_round_79 a0 (fun wv1 wv2 wmm => f_X2_round_34 a0 n34 wv1 wv2 wmm) v1 v2 ((a0 + 2) + v2.toNatClampNeg) (mm.1 ((a0 + 2) + (v2 + (1 : Int32)).toNatClampNeg) 3) (mm.1 ((a0 + 2) + v2.toNatClampNeg) 3) ((a0 + 2) + v2.toNatClampNeg) mm))
def f_X2_round_2 (a0 : Nat) : Nat → Int32 → zM → (Int32 × zM)
  | 0, v1, mm => (0, mm)
  | n2 + 1, v1, mm => (if (mm.1 a0 1) ≤ v1 then
f_X2_round_34 a0 (11) (0 : Int32) (0 : Int32) mm
else
(let x3 : Int32 := f_X2_pullOf a0 v1 mm;
(let m4 : zM := zpI mm ((a0 + 2) + v1.toNatClampNeg) 8 x3;
f_X2_round_2 a0 n2 (v1 + (1 : Int32)) m4)))
def f_X2_round (a0 : Nat) (M : zM) : Int32 × zM :=
f_X2_round_2 a0 (11) (0 : Int32) M
def f_X0_endTick (a0 : Nat) (M : zM) : zM :=
(if (M.1 a0 10) = (0 : Int32) then
(let x2 : Int32 := ((M.1 a0 6) + (1 : Int32));
(let m3 : zM := zpI M a0 6 (if x2 < (999 : Int32) then x2 else (999 : Int32));
m3))
else
(let m4 : zM := zpI M a0 6 (0 : Int32);
(let x5 : Int32 := ((m4.1 a0 4) - (1 : Int32));
(let m6 : zM := zpI m4 a0 4 (if (0 : Int32) < x5 then x5 else (0 : Int32));
m6))))
def f_X2_tick_99 (a0 : Nat) : Nat → Int32 → zM → zM
  | 0, v2, mm => mm
  | n99 + 1, v2, mm => (if (mm.1 a0 1) ≤ v2 then
mm
else
(let m18 : zM := f_X0_endTick ((a0 + 2) + v2.toNatClampNeg) mm;
f_X2_tick_99 a0 n99 (v2 + (1 : Int32)) m18))
def f_X2_tick_92 (a0 : Nat) (v1 : Int32) (mm : zM) : zM :=
(let m15 : zM := zpI mm a0 8 v1;
f_X2_tick_99 a0 (11) (0 : Int32) m15)
def f_X2_tick_71 (a0 : Nat) : Nat → Int32 → Int32 → zM → zM
  | 0, v1, v2, mm => mm
  | n71 + 1, v1, v2, mm => (if (40 : Int32) ≤ v2 then
f_X2_tick_92 a0 v1 mm
else
(if v1 = (0 : Int32) then
f_X2_tick_92 a0 v1 mm
else
(let x13 : Int32 × zM := f_X2_round a0 mm;
(let x14 : Int32 := (x13.1);
f_X2_tick_71 a0 n71 x14 (v2 + (1 : Int32)) (x13.2)))))
def f_X2_tick_30 (a0 : Nat) : Nat → Int32 → zM → zM
  | 0, v1, mm => mm
  | n30 + 1, v1, mm => (if (mm.1 a0 1) ≤ v1 then
f_X2_tick_71 a0 (41) (1 : Int32) (0 : Int32) mm
else
(let x8 : Int32 × zM := f_X2_holdsOf a0 v1 (mm.1 ((a0 + 2) + v1.toNatClampNeg) 6) mm;
(let m9 : zM := f_X0_startTick ((a0 + 2) + v1.toNatClampNeg) (x8.1) (x8.2);
f_X2_tick_30 a0 n30 (v1 + (1 : Int32)) m9)))
def f_X2_tick (a0 : Nat) (M : zM) : zM :=
(let m1 : zM := zpI M a0 2 ((M.1 a0 2) + (M.1 a0 3));
(let m2 : zM := zpI m1 a0 5 (0 : Int32);
(let m3 : zM := zpI m2 a0 6 (0 : Int32);
(let m4 : zM := zpI m3 a0 7 (0 : Int32);
f_X2_tick_30 a0 (11) (0 : Int32) m4))))
def f_X1_classOf_2 (p0 : Int32) : Nat → Int32 → Int32
  | 0, v1 => 0
  | n2 + 1, v1 => (if (6 : Int32) ≤ v1 then
v1
else
(if p0 < ((1 : Int32) <<< (v1 &&& 31)) then
v1
else
f_X1_classOf_2 p0 n2 (v1 + (1 : Int32))))
def f_X1_classOf (p0 : Int32) : Int32 :=
f_X1_classOf_2 p0 (7) (0 : Int32)
def f_X1_enter (a0 : Nat) (a1 : Nat) (M : zM) : zM :=
(let m1 : zM := zpI M (a0 + 1) (M.1 a0 5).toNatClampNeg (M.1 a1 5);
(let m2 : zM := zpI m1 (a0 + 2) (m1.1 a0 5).toNatClampNeg (m1.1 a1 6);
(let m3 : zM := zpI m2 (a0 + 3) (m2.1 a0 5).toNatClampNeg (m2.1 a1 7);
(let m4 : zM := zpI m3 a0 5 (((m3.1 a0 5) + (1 : Int32)) - ((m3.1 a0 5) + (1 : Int32)) / (100 : Int32) * (100 : Int32));
(let x5 : Int32 := ((m4.1 a0 4) + (1 : Int32));
(let m6 : zM := zpI m4 a0 4 (if x5 < (100 : Int32) then x5 else (100 : Int32));
(let x7 : Int32 := f_X1_classOf (m6.1 a1 5);
(let m8 : zM := zpI m6 (a0 + 4) x7.toNatClampNeg ((m6.1 (a0 + 4) x7.toNatClampNeg) + (1 : Int32));
(let m9 : zM := zpI m8 a0 6 ((m8.1 a0 6) + (1 : Int32));
(if (m9.1 a1 8) = (0 : Int32) then
(let m11 : zM := zpI m9 a0 7 ((m9.1 a0 7) + (0 : Int32));
m11)
else
(let m12 : zM := zpI m9 a0 7 ((m9.1 a0 7) + (1 : Int32));
m12)))))))))))
def f_X5_ticks_19 (p1 : Int32) : Nat → Int32 → zM → (Int32 × zM)
  | 0, v2, mm => (0, mm)
  | n19 + 1, v2, mm => (if p1 ≤ v2 then
((mm.1 1 5), mm)
else
(let m6 : zM := f_X2_tick 1 mm;
(let m7 : zM := f_X1_enter 43 1 m6;
f_X5_ticks_19 p1 n19 (v2 + (1 : Int32)) m7)))
def f_X5_ticks (p1 : Int32) (M : zM) : Int32 × zM :=
(let x2 : Int32 := f_X5_within p1 (1 : Int32) (100 : Int32);
(if x2 = (0 : Int32) then
(let x4 : Int32 × zM := f_X5_finding (-1000000001 : Int32) M;
((x4.1), (x4.2)))
else
f_X5_ticks_19 p1 (101) (0 : Int32) M))
def f_X5_until_21 (p1 : Int32) (p2 : Int32) (mm : zM) : Int32 × zM :=
(let x7 : Int32 × zM := f_X5_finding (-1000000001 : Int32) mm;
((x7.1), (x7.2)))
def f_X5_until_30 (p1 : Int32) (p2 : Int32) : Nat → Int32 → zM → (Int32 × zM)
  | 0, v3, mm => (0, mm)
  | n30 + 1, v3, mm => (if p2 < v3 then
(p2, mm)
else
(let m9 : zM := f_X2_tick 1 mm;
(let m10 : zM := f_X1_enter 43 1 m9;
(if (m10.1 1 5) < p1 then
f_X5_until_30 p1 p2 n30 (v3 + (1 : Int32)) m10
else
(v3, m10)))))
def f_X5_until (p1 : Int32) (p2 : Int32) (M : zM) : Int32 × zM :=
(let x2 : Int32 := f_X5_within p1 (1 : Int32) (400 : Int32);
(if x2 = (0 : Int32) then
f_X5_until_21 p1 p2 M
else
(let x5 : Int32 := f_X5_within p2 (1 : Int32) (100 : Int32);
(if x5 = (0 : Int32) then
f_X5_until_21 p1 p2 M
else
f_X5_until_30 p1 p2 (102) (1 : Int32) M))))
def f_J9_floorMod_7cf53 (p0 : Int32) (p1 : Int32) : Int32 :=
(let x1 : Int32 := (p0 - p0 / p1 * p1);
(if (0 : Int32) ≤ (p0 ^^^ p1) then
x1
else
(if x1 = (0 : Int32) then
x1
else
(x1 + p1))))
def f_X1_slot (a0 : Nat) (p1 : Int32) (M : zM) : Int32 :=
(let x1 : Int32 := f_J9_floorMod_7cf53 (((M.1 a0 5) - (1 : Int32)) - p1) (100 : Int32);
x1)
def f_X5_book (p1 : Int32) (p2 : Int32) (M : zM) : Int32 × zM :=
(let x2 : Int32 := f_X5_within p1 (0 : Int32) ((M.1 43 4) - (1 : Int32));
(if x2 = (0 : Int32) then
(let x9 : Int32 × zM := f_X5_finding (-1000000001 : Int32) M;
((x9.1), (x9.2)))
else
(if p2 = (0 : Int32) then
(let x5 : Int32 := f_X1_slot 43 p1 M;
((M.1 44 x5.toNatClampNeg), M))
else
(if p2 = (1 : Int32) then
(let x6 : Int32 := f_X1_slot 43 p1 M;
((M.1 45 x6.toNatClampNeg), M))
else
(if p2 = (2 : Int32) then
(let x7 : Int32 := f_X1_slot 43 p1 M;
((M.1 46 x7.toNatClampNeg), M))
else
(let x8 : Int32 × zM := f_X5_finding (-1000000001 : Int32) M;
((x8.1), (x8.2))))))))
def f_X5_counts (p1 : Int32) (M : zM) : Int32 × zM :=
(let x2 : Int32 := f_X5_within p1 (0 : Int32) (6 : Int32);
(if x2 = (0 : Int32) then
(let x4 : Int32 × zM := f_X5_finding (-1000000001 : Int32) M;
((x4.1), (x4.2)))
else
((M.1 47 p1.toNatClampNeg), M)))
def f_X5_power_2 (M : zM) : Nat → Int32 → Int32
  | 0, v1 => 0
  | n2 + 1, v1 => (if (7 : Int32) ≤ v1 then
(1 : Int32)
else
(if (M.1 47 v1.toNatClampNeg) ≤ (M.1 47 (v1 - (1 : Int32)).toNatClampNeg) then
f_X5_power_2 M n2 (v1 + (1 : Int32))
else
(0 : Int32)))
def f_X5_power (M : zM) : Int32 :=
f_X5_power_2 M (8) (2 : Int32)
def f_X5_tone_4 : Nat → Int32 → Int32 → zM → (Int32 × zM)
  | 0, v1, v2, mm => (0, mm)
  | n4 + 1, v1, v2, mm => (if (mm.1 43 4) ≤ v2 then
(let x2 : Int32 × zM := f_X5_finding (-1000000004 : Int32) mm;
((x2.1), (x2.2)))
else
(let x3 : Int32 := f_X1_slot 43 v2 mm;
(if (mm.1 44 x3.toNatClampNeg) ≤ (0 : Int32) then
f_X5_tone_4 n4 v1 (v2 + (1 : Int32)) mm
else
(if v1 < (0 : Int32) then
f_X5_tone_4 n4 v2 (v2 + (1 : Int32)) mm
else
((v2 - v1), mm)))))
def f_X5_tone (M : zM) : Int32 × zM :=
f_X5_tone_4 (101) (-1 : Int32) (0 : Int32) M
def f_X5_great_20 (p1 : Int32) (p2 : Int32) (mm : zM) : Int32 × zM :=
(let x7 : Int32 × zM := f_X5_finding (-1000000001 : Int32) mm;
((x7.1), (x7.2)))
def f_X5_great_35 (p1 : Int32) (p2 : Int32) : Nat → Int32 → Int32 → Int32 → zM → (Int32 × zM)
  | 0, v3, v4, v5, mm => (0, mm)
  | n35 + 1, v3, v4, v5, mm => (if (mm.1 43 4) ≤ v5 then
(if p2 = (0 : Int32) then
(v3, mm)
else
(v4, mm))
else
(let x10 : Int32 := f_X1_slot 43 v5 mm;
(if (mm.1 44 x10.toNatClampNeg) < p1 then
f_X5_great_35 p1 p2 n35 v3 v4 (v5 + (1 : Int32)) mm
else
(if (mm.1 43 4) ≤ (v5 + (1 : Int32)) then
f_X5_great_35 p1 p2 n35 (v3 + (1 : Int32)) v4 (v5 + (1 : Int32)) mm
else
(let x13 : Int32 := f_X1_slot 43 (v5 + (1 : Int32)) mm;
(if (mm.1 44 x13.toNatClampNeg) ≤ (0 : Int32) then
f_X5_great_35 p1 p2 n35 (v3 + (1 : Int32)) v4 (v5 + (1 : Int32)) mm
else
f_X5_great_35 p1 p2 n35 (v3 + (1 : Int32)) (v4 + (1 : Int32)) (v5 + (1 : Int32)) mm))))))
def f_X5_great (p1 : Int32) (p2 : Int32) (M : zM) : Int32 × zM :=
(let x2 : Int32 := f_X5_within p1 (1 : Int32) (400 : Int32);
(if x2 = (0 : Int32) then
f_X5_great_20 p1 p2 M
else
(let x5 : Int32 := f_X5_within p2 (0 : Int32) (1 : Int32);
(if x5 = (0 : Int32) then
f_X5_great_20 p1 p2 M
else
f_X5_great_35 p1 p2 (101) (0 : Int32) (0 : Int32) (0 : Int32) M))))
def f_X5_noise_24 (p1 : Int32) : Nat → Int64 → Int32 → zM → (Int64 × zM)
  | 0, v2, v4, mm => (0, mm)
  | n24 + 1, v2, v4, mm => (if (mm.1 43 4) ≤ v4 then
(v2, mm)
else
(let x6 : Int32 := f_X1_slot 43 v4 mm;
(if (((mm.1 45 x6.toNatClampNeg) >>> (p1 &&& 31)) &&& (1 : Int32)) = (1 : Int32) then
(let x8 : Int64 := (v2 + ((mm.1 46 x6.toNatClampNeg).toInt64));
f_X5_noise_24 p1 n24 x8 (v4 + (1 : Int32)) mm)
else
f_X5_noise_24 p1 n24 v2 (v4 + (1 : Int32)) mm)))
def f_X5_noise (p1 : Int32) (M : zM) : Int64 × zM :=
(let x2 : Int32 := f_X2_has 1 p1 M;
(if x2 = (0 : Int32) then
(let x4 : Int32 × zM := f_X5_finding (-1000000001 : Int32) M;
(((x4.1).toInt64), (x4.2)))
else
f_X5_noise_24 p1 (101) (0 : Int64) (0 : Int32) M))
def f_X4_copyFrom (a0 : Nat) (a1 : Nat) (M : zM) : zM :=
(let m1 : zM := zpI M a0 1 (M.1 a1 1);
(let m2 : zM := zrI m1 (a0 + 1) (va_cpy (m1.1 (a1 + 1)) (m1.1 (a0 + 1)) (0 : Int32).toNatClampNeg (0 : Int32).toNatClampNeg (m1.1 a0 1).toNatClampNeg);
m2))
def f_X0_copyFrom (a0 : Nat) (a1 : Nat) (M : zM) : zM :=
(let m1 : zM := zpI M a0 0 (M.1 a1 0);
(let m2 : zM := zpI m1 a0 1 (m1.1 a1 1);
(let m3 : zM := zpI m2 a0 2 (m2.1 a1 2);
(let m4 : zM := zpI m3 a0 3 (m3.1 a1 3);
(let m5 : zM := zpI m4 a0 4 (m4.1 a1 4);
(let m6 : zM := zpI m5 a0 5 (m5.1 a1 5);
(let m7 : zM := zpI m6 a0 6 (m6.1 a1 6);
m7)))))))
def f_X2_copyFrom_37 (a0 : Nat) (a1 : Nat) : Nat → Int32 → zM → zM
  | 0, v2, mm => mm
  | n37 + 1, v2, mm => (if (mm.1 a0 1) ≤ v2 then
mm
else
(let m8 : zM := f_X0_copyFrom ((a0 + 2) + v2.toNatClampNeg) ((a1 + 2) + v2.toNatClampNeg) mm;
f_X2_copyFrom_37 a0 a1 n37 (v2 + (1 : Int32)) m8))
def f_X2_copyFrom (a0 : Nat) (a1 : Nat) (M : zM) : zM :=
(let m1 : zM := zpI M a0 1 (M.1 a1 1);
(let m2 : zM := zpI m1 a0 2 (m1.1 a1 2);
(let m3 : zM := zpI m2 a0 3 (m2.1 a1 3);
(let m4 : zM := f_X4_copyFrom (a0 + 12) (a1 + 12) m3;
f_X2_copyFrom_37 a0 a1 (11) (0 : Int32) m4))))
def f_X5_ahead_27 (p1 : Int32) (p2 : Int32) (mm : zM) : Int32 × zM :=
(let x8 : Int32 × zM := f_X5_finding (-1000000001 : Int32) mm;
((x8.1), (x8.2)))
def f_X5_ahead_85 (p1 : Int32) (p2 : Int32) (k56 : Int32 → Int32 → Int32 → Int32 → zM → (Int32 × zM)) (v4 : Int32) (v5 : Int32) (v6 : Int32) (s0 : Int32) (s1 : Int32) (mm : zM) : Int32 × zM :=
(let x15 : Int32 := (s1 + s0);
(let x16 : Int32 := (mm.1 29 5);
(let x17 : Int32 := (if v4 < x16 then x16 else v4);
(let x18 : Int32 := (v5 + (mm.1 29 7));
k56 x15 x17 x18 (v6 + (1 : Int32)) mm))))
def f_X5_ahead_56 (p1 : Int32) (p2 : Int32) : Nat → Int32 → Int32 → Int32 → Int32 → zM → (Int32 × zM)
  | 0, v3, v4, v5, v6, mm => (0, mm)
  | n56 + 1, v3, v4, v5, v6, mm => (if p1 ≤ v6 then
(if p2 = (0 : Int32) then
(v3, mm)
else
(if p2 = (1 : Int32) then
(if v3 = p1 then
((1 : Int32), mm)
else
((0 : Int32), mm))
else
(if p2 = (2 : Int32) then
(v4, mm)
else
(if p2 = (3 : Int32) then
(v5, mm)
else
((mm.1 (31 + (p2 - (4 : Int32)).toNatClampNeg) 5), mm)))))
else
(let m13 : zM := f_X2_tick 29 mm;
(if (m13.1 29 5) ≤ (0 : Int32) then
f_X5_ahead_85 p1 p2 (fun wv3 wv4 wv5 wv6 wmm => f_X5_ahead_56 p1 p2 n56 wv3 wv4 wv5 wv6 wmm) v4 v5 v6 (0 : Int32) v3 m13
else
f_X5_ahead_85 p1 p2 (fun wv3 wv4 wv5 wv6 wmm => f_X5_ahead_56 p1 p2 n56 wv3 wv4 wv5 wv6 wmm) v4 v5 v6 (1 : Int32) v3 m13)))
def f_X5_ahead (p1 : Int32) (p2 : Int32) (M : zM) : Int32 × zM :=
(let x2 : Int32 := f_X5_within p1 (1 : Int32) (60 : Int32);
(if x2 = (0 : Int32) then
f_X5_ahead_27 p1 p2 M
else
(let x5 : Int32 := f_X5_within p2 (0 : Int32) ((3 : Int32) + (M.1 1 1));
(if x5 = (0 : Int32) then
f_X5_ahead_27 p1 p2 M
else
(let m7 : zM := f_X2_copyFrom 29 1 M;
f_X5_ahead_56 p1 p2 (61) (0 : Int32) (0 : Int32) (0 : Int32) (0 : Int32) m7)))))
def f_X5_from_88 (p1 : Int32) (k19 : Int32 → zM → (Int32 × zM)) (v2 : Int32) (v3 : Int32) (mm : zM) : Int32 × zM :=
(if v3 = (0 : Int32) then
k19 (v2 + (1 : Int32)) mm
else
(v2, mm))
def f_X5_from_49 (p1 : Int32) (k19 : Int32 → zM → (Int32 × zM)) : Nat → Int32 → Int32 → Int32 → zM → (Int32 × zM)
  | 0, v2, v3, v4, mm => (0, mm)
  | n49 + 1, v2, v3, v4, mm => (if p1 ≤ v4 then
f_X5_from_88 p1 k19 v2 v3 mm
else
(if v3 = (0 : Int32) then
f_X5_from_88 p1 k19 v2 v3 mm
else
(let m11 : zM := f_X2_tick 29 mm;
(if (m11.1 29 5) ≤ (0 : Int32) then
f_X5_from_49 p1 k19 n49 v2 (0 : Int32) (v4 + (1 : Int32)) m11
else
f_X5_from_49 p1 k19 n49 v2 (1 : Int32) (v4 + (1 : Int32)) m11))))
def f_X5_from_19 (p1 : Int32) : Nat → Int32 → zM → (Int32 × zM)
  | 0, v2, mm => (0, mm)
  | n19 + 1, v2, mm => (if (99 : Int32) < v2 then
(let x6 : Int32 × zM := f_X5_finding (-1000000004 : Int32) mm;
((x6.1), (x6.2)))
else
(let m7 : zM := f_X2_copyFrom 29 1 mm;
(let m8 : zM := zpI m7 29 3 v2;
f_X5_from_49 p1 (fun wv2 wmm => f_X5_from_19 p1 n19 wv2 wmm) (61) v2 (1 : Int32) (0 : Int32) m8)))
def f_X5_from (p1 : Int32) (M : zM) : Int32 × zM :=
(let x2 : Int32 := f_X5_within p1 (1 : Int32) (60 : Int32);
(if x2 = (0 : Int32) then
(let x4 : Int32 × zM := f_X5_finding (-1000000001 : Int32) M;
((x4.1), (x4.2)))
else
f_X5_from_19 p1 (101) (0 : Int32) M))
def f_X5_still_32 (p1 : Int32) (p2 : Int32) (p3 : Int32) (mm : zM) : Int32 × zM :=
(let x10 : Int32 × zM := f_X5_finding (-1000000001 : Int32) mm;
((x10.1), (x10.2)))
def f_X5_still_122 (p1 : Int32) (p2 : Int32) (p3 : Int32) (k42 : Int32 → zM → (Int32 × zM)) (v4 : Int32) (v5 : Int32) (mm : zM) : Int32 × zM :=
(if v5 = (0 : Int32) then
k42 (v4 + (1 : Int32)) mm
else
(v4, mm))
def f_X5_still_80 (p1 : Int32) (p2 : Int32) (p3 : Int32) (k42 : Int32 → zM → (Int32 × zM)) : Nat → Int32 → Int32 → Int32 → zM → (Int32 × zM)
  | 0, v4, v5, v6, mm => (0, mm)
  | n80 + 1, v4, v5, v6, mm => (if p2 ≤ v6 then
f_X5_still_122 p1 p2 p3 k42 v4 v5 mm
else
(if v5 = (0 : Int32) then
f_X5_still_122 p1 p2 p3 k42 v4 v5 mm
else
(let m18 : zM := f_X2_tick 29 mm;
(if p3 < (m18.1 29 5) then
f_X5_still_80 p1 p2 p3 k42 n80 v4 (0 : Int32) (v6 + (1 : Int32)) m18
else
f_X5_still_80 p1 p2 p3 k42 n80 v4 (1 : Int32) (v6 + (1 : Int32)) m18))))
def f_X5_still_42 (p1 : Int32) (p2 : Int32) (p3 : Int32) : Nat → Int32 → zM → (Int32 × zM)
  | 0, v4, mm => (0, mm)
  | n42 + 1, v4, mm => (if (99 : Int32) < v4 then
(let x12 : Int32 × zM := f_X5_finding (-1000000004 : Int32) mm;
((x12.1), (x12.2)))
else
(let m13 : zM := f_X2_copyFrom 29 1 mm;
(let m15 : zM := zpI m13 (31 + p1.toNatClampNeg) 4 v4;
f_X5_still_80 p1 p2 p3 (fun wv4 wmm => f_X5_still_42 p1 p2 p3 n42 wv4 wmm) (61) v4 (1 : Int32) (0 : Int32) m15)))
def f_X5_still (p1 : Int32) (p2 : Int32) (p3 : Int32) (M : zM) : Int32 × zM :=
(let x2 : Int32 := f_X2_has 1 p1 M;
(if x2 = (0 : Int32) then
f_X5_still_32 p1 p2 p3 M
else
(let x5 : Int32 := f_X5_within p2 (1 : Int32) (60 : Int32);
(if x5 = (0 : Int32) then
f_X5_still_32 p1 p2 p3 M
else
(let x8 : Int32 := f_X5_within p3 (0 : Int32) (400 : Int32);
(if x8 = (0 : Int32) then
f_X5_still_32 p1 p2 p3 M
else
f_X5_still_42 p1 p2 p3 (101) (0 : Int32) M))))))
def f_X3_isMissing (a0 : Nat) (M : zM) : Int32 :=
(if (M.1 a0 1) = (0 : Int32) then
(1 : Int32)
else
(0 : Int32))
def f_X5_which_20 (p1 : Int32) (p2 : Int32) (mm : zM) : Int32 × zM :=
(let x14 : Int32 × zM := f_X5_finding (-1000000001 : Int32) mm;
((x14.1), (x14.2)))
def f_X5_which_159 (p1 : Int32) (p2 : Int32) (k68 : Nat → Int32 → Int32 → zM → (Int32 × zM)) (c3 : Nat) (v4 : Int32) (v5 : Int32) (v6 : Int32) (mm : zM) : Int32 × zM :=
(if v6 = (0 : Int32) then
(let x24 : Int32 := (v4 ||| (0 : Int32));
k68 c3 x24 (v5 + (1 : Int32)) mm)
else
(let x25 : Int32 := (v4 ||| ((1 : Int32) <<< (v5 &&& 31)));
k68 c3 x25 (v5 + (1 : Int32)) mm))
def f_X5_which_106 (p1 : Int32) (p2 : Int32) (k68 : Nat → Int32 → Int32 → zM → (Int32 × zM)) : Nat → Nat → Int32 → Int32 → Int32 → Int32 → zM → (Int32 × zM)
  | 0, c3, v4, v5, v6, v7, mm => (0, mm)
  | n106 + 1, c3, v4, v5, v6, v7, mm => (if (mm.1 c3 2) ≤ v7 then
f_X5_which_159 p1 p2 k68 c3 v4 v5 v6 mm
else
(if v6 = (0 : Int32) then
f_X5_which_159 p1 p2 k68 c3 v4 v5 v6 mm
else
(let m21 : zM := f_X2_tick 29 mm;
(if (lg_cmp ((m21.1 29 5).toInt64) (m21.2 (c3 + 1) v7.toNatClampNeg)) = (0 : Int32) then
f_X5_which_106 p1 p2 k68 n106 c3 v4 v5 (1 : Int32) (v7 + (1 : Int32)) m21
else
f_X5_which_106 p1 p2 k68 n106 c3 v4 v5 (0 : Int32) (v7 + (1 : Int32)) m21))))
def f_X5_which_68 (p1 : Int32) (p2 : Int32) : Nat → Nat → Int32 → Int32 → zM → (Int32 × zM)
  | 0, c3, v4, v5, mm => (0, mm)
  | n68 + 1, c3, v4, v5, mm => (if (6 : Int32) ≤ v5 then
(v4, mm)
else
(let m16 : zM := f_X2_copyFrom 29 1 mm;
(let m18 : zM := zpI m16 (31 + p1.toNatClampNeg) 0 v5;
f_X5_which_106 p1 p2 (fun wc3 wv4 wv5 wmm => f_X5_which_68 p1 p2 n68 wc3 wv4 wv5 wmm) (41) c3 v4 v5 (1 : Int32) (0 : Int32) m18)))
def f_X5_which (p1 : Int32) (p2 : Int32) (M : zM) : Int32 × zM :=
(let x2 : Int32 := f_X2_has 1 p1 M;
(if x2 = (0 : Int32) then
f_X5_which_20 p1 p2 M
else
(let x5 : Int32 := f_X5_within p2 (0 : Int32) (3 : Int32);
(if x5 = (0 : Int32) then
f_X5_which_20 p1 p2 M
else
(let x9 : Int32 := f_X3_isMissing (56 + 2 * p2.toNatClampNeg) M;
(if x9 = (0 : Int32) then
(if (M.1 (56 + 2 * p2.toNatClampNeg) 2) = (0 : Int32) then
(let x12 : Int32 × zM := f_X5_finding (-1000000007 : Int32) M;
((x12.1), (x12.2)))
else
f_X5_which_68 p1 p2 (7) (56 + 2 * p2.toNatClampNeg) (0 : Int32) (0 : Int32) M)
else
(let x13 : Int32 × zM := f_X5_finding (-1000000006 : Int32) M;
((x13.1), (x13.2)))))))))
def f_X5_together_37 (p1 : Int32) (p2 : Int32) (p3 : Int32) (mm : zM) : Int32 × zM :=
(let x12 : Int32 × zM := f_X5_finding (-1000000001 : Int32) mm;
((x12.1), (x12.2)))
def f_X5_together_61 (p1 : Int32) (p2 : Int32) (p3 : Int32) : Nat → Int32 → Int32 → zM → (Int32 × zM)
  | 0, v4, v5, mm => (0, mm)
  | n61 + 1, v4, v5, mm => (if p3 ≤ v5 then
(v4, mm)
else
(let m14 : zM := f_X2_tick 29 mm;
(let x15 : Int32 := (v4 + ((((m14.1 29 6) >>> (p1 &&& 31)) &&& ((m14.1 29 6) >>> (p2 &&& 31))) &&& (1 : Int32)));
f_X5_together_61 p1 p2 p3 n61 x15 (v5 + (1 : Int32)) m14)))
def f_X5_together (p1 : Int32) (p2 : Int32) (p3 : Int32) (M : zM) : Int32 × zM :=
(let x2 : Int32 := f_X2_has 1 p1 M;
(if x2 = (0 : Int32) then
f_X5_together_37 p1 p2 p3 M
else
(let x5 : Int32 := f_X2_has 1 p2 M;
(if x5 = (0 : Int32) then
f_X5_together_37 p1 p2 p3 M
else
(if p1 = p2 then
f_X5_together_37 p1 p2 p3 M
else
(let x9 : Int32 := f_X5_within p3 (1 : Int32) (60 : Int32);
(if x9 = (0 : Int32) then
f_X5_together_37 p1 p2 p3 M
else
(let m11 : zM := f_X2_copyFrom 29 1 M;
f_X5_together_61 p1 p2 p3 (61) (0 : Int32) (0 : Int32) m11))))))))
def f_X5_feed_41 (p1 : Int32) (p2 : Int32) : Nat → Int32 → zM → (Int32 × zM)
  | 0, v3, mm => (0, mm)
  | n41 + 1, v3, mm => (if v3 < (0 : Int32) then
((mm.1 53 1), mm)
else
(let m9 : zM := zpI mm 54 (mm.1 53 1).toNatClampNeg (((p1.toUInt32 >>> (((8 : Int32) * v3).toUInt32 &&& Int32.toUInt32 31)).toInt32) &&& (255 : Int32));
(let m10 : zM := zpI m9 53 1 ((m9.1 53 1) + (1 : Int32));
f_X5_feed_41 p1 p2 n41 (v3 + (-1 : Int32)) m10)))
def f_X5_feed (p1 : Int32) (p2 : Int32) (M : zM) : Int32 × zM :=
(let x2 : Int32 := f_X5_within p2 (1 : Int32) (4 : Int32);
(if x2 = (0 : Int32) then
(let x7 : Int32 × zM := f_X5_finding (-1000000001 : Int32) M;
((x7.1), (x7.2)))
else
(if ((M.1 53 1) + p2) ≤ (60 : Int32) then
(let x5 : Int32 := (p2 - (1 : Int32));
f_X5_feed_41 p1 p2 (5) x5 M)
else
(let x6 : Int32 × zM := f_X5_finding (-1000000002 : Int32) M;
((x6.1), (x6.2))))))
def f_X5_wipe (M : zM) : Int32 × zM :=
(let x1 : Int32 := (M.1 53 1);
(let m2 : zM := zpI M 53 1 (0 : Int32);
(x1, m2)))
def f_X4_findFault (a0 : Nat) (M : zM) : Int32 × zM :=
(let x1 : Int32 × zM := f_X4_readAll a0 M;
(((x1.2).1 a0 4), (x1.2)))
def f_X5_law (M : zM) : Int32 × zM :=
(let x1 : Int32 × zM := f_X4_findFault 53 M;
(let x2 : Int32 := (x1.1);
(if x2 < (0 : Int32) then
(let m4 : zM := f_X4_copyFrom 13 53 (x1.2);
(let m5 : zM := zpI m4 53 1 (0 : Int32);
((0 : Int32), m5)))
else
(((-1 : Int32) - x2), (x1.2)))))
def f_X5_plain (M : zM) : Int32 × zM :=
(if (M.1 13 1) ≤ (0 : Int32) then
(let m2 : zM := zpI M 13 1 (0 : Int32);
((0 : Int32), m2))
else
(let m3 : zM := zpI M 13 1 (0 : Int32);
((1 : Int32), m3)))
def f_X5_says (p1 : Int32) (M : zM) : Int32 × zM :=
(let x2 : Int32 := f_X2_has 1 p1 M;
(if x2 = (0 : Int32) then
(let x8 : Int32 × zM := f_X5_finding (-1000000001 : Int32) M;
((x8.1), (x8.2)))
else
(if (M.1 13 1) = (0 : Int32) then
(let x7 : Int32 × zM := f_X5_finding (-1000000004 : Int32) M;
((x7.1), (x7.2)))
else
(let x6 : Int32 × zM := f_X4_valueFor 13 (3 + p1.toNatClampNeg) p1 (M.1 1 3) (M.1 (3 + p1.toNatClampNeg) 6) M;
((x6.1), (x6.2))))))
def f_X3_begin_20 (a0 : Nat) (p1 : Int32) (p2 : Int32) : Nat → Int32 → zM → zM
  | 0, v3, mm => mm
  | n20 + 1, v3, mm => (if (40 : Int32) ≤ v3 then
mm
else
(let m5 : zM := zpL mm (a0 + 1) v3.toNatClampNeg (0 : Int64);
f_X3_begin_20 a0 p1 p2 n20 (v3 + (1 : Int32)) m5))
def f_X3_begin_15 (a0 : Nat) (p1 : Int32) (p2 : Int32) (s0 : Int32) (mm : zM) : zM :=
(let m3 : zM := zpI mm a0 2 s0;
f_X3_begin_20 a0 p1 p2 (41) (0 : Int32) m3)
def f_X3_begin (a0 : Nat) (p1 : Int32) (p2 : Int32) (M : zM) : zM :=
(let m1 : zM := zpI M a0 1 p1;
(if p1 = (0 : Int32) then
f_X3_begin_15 a0 p1 p2 (0 : Int32) m1
else
f_X3_begin_15 a0 p1 p2 p2 m1))
def f_X5_sheet_31 (p1 : Int32) (p2 : Int32) (p3 : Int32) (mm : zM) : Int32 × zM :=
(let x8 : Int32 × zM := f_X5_finding (-1000000001 : Int32) mm;
((x8.1), (x8.2)))
def f_X5_sheet_38 (p1 : Int32) (p2 : Int32) (p3 : Int32) (mm : zM) : Int32 × zM :=
(if (0 : Int32) ≤ p3 then
(if p3 ≤ (40 : Int32) then
(let m12 : zM := f_X3_begin (56 + 2 * p1.toNatClampNeg) p2 p3 mm;
((m12.1 (56 + 2 * p1.toNatClampNeg) 2), m12))
else
(let x14 : Int32 × zM := f_X5_finding (-1000000001 : Int32) mm;
((x14.1), (x14.2))))
else
(let x15 : Int32 × zM := f_X5_finding (-1000000007 : Int32) mm;
((x15.1), (x15.2))))
def f_X5_sheet (p1 : Int32) (p2 : Int32) (p3 : Int32) (M : zM) : Int32 × zM :=
(let x2 : Int32 := f_X5_within p1 (0 : Int32) (3 : Int32);
(if x2 = (0 : Int32) then
f_X5_sheet_31 p1 p2 p3 M
else
(if p2 = (0 : Int32) then
f_X5_sheet_38 p1 p2 p3 M
else
(if p2 = (8 : Int32) then
f_X5_sheet_38 p1 p2 p3 M
else
(if p2 = (16 : Int32) then
f_X5_sheet_38 p1 p2 p3 M
else
(if p2 = (64 : Int32) then
f_X5_sheet_38 p1 p2 p3 M
else
f_X5_sheet_31 p1 p2 p3 M))))))
def f_X3_lowestBits (a0 : Nat) (p1 : Int64) (M : zM) : Int64 :=
(let x2 : Int32 := (M.1 a0 1);
(if x2 = (8 : Int32) then
(((p1.toInt32).toInt8.toInt32).toInt64)
else
(if x2 = (16 : Int32) then
(((p1.toInt32).toInt16.toInt32).toInt64)
else
p1)))
def f_X5_write (p1 : Int32) (p2 : Int32) (p3 : Int64) (M : zM) : Int64 × zM :=
(let x2 : Int32 := f_X5_within p1 (0 : Int32) (3 : Int32);
(if x2 = (0 : Int32) then
(let x16 : Int32 × zM := f_X5_finding (-1000000001 : Int32) M;
(((x16.1).toInt64), (x16.2)))
else
(let x6 : Int32 := f_X3_isMissing (56 + 2 * p1.toNatClampNeg) M;
(if x6 = (0 : Int32) then
(let x9 : Int32 := f_X5_within p2 (0 : Int32) ((M.1 (56 + 2 * p1.toNatClampNeg) 2) - (1 : Int32));
(if x9 = (0 : Int32) then
(let x14 : Int32 × zM := f_X5_finding (-1000000001 : Int32) M;
(((x14.1).toInt64), (x14.2)))
else
(let x11 : Int64 := (M.2 ((56 + 2 * p1.toNatClampNeg) + 1) p2.toNatClampNeg);
(let x12 : Int64 := f_X3_lowestBits (56 + 2 * p1.toNatClampNeg) p3 M;
(let m13 : zM := zpL M ((56 + 2 * p1.toNatClampNeg) + 1) p2.toNatClampNeg x12;
(x11, m13))))))
else
(let x15 : Int32 × zM := f_X5_finding (-1000000006 : Int32) M;
(((x15.1).toInt64), (x15.2)))))))
def f_X3_hasPart (a0 : Nat) (p1 : Int32) (p2 : Int32) (M : zM) : Int32 :=
(if p1 < (0 : Int32) then
(0 : Int32)
else
(if p2 < (0 : Int32) then
(0 : Int32)
else
(if (M.1 a0 2) < p2 then
(0 : Int32)
else
(if ((M.1 a0 2) - p2) < p1 then
(0 : Int32)
else
(1 : Int32)))))
def f_X5_copy_18 (p1 : Int32) (p2 : Int32) (p3 : Int32) (p4 : Int32) (p5 : Int32) (mm : zM) : Int32 × zM :=
(let x24 : Int32 × zM := f_X5_finding (-1000000001 : Int32) mm;
((x24.1), (x24.2)))
def f_X5_copy_57 (p1 : Int32) (p2 : Int32) (p3 : Int32) (p4 : Int32) (p5 : Int32) (mm : zM) : Int32 × zM :=
(let x25 : Int32 × zM := f_X5_finding (-1000000006 : Int32) mm;
((x25.1), (x25.2)))
def f_X5_copy_107 (p1 : Int32) (p2 : Int32) (p3 : Int32) (p4 : Int32) (p5 : Int32) (mm : zM) : Int32 × zM :=
(let x26 : Int32 × zM := f_X5_finding (-1000000001 : Int32) mm;
((x26.1), (x26.2)))
def f_X5_copy (p1 : Int32) (p2 : Int32) (p3 : Int32) (p4 : Int32) (p5 : Int32) (M : zM) : Int32 × zM :=
(let x2 : Int32 := f_X5_within p1 (0 : Int32) (3 : Int32);
(if x2 = (0 : Int32) then
f_X5_copy_18 p1 p2 p3 p4 p5 M
else
(let x5 : Int32 := f_X5_within p3 (0 : Int32) (3 : Int32);
(if x5 = (0 : Int32) then
f_X5_copy_18 p1 p2 p3 p4 p5 M
else
(let x10 : Int32 := f_X3_isMissing (56 + 2 * p1.toNatClampNeg) M;
(if x10 = (0 : Int32) then
(let x13 : Int32 := f_X3_isMissing (56 + 2 * p3.toNatClampNeg) M;
(if x13 = (0 : Int32) then
(if (M.1 (56 + 2 * p1.toNatClampNeg) 1) = (M.1 (56 + 2 * p3.toNatClampNeg) 1) then
(let x17 : Int32 := f_X3_hasPart (56 + 2 * p1.toNatClampNeg) p2 p5 M;
(if x17 = (0 : Int32) then
f_X5_copy_107 p1 p2 p3 p4 p5 M
else
(let x20 : Int32 := f_X3_hasPart (56 + 2 * p3.toNatClampNeg) p4 p5 M;
(if x20 = (0 : Int32) then
f_X5_copy_107 p1 p2 p3 p4 p5 M
else
(let m22 : zM := zrL M ((56 + 2 * p3.toNatClampNeg) + 1) (va_cpy (M.2 ((56 + 2 * p1.toNatClampNeg) + 1)) (M.2 ((56 + 2 * p3.toNatClampNeg) + 1)) p2.toNatClampNeg p4.toNatClampNeg p5.toNatClampNeg);
(p5, m22))))))
else
(let x23 : Int32 × zM := f_X5_finding (-1000000003 : Int32) M;
((x23.1), (x23.2))))
else
f_X5_copy_57 p1 p2 p3 p4 p5 M))
else
f_X5_copy_57 p1 p2 p3 p4 p5 M))))))
def f_X5_draws_51 (p1 : Int32) : Nat → Nat → Int32 → Int32 → Int32 → zM → (Int32 × zM)
  | 0, c2, v3, v4, v5, mm => (0, mm)
  | n51 + 1, c2, v3, v4, v5, mm => (if (mm.1 c2 2) ≤ v5 then
(let m12 : zM := zpI mm 1 3 v3;
(v4, m12))
else
(let x13 : Int64 := (mm.2 (c2 + 1) v5.toNatClampNeg);
(if (lg_cmp x13 (-99 : Int64)) < (0 : Int32) then
f_X5_draws_51 p1 n51 c2 v3 v4 (v5 + (1 : Int32)) mm
else
(if (0 : Int32) < (lg_cmp x13 (99 : Int64)) then
f_X5_draws_51 p1 n51 c2 v3 v4 (v5 + (1 : Int32)) mm
else
(let m16 : zM := zpI mm 1 3 (x13.toInt32);
(let m17 : zM := f_X2_tick 1 m16;
(let m18 : zM := f_X1_enter 43 1 m17;
f_X5_draws_51 p1 n51 c2 v3 (v4 + (1 : Int32)) (v5 + (1 : Int32)) m18)))))))
def f_X5_draws (p1 : Int32) (M : zM) : Int32 × zM :=
(let x2 : Int32 := f_X5_within p1 (0 : Int32) (3 : Int32);
(if x2 = (0 : Int32) then
(let x10 : Int32 × zM := f_X5_finding (-1000000001 : Int32) M;
((x10.1), (x10.2)))
else
(let x6 : Int32 := f_X3_isMissing (56 + 2 * p1.toNatClampNeg) M;
(if x6 = (0 : Int32) then
(let x8 : Int32 := (M.1 1 3);
f_X5_draws_51 p1 (41) (56 + 2 * p1.toNatClampNeg) x8 (0 : Int32) (0 : Int32) M)
else
(let x9 : Int32 × zM := f_X5_finding (-1000000006 : Int32) M;
((x9.1), (x9.2)))))))
def f_X5_read_39 (p1 : Int32) : Nat → Nat → Int32 → zM → (Int32 × zM)
  | 0, c2, v3, mm => (0, mm)
  | n39 + 1, c2, v3, mm => (if (mm.1 c2 2) ≤ v3 then
((0 : Int32), mm)
else
(let x12 : Int32 := f_X2_has 1 v3 mm;
(if x12 = (0 : Int32) then
(((1 : Int32) + v3), mm)
else
(if (lg_cmp ((mm.1 (3 + v3.toNatClampNeg) 5).toInt64) (mm.2 (c2 + 1) v3.toNatClampNeg)) = (0 : Int32) then
f_X5_read_39 p1 n39 c2 (v3 + (1 : Int32)) mm
else
(((1 : Int32) + v3), mm)))))
def f_X5_read (p1 : Int32) (M : zM) : Int32 × zM :=
(let x2 : Int32 := f_X5_within p1 (0 : Int32) (3 : Int32);
(if x2 = (0 : Int32) then
(let x9 : Int32 × zM := f_X5_finding (-1000000001 : Int32) M;
((x9.1), (x9.2)))
else
(let x6 : Int32 := f_X3_isMissing (56 + 2 * p1.toNatClampNeg) M;
(if x6 = (0 : Int32) then
f_X5_read_39 p1 (41) (56 + 2 * p1.toNatClampNeg) (0 : Int32) M
else
(let x8 : Int32 × zM := f_X5_finding (-1000000006 : Int32) M;
((x8.1), (x8.2)))))))
def f_X1_copyFrom (a0 : Nat) (a1 : Nat) (M : zM) : zM :=
(let m1 : zM := zrI M (a0 + 1) (va_cpy (M.1 (a1 + 1)) (M.1 (a0 + 1)) (0 : Int32).toNatClampNeg (0 : Int32).toNatClampNeg (100 : Int32).toNatClampNeg);
(let m2 : zM := zrI m1 (a0 + 2) (va_cpy (m1.1 (a1 + 2)) (m1.1 (a0 + 2)) (0 : Int32).toNatClampNeg (0 : Int32).toNatClampNeg (100 : Int32).toNatClampNeg);
(let m3 : zM := zrI m2 (a0 + 3) (va_cpy (m2.1 (a1 + 3)) (m2.1 (a0 + 3)) (0 : Int32).toNatClampNeg (0 : Int32).toNatClampNeg (100 : Int32).toNatClampNeg);
(let m4 : zM := zrI m3 (a0 + 4) (va_cpy (m3.1 (a1 + 4)) (m3.1 (a0 + 4)) (0 : Int32).toNatClampNeg (0 : Int32).toNatClampNeg (7 : Int32).toNatClampNeg);
(let m5 : zM := zpI m4 a0 4 (m4.1 a1 4);
(let m6 : zM := zpI m5 a0 5 (m5.1 a1 5);
(let m7 : zM := zpI m6 a0 6 (m6.1 a1 6);
(let m8 : zM := zpI m7 a0 7 (m7.1 a1 7);
m8))))))))
def f_X5_image (M : zM) : Int32 × zM :=
(let m1 : zM := f_X2_copyFrom 15 1 M;
(let m2 : zM := f_X1_copyFrom 48 43 m1;
(let m3 : zM := zpI m2 0 5 (1 : Int32);
((1 : Int32), m3))))
def f_X5_undo (M : zM) : Int32 × zM :=
(if (M.1 0 5) = (0 : Int32) then
(let x4 : Int32 × zM := f_X5_finding (-1000000004 : Int32) M;
((x4.1), (x4.2)))
else
(let m2 : zM := f_X2_copyFrom 1 15 M;
(let m3 : zM := f_X1_copyFrom 43 48 m2;
((m3.1 1 1), m3))))
def f_X5_tear (M : zM) : Int32 × zM :=
(if (M.1 0 5) = (0 : Int32) then
(let m2 : zM := zpI M 0 5 (0 : Int32);
((0 : Int32), m2))
else
(let m3 : zM := zpI M 0 5 (0 : Int32);
((1 : Int32), m3)))
def f_X5_count (p1 : Int32) (M : zM) : Int32 × zM :=
(if p1 = (0 : Int32) then
((M.1 1 1), M)
else
(if p1 = (1 : Int32) then
((M.1 43 6), M)
else
(if p1 = (2 : Int32) then
((M.1 43 7), M)
else
(if p1 = (3 : Int32) then
(if (M.1 13 1) ≤ (0 : Int32) then
((0 : Int32), M)
else
((1 : Int32), M))
else
(if p1 = (4 : Int32) then
((M.1 53 1), M)
else
(if p1 = (5 : Int32) then
((M.1 1 3), M)
else
(if p1 = (6 : Int32) then
((M.1 1 2), M)
else
(if p1 = (7 : Int32) then
((M.1 43 4), M)
else
(let x3 : Int32 × zM := f_X5_finding (-1000000001 : Int32) M;
((x3.1), (x3.2)))))))))))
def f_X5_status_32 (p1 : Int32) : Nat → Int32 → Int32 → zM → (Int32 × zM)
  | 0, v2, v3, mm => (0, mm)
  | n32 + 1, v2, v3, mm => (if (7 : Int32) ≤ v3 then
(v2, mm)
else
(let x7 : Int32 := (v2 + (mm.1 64 v3.toNatClampNeg));
f_X5_status_32 p1 n32 x7 (v3 + (1 : Int32)) mm))
def f_X5_status (p1 : Int32) (M : zM) : Int32 × zM :=
(let x2 : Int32 := f_X5_within p1 (-1 : Int32) (6 : Int32);
(if x2 = (0 : Int32) then
(let x5 : Int32 × zM := f_X5_finding (-1000000001 : Int32) M;
((x5.1), (x5.2)))
else
(if p1 < (0 : Int32) then
f_X5_status_32 p1 (8) (0 : Int32) (0 : Int32) M
else
((M.1 64 p1.toNatClampNeg), M))))
end
section
theorem kq_X6_in : zCalS yX6_in cX6_in 3 (some .boolean) 3 := ⟨kT_X6_in, kC_X6, kD_X6_in, by decide, by decide, by decide +kernel⟩
theorem kq_X6_lesser : zCalS yX6_lesser cX6_lesser 2 (some .int) 2 := ⟨kT_X6_lesser, kC_X6, kD_X6_lesser, by decide, by decide, by decide +kernel⟩
theorem kq_X6_greater : zCalS yX6_greater cX6_greater 2 (some .int) 2 := ⟨kT_X6_greater, kC_X6, kD_X6_greater, by decide, by decide, by decide +kernel⟩
theorem kq_X6_without : zCalS yX6_without cX6_without 1 (some .long) 1 := ⟨kT_X6_without, kC_X6, kD_X6_without, by decide, by decide, by decide +kernel⟩
theorem kq_X6_no : zCal RX6 yX6_no cX6_no 2 (some .int) 1 := ⟨kI_X6_no, kS_X6_no, kC_X6, kD_X6_no, rfl, by decide, by decide, by decide +kernel⟩
theorem kq_X6_isBlock : zCal RX6 yX6_isBlock cX6_isBlock 2 (some .boolean) 1 := ⟨kI_X6_isBlock, kS_X6_isBlock, kC_X6, kD_X6_isBlock, rfl, by decide, by decide, by decide +kernel⟩
theorem kq_X6_at : zCal RX6 yX6_at cX6_at 3 (some .int) 2 := ⟨kI_X6_at, kS_X6_at, kC_X6, kD_X6_at, rfl, by decide, by decide, by decide +kernel⟩
theorem kq_X6_become : zCal RX6 yX6_become cX6_become 5 (some .int) 3 := ⟨kI_X6_become, kS_X6_become, kC_X6, kD_X6_become, rfl, by decide, by decide, by decide +kernel⟩
theorem kq_X6_plainHolds : zCal RX6 yX6_plainHolds cX6_plainHolds 3 (some .int) 2 := ⟨kI_X6_plainHolds, kS_X6_plainHolds, kC_X6, kD_X6_plainHolds, rfl, by decide, by decide, by decide +kernel⟩
theorem kq_X6_worthOf : zCal RX6 yX6_worthOf cX6_worthOf 4 (some .int) 3 := ⟨kI_X6_worthOf, kS_X6_worthOf, kC_X6, kD_X6_worthOf, rfl, by decide, by decide, by decide +kernel⟩
theorem kq_X6_done : zCalS yX6_done cX6_done 3 (some .int) 3 := ⟨kT_X6_done, kC_X6, kD_X6_done, by decide, by decide, by decide +kernel⟩
theorem kq_X6_given : zCal RX6 yX6_given cX6_given 6 (some .int) 2 := ⟨kI_X6_given, kS_X6_given, kC_X6, kD_X6_given, rfl, by decide, by decide, by decide +kernel⟩
theorem kq_X6_holdsOf : zCal RX6 yX6_holdsOf cX6_holdsOf 4 (some .int) 2 := ⟨kI_X6_holdsOf, kS_X6_holdsOf, kC_X6, kD_X6_holdsOf, rfl, by decide, by decide, by decide +kernel⟩
theorem kq_X6_rubsOf : zCal RX6 yX6_rubsOf cX6_rubsOf 4 (some .int) 2 := ⟨kI_X6_rubsOf, kS_X6_rubsOf, kC_X6, kD_X6_rubsOf, rfl, by decide, by decide, by decide +kernel⟩
theorem kq_X6_placeOf : zCal RX6 yX6_placeOf cX6_placeOf 2 (some .int) 1 := ⟨kI_X6_placeOf, kS_X6_placeOf, kC_X6, kD_X6_placeOf, rfl, by decide, by decide, by decide +kernel⟩
theorem kq_X6_isLast : zCal RX6 yX6_isLast cX6_isLast 2 (some .boolean) 1 := ⟨kI_X6_isLast, kS_X6_isLast, kC_X6, kD_X6_isLast, rfl, by decide, by decide, by decide +kernel⟩
theorem kq_X6_pull : zCal RX6 yX6_pull cX6_pull 3 (some .int) 1 := ⟨kI_X6_pull, kS_X6_pull, kC_X6, kD_X6_pull, rfl, by decide, by decide, by decide +kernel⟩
theorem kq_X6_springs : zCal RX6 yX6_springs cX6_springs 2 (some .int) 1 := ⟨kI_X6_springs, kS_X6_springs, kC_X6, kD_X6_springs, rfl, by decide, by decide, by decide +kernel⟩
theorem kq_X6_block : zCal RX6 yX6_block cX6_block 6 (some .int) 4 := ⟨kI_X6_block, kS_X6_block, kC_X6, kD_X6_block, rfl, by decide, by decide, by decide +kernel⟩
theorem kq_X6_of : zCal RX6 yX6_of cX6_of 3 (some .int) 2 := ⟨kI_X6_of, kS_X6_of, kC_X6, kD_X6_of, rfl, by decide, by decide, by decide +kernel⟩
theorem kq_X6_set : zCal RX6 yX6_set cX6_set 4 (some .int) 3 := ⟨kI_X6_set, kS_X6_set, kC_X6, kD_X6_set, rfl, by decide, by decide, by decide +kernel⟩
theorem kq_X6_isUnder : zCalS yX6_isUnder cX6_isUnder 2 (some .boolean) 2 := ⟨kT_X6_isUnder, kC_X6, kD_X6_isUnder, by decide, by decide, by decide +kernel⟩
theorem kq_X6_as : zCal RX6 yX6_as cX6_as 3 (some .int) 2 := ⟨kI_X6_as, kS_X6_as, kC_X6, kD_X6_as, rfl, by decide, by decide, by decide +kernel⟩
theorem kq_X6_holds : zCal RX6 yX6_holds cX6_holds 3 (some .int) 2 := ⟨kI_X6_holds, kS_X6_holds, kC_X6, kD_X6_holds, rfl, by decide, by decide, by decide +kernel⟩
theorem kq_X6_rubs : zCal RX6 yX6_rubs cX6_rubs 3 (some .int) 2 := ⟨kI_X6_rubs, kS_X6_rubs, kC_X6, kD_X6_rubs, rfl, by decide, by decide, by decide +kernel⟩
theorem kq_X6_push : zCal RX6 yX6_push cX6_push 3 (some .int) 2 := ⟨kI_X6_push, kS_X6_push, kC_X6, kD_X6_push, rfl, by decide, by decide, by decide +kernel⟩
theorem kq_X6_oil : zCal RX6 yX6_oil cX6_oil 3 (some .int) 2 := ⟨kI_X6_oil, kS_X6_oil, kC_X6, kD_X6_oil, rfl, by decide, by decide, by decide +kernel⟩
theorem kq_X6_pace : zCal RX6 yX6_pace cX6_pace 3 (some .int) 1 := ⟨kI_X6_pace, kS_X6_pace, kC_X6, kD_X6_pace, rfl, by decide, by decide, by decide +kernel⟩
theorem kq_X6_stepsOf : zCal RX6 yX6_stepsOf cX6_stepsOf 9 (some .int) 1 := ⟨kI_X6_stepsOf, kS_X6_stepsOf, kC_X6, kD_X6_stepsOf, rfl, by decide, by decide, by decide +kernel⟩
theorem kq_X6_round : zCal RX6 yX6_round cX6_round 3 (some .boolean) 0 := ⟨kI_X6_round, kS_X6_round, kC_X6, kD_X6_round, rfl, by decide, by decide, by decide +kernel⟩
theorem kq_X6_classOf : zCalS yX6_classOf cX6_classOf 3 (some .int) 1 := ⟨kT_X6_classOf, kC_X6, kD_X6_classOf, by decide, by decide, by decide +kernel⟩
theorem kq_X6_books : zCal RX6 yX6_books cX6_books 2 none 0 := ⟨kI_X6_books, kS_X6_books, kC_X6, kD_X6_books, rfl, by decide, by decide, by decide +kernel⟩
theorem kq_X6_tick : zCal RX6 yX6_tick cX6_tick 5 none 0 := ⟨kI_X6_tick, kS_X6_tick, kC_X6, kD_X6_tick, rfl, by decide, by decide, by decide +kernel⟩
theorem kq_X6_ticks : zCal RX6 yX6_ticks cX6_ticks 3 (some .int) 1 := ⟨kI_X6_ticks, kS_X6_ticks, kC_X6, kD_X6_ticks, rfl, by decide, by decide, by decide +kernel⟩
theorem kq_X6_until : zCal RX6 yX6_until cX6_until 5 (some .int) 2 := ⟨kI_X6_until, kS_X6_until, kC_X6, kD_X6_until, rfl, by decide, by decide, by decide +kernel⟩
theorem kq_X6_book : zCal RX6 yX6_book cX6_book 3 (some .int) 2 := ⟨kI_X6_book, kS_X6_book, kC_X6, kD_X6_book, rfl, by decide, by decide, by decide +kernel⟩
theorem kq_X6_counts : zCal RX6 yX6_counts cX6_counts 2 (some .int) 1 := ⟨kI_X6_counts, kS_X6_counts, kC_X6, kD_X6_counts, rfl, by decide, by decide, by decide +kernel⟩
theorem kq_X6_power : zCal RX6 yX6_power cX6_power 3 (some .int) 0 := ⟨kI_X6_power, kS_X6_power, kC_X6, kD_X6_power, rfl, by decide, by decide, by decide +kernel⟩
theorem kq_X6_tone : zCal RX6 yX6_tone cX6_tone 3 (some .int) 0 := ⟨kI_X6_tone, kS_X6_tone, kC_X6, kD_X6_tone, rfl, by decide, by decide, by decide +kernel⟩
theorem kq_X6_great : zCal RX6 yX6_great cX6_great 7 (some .int) 2 := ⟨kI_X6_great, kS_X6_great, kC_X6, kD_X6_great, rfl, by decide, by decide, by decide +kernel⟩
theorem kq_X6_noise : zCal RX6 yX6_noise cX6_noise 5 (some .long) 1 := ⟨kI_X6_noise, kS_X6_noise, kC_X6, kD_X6_noise, rfl, by decide, by decide, by decide +kernel⟩
theorem kq_X6_lay : zCalS yX6_lay cX6_lay 3 none 2 := ⟨kT_X6_lay, kC_X6, kD_X6_lay, by decide, by decide, by decide +kernel⟩
theorem kq_X6_goes : zCal RX6 yX6_goes cX6_goes 3 none 1 := ⟨kI_X6_goes, kS_X6_goes, kC_X6, kD_X6_goes, rfl, by decide, by decide, by decide +kernel⟩
theorem kq_X6_isAhead : zCalS yX6_isAhead cX6_isAhead 1 (some .boolean) 1 := ⟨kT_X6_isAhead, kC_X6, kD_X6_isAhead, by decide, by decide, by decide +kernel⟩
theorem kq_X6_jumps : zCal RX6 yX6_jumps cX6_jumps 4 (some .int) 1 := ⟨kI_X6_jumps, kS_X6_jumps, kC_X6, kD_X6_jumps, rfl, by decide, by decide, by decide +kernel⟩
theorem kq_X6_greatest : zCal RX6 yX6_greatest cX6_greatest 4 (some .int) 1 := ⟨kI_X6_greatest, kS_X6_greatest, kC_X6, kD_X6_greatest, rfl, by decide, by decide, by decide +kernel⟩
theorem kq_X6_ahead : zCal RX6 yX6_ahead cX6_ahead 4 (some .int) 2 := ⟨kI_X6_ahead, kS_X6_ahead, kC_X6, kD_X6_ahead, rfl, by decide, by decide, by decide +kernel⟩
theorem kq_X6_isSo : zCal RX6 yX6_isSo cX6_isSo 6 (some .boolean) 5 := ⟨kI_X6_isSo, kS_X6_isSo, kC_X6, kD_X6_isSo, rfl, by decide, by decide, by decide +kernel⟩
theorem kq_X6_leastSo : zCal RX6 yX6_leastSo cX6_leastSo 6 (some .int) 4 := ⟨kI_X6_leastSo, kS_X6_leastSo, kC_X6, kD_X6_leastSo, rfl, by decide, by decide, by decide +kernel⟩
theorem kq_X6_from : zCal RX6 yX6_from cX6_from 2 (some .int) 1 := ⟨kI_X6_from, kS_X6_from, kC_X6, kD_X6_from, rfl, by decide, by decide, by decide +kernel⟩
theorem kq_X6_still : zCal RX6 yX6_still cX6_still 4 (some .int) 3 := ⟨kI_X6_still, kS_X6_still, kC_X6, kD_X6_still, rfl, by decide, by decide, by decide +kernel⟩
theorem kq_X6_longOf : zCal RX6 yX6_longOf cX6_longOf 2 (some .int) 1 := ⟨kI_X6_longOf, kS_X6_longOf, kC_X6, kD_X6_longOf, rfl, by decide, by decide, by decide +kernel⟩
theorem kq_X6_gives : zCal RX6 yX6_gives cX6_gives 7 (some .boolean) 3 := ⟨kI_X6_gives, kS_X6_gives, kC_X6, kD_X6_gives, rfl, by decide, by decide, by decide +kernel⟩
theorem kq_X6_isSheet : zCalS yX6_isSheet cX6_isSheet 1 (some .boolean) 1 := ⟨kT_X6_isSheet, kC_X6, kD_X6_isSheet, by decide, by decide, by decide +kernel⟩
theorem kq_X6_which : zCal RX6 yX6_which cX6_which 5 (some .int) 2 := ⟨kI_X6_which, kS_X6_which, kC_X6, kD_X6_which, rfl, by decide, by decide, by decide +kernel⟩
theorem kq_X6_together : zCal RX6 yX6_together cX6_together 6 (some .int) 3 := ⟨kI_X6_together, kS_X6_together, kC_X6, kD_X6_together, rfl, by decide, by decide, by decide +kernel⟩
theorem kq_X6_byteAt : zCal RX6 yX6_byteAt cX6_byteAt 1 (some .int) 0 := ⟨kI_X6_byteAt, kS_X6_byteAt, kC_X6, kD_X6_byteAt, rfl, by decide, by decide, by decide +kernel⟩
theorem kq_X6_fails : zCal RX6 yX6_fails cX6_fails 1 none 0 := ⟨kI_X6_fails, kS_X6_fails, kC_X6, kD_X6_fails, rfl, by decide, by decide, by decide +kernel⟩
theorem kq_X6_may : zCal RX6 yX6_may cX6_may 3 (some .boolean) 1 := ⟨kI_X6_may, kS_X6_may, kC_X6, kD_X6_may, rfl, by decide, by decide, by decide +kernel⟩
theorem kq_X6_must : zCal RX6 yX6_must cX6_must 2 none 1 := ⟨kI_X6_must, kS_X6_must, kC_X6, kD_X6_must, rfl, by decide, by decide, by decide +kernel⟩
theorem kq_X6_emit : zCal RX6 yX6_emit cX6_emit 2 none 1 := ⟨kI_X6_emit, kS_X6_emit, kC_X6, kD_X6_emit, rfl, by decide, by decide, by decide +kernel⟩
theorem kq_X6_isDigit : zCalS yX6_isDigit cX6_isDigit 1 (some .boolean) 1 := ⟨kT_X6_isDigit, kC_X6, kD_X6_isDigit, by decide, by decide, by decide +kernel⟩
theorem kq_X6_nameOf : zCalS yX6_nameOf cX6_nameOf 1 (some .int) 1 := ⟨kT_X6_nameOf, kC_X6, kD_X6_nameOf, by decide, by decide, by decide +kernel⟩
theorem kq_X6_number : zCal RX6 yX6_number cX6_number 3 none 0 := ⟨kI_X6_number, kS_X6_number, kC_X6, kD_X6_number, rfl, by decide, by decide, by decide +kernel⟩
theorem kq_X6_opens : zCal RX6 yX6_opens cX6_opens 2 (some .boolean) 1 := ⟨kI_X6_opens, kS_X6_opens, kC_X6, kD_X6_opens, rfl, by decide, by decide, by decide +kernel⟩
theorem kq_X6_term : zCal RX6 yX6_term cX6_term 3 none 0 := ⟨kI_X6_term, kS_X6_term, kC_X6, kD_X6_term, rfl, by decide, by decide, by decide +kernel⟩
theorem kq_X6_sum : zCal RX6 yX6_sum cX6_sum 3 none 0 := ⟨kI_X6_sum, kS_X6_sum, kC_X6, kD_X6_sum, rfl, by decide, by decide, by decide +kernel⟩
theorem kq_X6_factor : zCal RX6 yX6_factor cX6_factor 1 none 0 := ⟨kI_X6_factor, kS_X6_factor, kC_X6, kD_X6_factor, rfl, by decide, by decide, by decide +kernel⟩
theorem kq_X6_feed : zCal RX6 yX6_feed cX6_feed 4 (some .int) 2 := ⟨kI_X6_feed, kS_X6_feed, kC_X6, kD_X6_feed, rfl, by decide, by decide, by decide +kernel⟩
theorem kq_X6_wipe : zCal RX6 yX6_wipe cX6_wipe 2 (some .int) 0 := ⟨kI_X6_wipe, kS_X6_wipe, kC_X6, kD_X6_wipe, rfl, by decide, by decide, by decide +kernel⟩
theorem kq_X6_law : zCal RX6 yX6_law cX6_law 2 (some .int) 0 := ⟨kI_X6_law, kS_X6_law, kC_X6, kD_X6_law, rfl, by decide, by decide, by decide +kernel⟩
theorem kq_X6_plain : zCal RX6 yX6_plain cX6_plain 2 (some .int) 0 := ⟨kI_X6_plain, kS_X6_plain, kC_X6, kD_X6_plain, rfl, by decide, by decide, by decide +kernel⟩
theorem kq_X6_says : zCal RX6 yX6_says cX6_says 2 (some .int) 1 := ⟨kI_X6_says, kS_X6_says, kC_X6, kD_X6_says, rfl, by decide, by decide, by decide +kernel⟩
theorem kq_X6_sheet : zCal RX6 yX6_sheet cX6_sheet 5 (some .int) 3 := ⟨kI_X6_sheet, kS_X6_sheet, kC_X6, kD_X6_sheet, rfl, by decide, by decide, by decide +kernel⟩
theorem kq_X6_write : zCal RX6 yX6_write cX6_write 7 (some .long) 3 := ⟨kI_X6_write, kS_X6_write, kC_X6, kD_X6_write, rfl, by decide, by decide, by decide +kernel⟩
theorem kq_X6_copy : zCal RX6 yX6_copy cX6_copy 7 (some .int) 5 := ⟨kI_X6_copy, kS_X6_copy, kC_X6, kD_X6_copy, rfl, by decide, by decide, by decide +kernel⟩
theorem kq_X6_draws : zCal RX6 yX6_draws cX6_draws 7 (some .int) 1 := ⟨kI_X6_draws, kS_X6_draws, kC_X6, kD_X6_draws, rfl, by decide, by decide, by decide +kernel⟩
theorem kq_X6_read : zCal RX6 yX6_read cX6_read 3 (some .int) 1 := ⟨kI_X6_read, kS_X6_read, kC_X6, kD_X6_read, rfl, by decide, by decide, by decide +kernel⟩
theorem kq_X6_image : zCal RX6 yX6_image cX6_image 1 (some .int) 0 := ⟨kI_X6_image, kS_X6_image, kC_X6, kD_X6_image, rfl, by decide, by decide, by decide +kernel⟩
theorem kq_X6_undo : zCal RX6 yX6_undo cX6_undo 1 (some .int) 0 := ⟨kI_X6_undo, kS_X6_undo, kC_X6, kD_X6_undo, rfl, by decide, by decide, by decide +kernel⟩
theorem kq_X6_tear : zCal RX6 yX6_tear cX6_tear 2 (some .int) 0 := ⟨kI_X6_tear, kS_X6_tear, kC_X6, kD_X6_tear, rfl, by decide, by decide, by decide +kernel⟩
theorem kq_X6_count : zCal RX6 yX6_count cX6_count 2 (some .int) 1 := ⟨kI_X6_count, kS_X6_count, kC_X6, kD_X6_count, rfl, by decide, by decide, by decide +kernel⟩
theorem kq_X6_status : zCal RX6 yX6_status cX6_status 4 (some .int) 1 := ⟨kI_X6_status, kS_X6_status, kC_X6, kD_X6_status, rfl, by decide, by decide, by decide +kernel⟩
def f_X6_in (p0 : Int32) (p1 : Int32) (p2 : Int32) : Int32 :=
(if p0 < p1 then
(0 : Int32)
else
(if p2 < p0 then
(0 : Int32)
else
(1 : Int32)))
def f_X6_lesser (p0 : Int32) (p1 : Int32) : Int32 :=
(if p1 ≤ p0 then
p1
else
p0)
def f_X6_greater (p0 : Int32) (p1 : Int32) : Int32 :=
(if p0 ≤ p1 then
p1
else
p0)
def f_X6_without (p0 : Int32) : Int64 :=
(if (0 : Int32) ≤ p0 then
(p0.toInt64)
else
(-(p0.toInt64)))
def f_X6_no (p1 : Int32) (M : zM) : Int32 × zM :=
(let m1 : zM := zpI M 5 p1.toNatClampNeg ((M.1 5 p1.toNatClampNeg) + (1 : Int32));
(((-1000000001 : Int32) - p1), m1))
def f_X6_isBlock (p1 : Int32) (M : zM) : Int32 :=
(let x2 : Int32 := f_X6_in p1 (0 : Int32) ((M.1 1 0) - (1 : Int32));
x2)
def f_X6_at (p1 : Int32) (p2 : Int32) (M : zM) : Int32 :=
(M.1 1 (((78 : Int32) + ((7 : Int32) * p1)) + p2).toNatClampNeg)
def f_X6_become (p1 : Int32) (p2 : Int32) (p3 : Int32) (M : zM) : Int32 × zM :=
(let x1 : Int32 := f_X6_at p1 p2 M;
(let m2 : zM := zpI M 1 (((78 : Int32) + ((7 : Int32) * p1)) + p2).toNatClampNeg p3;
(x1, m2)))
def f_X6_plainHolds (p1 : Int32) (p2 : Int32) (M : zM) : Int32 :=
(let x1 : Int32 := f_X6_at p1 (1 : Int32) M;
(let x2 : Int32 := f_X6_lesser (p2 / (4 : Int32)) (50 : Int32);
(x1 + x2)))
def f_X6_worthOf (p1 : Int32) (p2 : Int32) (p3 : Int32) (M : zM) : Int32 :=
(if p1 = (0 : Int32) then
p3
else
(if p1 = (1 : Int32) then
(let x2 : Int32 := f_X6_at p2 (1 : Int32) M;
x2)
else
(if p1 = (2 : Int32) then
(let x3 : Int32 := f_X6_at p2 (2 : Int32) M;
x3)
else
(if p1 = (3 : Int32) then
p2
else
(if p1 = (4 : Int32) then
(let x4 : Int32 := f_X6_at p2 (4 : Int32) M;
x4)
else
(M.1 1 2))))))
def f_X6_done (p0 : Int32) (p1 : Int32) (p2 : Int32) : Int32 :=
(if p0 = (2000 : Int32) then
(p1 + p2)
else
(if p0 = (2001 : Int32) then
(p1 - p2)
else
(if p0 = (2002 : Int32) then
(p1 * p2)
else
(if p0 = (2003 : Int32) then
(if p2 = (0 : Int32) then
(0 : Int32)
else
(if p2 = (-1 : Int32) then
(-p1)
else
(p1 / p2)))
else
(let x4 : Int32 := f_X6_greater p1 p2;
x4)))))
def f_X6_given_5 (p1 : Int32) (p2 : Int32) : Nat → Int32 → Int32 → zM → (Int32 × zM)
  | 0, v3, v4, mm => (0, mm)
  | n5 + 1, v3, v4, mm => (if (mm.1 1 5) ≤ v4 then
((mm.1 11 0), mm)
else
(let x2 : Int32 := (mm.1 1 ((14 : Int32) + v4).toNatClampNeg);
(if (2000 : Int32) ≤ x2 then
(if x2 = (2004 : Int32) then
(let m7 : zM := zpI mm 11 (v3 - (1 : Int32)).toNatClampNeg (-(mm.1 11 (v3 - (1 : Int32)).toNatClampNeg));
f_X6_given_5 p1 p2 n5 v3 (v4 + (1 : Int32)) m7)
else
(let x5 : Int32 := f_X6_done x2 (mm.1 11 ((v3 + (-1 : Int32)) - (1 : Int32)).toNatClampNeg) (mm.1 11 (v3 + (-1 : Int32)).toNatClampNeg);
(let m6 : zM := zpI mm 11 ((v3 + (-1 : Int32)) - (1 : Int32)).toNatClampNeg x5;
f_X6_given_5 p1 p2 n5 (v3 + (-1 : Int32)) (v4 + (1 : Int32)) m6)))
else
(if (1000 : Int32) ≤ x2 then
(let x9 : Int32 := f_X6_worthOf (x2 - (1000 : Int32)) p1 p2 mm;
(let m10 : zM := zpI mm 11 v3.toNatClampNeg x9;
f_X6_given_5 p1 p2 n5 (v3 + (1 : Int32)) (v4 + (1 : Int32)) m10))
else
(let m11 : zM := zpI mm 11 v3.toNatClampNeg x2;
f_X6_given_5 p1 p2 n5 (v3 + (1 : Int32)) (v4 + (1 : Int32)) m11)))))
def f_X6_given (p1 : Int32) (p2 : Int32) (M : zM) : Int32 × zM :=
f_X6_given_5 p1 p2 (61) (0 : Int32) (0 : Int32) M
def f_X6_holdsOf (p1 : Int32) (p2 : Int32) (M : zM) : Int32 × zM :=
(let x1 : Int32 := f_X6_plainHolds p1 p2 M;
(let x2 : Int32 := f_X6_at p1 (0 : Int32) M;
(if x2 = (1 : Int32) then
((x1 + p2), M)
else
(if x2 = (2 : Int32) then
(let x4 : Int32 := f_X6_at p1 (4 : Int32) M;
(let x5 : Int32 := f_X6_greater (0 : Int32) ((x1 / (2 : Int32)) - x4);
(x5, M)))
else
(if x2 = (3 : Int32) then
(if (0 : Int32) ≤ (M.1 1 5) then
(let x7 : Int32 × zM := f_X6_given p1 p2 M;
(let x8 : Int32 := f_X6_lesser (9999 : Int32) (x7.1);
(let x9 : Int32 := f_X6_greater (0 : Int32) x8;
(x9, (x7.2)))))
else
(let x10 : Int32 := f_X6_at p1 (1 : Int32) M;
(x10, M)))
else
(if x2 = (4 : Int32) then
(if p2 < (40 : Int32) then
(((x1 + p2) * (1 : Int32)), M)
else
(((x1 + p2) * (3 : Int32)), M))
else
(if x2 = (5 : Int32) then
(let x12 : Int32 := f_X6_at p1 (4 : Int32) M;
(let x13 : Int32 := f_X6_greater (0 : Int32) ((x1 / (2 : Int32)) - x12);
(let x14 : Int32 := f_X6_at p1 (4 : Int32) M;
(let x15 : Int32 := f_X6_greater (0 : Int32) (x13 - x14);
(x15, M)))))
else
(x1, M))))))))
def f_X6_rubsOf (p1 : Int32) (p2 : Int32) (M : zM) : Int32 :=
(let x1 : Int32 := f_X6_at p1 (2 : Int32) M;
(let x2 : Int32 := f_X6_at p1 (0 : Int32) M;
(if x2 = (1 : Int32) then
x1
else
(if x2 = (2 : Int32) then
(let x4 : Int32 := f_X6_lesser (999 : Int32) ((x1 / (2 : Int32)) + p2);
x4)
else
(if x2 = (4 : Int32) then
x1
else
(if x2 = (5 : Int32) then
(let x5 : Int32 := f_X6_lesser (999 : Int32) ((x1 / (2 : Int32)) + p2);
x5)
else
(let x6 : Int32 := f_X6_greater (0 : Int32) (x1 - p2);
x6)))))))
def f_X6_placeOf (p1 : Int32) (M : zM) : Int32 :=
(if (0 : Int32) ≤ p1 then
(let x2 : Int32 := f_X6_at p1 (5 : Int32) M;
x2)
else
(M.1 1 1))
def f_X6_isLast (p1 : Int32) (M : zM) : Int32 :=
(if p1 = ((M.1 1 0) - (1 : Int32)) then
(1 : Int32)
else
(0 : Int32))
def f_X6_pull (p1 : Int32) (M : zM) : Int32 :=
(let x1 : Int32 := f_X6_at p1 (3 : Int32) M;
(let x2 : Int32 := f_X6_placeOf (p1 - (1 : Int32)) M;
(let x3 : Int32 := f_X6_placeOf p1 M;
(let x4 : Int32 := (x1 * (x2 - x3));
(let x6 : Int32 := f_X6_isLast p1 M;
(if x6 = (0 : Int32) then
(let x8 : Int32 := f_X6_at (p1 + (1 : Int32)) (3 : Int32) M;
(let x9 : Int32 := f_X6_placeOf p1 M;
(let x10 : Int32 := f_X6_placeOf (p1 + (1 : Int32)) M;
(x4 - (x8 * (x9 - x10))))))
else
x4))))))
def f_X6_springs_27 (p1 : Int32) (M : zM) (s0 : Int32) (s1 : Int32) (s2 : Int32) : Int32 :=
(let x6 : Int32 := f_X6_greater s2 (s1 + s0);
x6)
def f_X6_springs (p1 : Int32) (M : zM) : Int32 :=
(let x1 : Int32 := f_X6_at p1 (3 : Int32) M;
(let x3 : Int32 := f_X6_isLast p1 M;
(if x3 = (0 : Int32) then
(let x5 : Int32 := f_X6_at (p1 + (1 : Int32)) (3 : Int32) M;
f_X6_springs_27 p1 M x5 x1 (1 : Int32))
else
f_X6_springs_27 p1 M (0 : Int32) x1 (1 : Int32))))
def f_X6_block_42 (p1 : Int32) (p2 : Int32) (p3 : Int32) (p4 : Int32) (mm : zM) : Int32 × zM :=
(let x24 : Int32 × zM := f_X6_no (0 : Int32) mm;
((x24.1), (x24.2)))
def f_X6_block (p1 : Int32) (p2 : Int32) (p3 : Int32) (p4 : Int32) (M : zM) : Int32 × zM :=
(let x2 : Int32 := f_X6_in p1 (0 : Int32) (5 : Int32);
(if x2 = (0 : Int32) then
f_X6_block_42 p1 p2 p3 p4 M
else
(let x5 : Int32 := f_X6_in p2 (1 : Int32) (999 : Int32);
(if x5 = (0 : Int32) then
f_X6_block_42 p1 p2 p3 p4 M
else
(let x8 : Int32 := f_X6_in p3 (0 : Int32) (999 : Int32);
(if x8 = (0 : Int32) then
f_X6_block_42 p1 p2 p3 p4 M
else
(let x11 : Int32 := f_X6_in p4 (0 : Int32) (99 : Int32);
(if x11 = (0 : Int32) then
f_X6_block_42 p1 p2 p3 p4 M
else
(let x13 : Int32 := (M.1 1 0);
(if x13 = (10 : Int32) then
(let x23 : Int32 × zM := f_X6_no (1 : Int32) M;
((x23.1), (x23.2)))
else
(let m15 : zM := zpI M 1 0 ((M.1 1 0) + (1 : Int32));
(let x16 : Int32 × zM := f_X6_become x13 (0 : Int32) p1 m15;
(let x17 : Int32 × zM := f_X6_become x13 (1 : Int32) p2 (x16.2);
(let x18 : Int32 × zM := f_X6_become x13 (2 : Int32) p3 (x17.2);
(let x19 : Int32 × zM := f_X6_become x13 (3 : Int32) p4 (x18.2);
(let x20 : Int32 × zM := f_X6_become x13 (4 : Int32) (0 : Int32) (x19.2);
(let x21 : Int32 × zM := f_X6_become x13 (5 : Int32) (0 : Int32) (x20.2);
(let x22 : Int32 × zM := f_X6_become x13 (6 : Int32) (0 : Int32) (x21.2);
(x13, (x22.2))))))))))))))))))))
def f_X6_of_18 (p1 : Int32) (p2 : Int32) (mm : zM) : Int32 × zM :=
(let x13 : Int32 × zM := f_X6_no (0 : Int32) mm;
((x13.1), (x13.2)))
def f_X6_of (p1 : Int32) (p2 : Int32) (M : zM) : Int32 × zM :=
(let x2 : Int32 := f_X6_isBlock p1 M;
(if x2 = (0 : Int32) then
f_X6_of_18 p1 p2 M
else
(let x5 : Int32 := f_X6_in p2 (0 : Int32) (8 : Int32);
(if x5 = (0 : Int32) then
f_X6_of_18 p1 p2 M
else
(if p2 = (7 : Int32) then
(let x12 : Int32 := f_X6_pull p1 M;
(x12, M))
else
(if p2 = (8 : Int32) then
(let x10 : Int32 := f_X6_at p1 (6 : Int32) M;
(let x11 : Int32 × zM := f_X6_holdsOf p1 x10 M;
((x11.1), (x11.2))))
else
(let x9 : Int32 := f_X6_at p1 p2 M;
(x9, M))))))))
def f_X6_set_47 (p1 : Int32) (p2 : Int32) (p3 : Int32) (mm : zM) : Int32 × zM :=
(let x8 : Int32 × zM := f_X6_no (0 : Int32) mm;
((x8.1), (x8.2)))
def f_X6_set_41 (p1 : Int32) (p2 : Int32) (p3 : Int32) (s0 : Int32) (s1 : Int32) (s2 : Int32) (mm : zM) : Int32 × zM :=
(let x11 : Int32 := f_X6_in s2 s1 s0;
(if x11 = (0 : Int32) then
f_X6_set_47 p1 p2 p3 mm
else
(let x13 : Int32 × zM := f_X6_become p1 p2 p3 mm;
((x13.1), (x13.2)))))
def f_X6_set_28 (p1 : Int32) (p2 : Int32) (p3 : Int32) (s0 : Int32) (s1 : Int32) (mm : zM) : Int32 × zM :=
(if (3 : Int32) ≤ p2 then
f_X6_set_41 p1 p2 p3 (99 : Int32) s0 s1 mm
else
f_X6_set_41 p1 p2 p3 (999 : Int32) s0 s1 mm)
def f_X6_set (p1 : Int32) (p2 : Int32) (p3 : Int32) (M : zM) : Int32 × zM :=
(let x2 : Int32 := f_X6_isBlock p1 M;
(if x2 = (0 : Int32) then
f_X6_set_47 p1 p2 p3 M
else
(let x5 : Int32 := f_X6_in p2 (1 : Int32) (4 : Int32);
(if x5 = (0 : Int32) then
f_X6_set_47 p1 p2 p3 M
else
(if p2 = (1 : Int32) then
f_X6_set_28 p1 p2 p3 (1 : Int32) p3 M
else
f_X6_set_28 p1 p2 p3 (0 : Int32) p3 M)))))
def f_X6_isUnder_19 (p0 : Int32) (p1 : Int32) : Int32 :=
(if p1 = (2 : Int32) then
(if p0 = (5 : Int32) then
(1 : Int32)
else
(0 : Int32))
else
(0 : Int32))
def f_X6_isUnder (p0 : Int32) (p1 : Int32) : Int32 :=
(if p1 = (0 : Int32) then
(1 : Int32)
else
(if p0 = p1 then
(1 : Int32)
else
(if p1 = (1 : Int32) then
(if p0 = (4 : Int32) then
(1 : Int32)
else
f_X6_isUnder_19 p0 p1)
else
f_X6_isUnder_19 p0 p1)))
def f_X6_as_17 (p1 : Int32) (p2 : Int32) (mm : zM) : Int32 × zM :=
(let x14 : Int32 × zM := f_X6_no (0 : Int32) mm;
((x14.1), (x14.2)))
def f_X6_as (p1 : Int32) (p2 : Int32) (M : zM) : Int32 × zM :=
(let x2 : Int32 := f_X6_isBlock p1 M;
(if x2 = (0 : Int32) then
f_X6_as_17 p1 p2 M
else
(let x5 : Int32 := f_X6_in p2 (0 : Int32) (5 : Int32);
(if x5 = (0 : Int32) then
f_X6_as_17 p1 p2 M
else
(let x7 : Int32 := f_X6_at p1 (0 : Int32) M;
(let x9 : Int32 := f_X6_isUnder x7 p2;
(if x9 = (0 : Int32) then
(let x11 : Int32 × zM := f_X6_no (2 : Int32) M;
((x11.1), (x11.2)))
else
(let x12 : Int32 := f_X6_at p1 (6 : Int32) M;
(let x13 : Int32 × zM := f_X6_holdsOf p1 x12 M;
((x13.1), (x13.2)))))))))))
def f_X6_holds_28 (p1 : Int32) (p2 : Int32) (mm : zM) : Int32 × zM :=
(let x8 : Int32 × zM := f_X6_no (0 : Int32) mm;
((x8.1), (x8.2)))
def f_X6_holds (p1 : Int32) (p2 : Int32) (M : zM) : Int32 × zM :=
(let x2 : Int32 := f_X6_isBlock p1 M;
(if x2 = (0 : Int32) then
f_X6_holds_28 p1 p2 M
else
(let x5 : Int32 := f_X6_in p2 (0 : Int32) (999 : Int32);
(if x5 = (0 : Int32) then
f_X6_holds_28 p1 p2 M
else
(let x7 : Int32 × zM := f_X6_holdsOf p1 p2 M;
((x7.1), (x7.2)))))))
def f_X6_rubs_28 (p1 : Int32) (p2 : Int32) (mm : zM) : Int32 × zM :=
(let x8 : Int32 × zM := f_X6_no (0 : Int32) mm;
((x8.1), (x8.2)))
def f_X6_rubs (p1 : Int32) (p2 : Int32) (M : zM) : Int32 × zM :=
(let x2 : Int32 := f_X6_isBlock p1 M;
(if x2 = (0 : Int32) then
f_X6_rubs_28 p1 p2 M
else
(let x5 : Int32 := f_X6_in p2 (0 : Int32) (999 : Int32);
(if x5 = (0 : Int32) then
f_X6_rubs_28 p1 p2 M
else
(let x7 : Int32 := f_X6_rubsOf p1 p2 M;
(x7, M))))))
def f_X6_push_21 (p1 : Int32) (p2 : Int32) (mm : zM) : Int32 × zM :=
(let x11 : Int32 × zM := f_X6_no (0 : Int32) mm;
((x11.1), (x11.2)))
def f_X6_push (p1 : Int32) (p2 : Int32) (M : zM) : Int32 × zM :=
(let x2 : Int32 := f_X6_isBlock p1 M;
(if x2 = (0 : Int32) then
f_X6_push_21 p1 p2 M
else
(let x5 : Int32 := f_X6_in p2 (-9999 : Int32) (9999 : Int32);
(if x5 = (0 : Int32) then
f_X6_push_21 p1 p2 M
else
(let x7 : Int32 := f_X6_at p1 (5 : Int32) M;
(let x8 : Int32 × zM := f_X6_become p1 (5 : Int32) (x7 + p2) M;
(let x9 : Int32 × zM := f_X6_become p1 (6 : Int32) (0 : Int32) (x8.2);
(let x10 : Int32 := f_X6_at p1 (5 : Int32) (x9.2);
(x10, (x9.2))))))))))
def f_X6_oil_18 (p1 : Int32) (p2 : Int32) (mm : zM) : Int32 × zM :=
(let x11 : Int32 × zM := f_X6_no (0 : Int32) mm;
((x11.1), (x11.2)))
def f_X6_oil (p1 : Int32) (p2 : Int32) (M : zM) : Int32 × zM :=
(let x2 : Int32 := f_X6_isBlock p1 M;
(if x2 = (0 : Int32) then
f_X6_oil_18 p1 p2 M
else
(let x5 : Int32 := f_X6_in p2 (1 : Int32) (99 : Int32);
(if x5 = (0 : Int32) then
f_X6_oil_18 p1 p2 M
else
(let x7 : Int32 := f_X6_at p1 (4 : Int32) M;
(let x8 : Int32 := f_X6_lesser (99 : Int32) (x7 + p2);
(let x9 : Int32 × zM := f_X6_become p1 (4 : Int32) x8 M;
(let x10 : Int32 := f_X6_at p1 (4 : Int32) (x9.2);
(x10, (x9.2))))))))))
def f_X6_pace (p1 : Int32) (M : zM) : Int32 × zM :=
(let x2 : Int32 := f_X6_in p1 (-99 : Int32) (99 : Int32);
(if x2 = (0 : Int32) then
(let x6 : Int32 × zM := f_X6_no (0 : Int32) M;
((x6.1), (x6.2)))
else
(let x4 : Int32 := (M.1 1 2);
(let m5 : zM := zpI M 1 2 p1;
(x4, m5)))))
def f_X6_stepsOf_123 (p1 : Int32) (v2 : Int32) (s0 : Int32) (mm : zM) : Int32 × zM :=
(if (0 : Int32) ≤ v2 then
(s0, mm)
else
((-s0), mm))
def f_X6_stepsOf_62 (p1 : Int32) (v2 : Int32) (v4 : Int32) (s0 : Int32) (mm : zM) : Int32 × zM :=
(let x8 : Int64 := f_X6_without v2;
(if (0 : Int32) < (lg_cmp x8 (s0.toInt64)) then
(let x10 : Int64 := f_X6_without v2;
(let x11 : Int32 := f_X6_springs p1 mm;
(let x12 : Int64 := ((x10 - (v4.toInt64)) / (x11.toInt64));
(if (0 : Int32) ≤ (lg_cmp x12 (1 : Int64)) then
(if (lg_cmp x12 (999 : Int64)) ≤ (0 : Int32) then
f_X6_stepsOf_123 p1 v2 (x12.toInt32) mm
else
f_X6_stepsOf_123 p1 v2 (999 : Int32) mm)
else
f_X6_stepsOf_123 p1 v2 (1 : Int32) mm))))
else
((0 : Int32), mm)))
def f_X6_stepsOf_23 (p1 : Int32) (v2 : Int32) (s0 : Int32) (mm : zM) : Int32 × zM :=
(let x3 : Int64 := f_X6_without (mm.1 6 p1.toNatClampNeg);
(let x4 : Int32 := f_X6_rubsOf p1 (x3.toInt32) mm;
(if s0 = (0 : Int32) then
(let x6 : Int32 := f_X6_at p1 (6 : Int32) mm;
(let x7 : Int32 × zM := f_X6_holdsOf p1 x6 mm;
f_X6_stepsOf_62 p1 v2 x4 (x7.1) (x7.2)))
else
f_X6_stepsOf_62 p1 v2 x4 x4 mm)))
def f_X6_stepsOf (p1 : Int32) (M : zM) : Int32 × zM :=
(let x1 : Int32 := f_X6_pull p1 M;
(if (((M.1 0 9) >>> (p1 &&& 31)) &&& (1 : Int32)) = (1 : Int32) then
f_X6_stepsOf_23 p1 x1 (1 : Int32) M
else
f_X6_stepsOf_23 p1 x1 (0 : Int32) M))
def f_X6_round_33 : Nat → Int32 → Int32 → zM → (Int32 × zM)
  | 0, v1, v2, mm => (0, mm)
  | n33 + 1, v1, v2, mm => (if (mm.1 1 0) ≤ v2 then
(v1, mm)
else
(let m5 : zM := zpI mm 6 v2.toNatClampNeg (mm.1 7 v2.toNatClampNeg);
(if (m5.1 7 v2.toNatClampNeg) = (0 : Int32) then
f_X6_round_33 n33 v1 (v2 + (1 : Int32)) m5
else
(let x7 : Int32 := f_X6_at v2 (5 : Int32) m5;
(let x8 : Int32 × zM := f_X6_become v2 (5 : Int32) (x7 + (m5.1 7 v2.toNatClampNeg)) m5;
(let m9 : zM := zpI (x8.2) 0 9 (((x8.2).1 0 9) ||| ((1 : Int32) <<< (v2 &&& 31)));
(let m10 : zM := zpI m9 0 10 ((m9.1 0 10) + (1 : Int32));
(let x11 : Int64 := f_X6_without (m10.1 7 v2.toNatClampNeg);
(let m12 : zM := zpI m10 0 11 ((m10.1 0 11) + (x11.toInt32));
f_X6_round_33 n33 (1 : Int32) (v2 + (1 : Int32)) m12)))))))))
def f_X6_round_4 : Nat → Int32 → Int32 → zM → (Int32 × zM)
  | 0, v1, v2, mm => (0, mm)
  | n4 + 1, v1, v2, mm => (if (mm.1 1 0) ≤ v2 then
f_X6_round_33 (11) v1 (0 : Int32) mm
else
(let x2 : Int32 × zM := f_X6_stepsOf v2 mm;
(let m3 : zM := zpI (x2.2) 7 v2.toNatClampNeg (x2.1);
f_X6_round_4 n4 v1 (v2 + (1 : Int32)) m3)))
def f_X6_round (M : zM) : Int32 × zM :=
f_X6_round_4 (11) (0 : Int32) (0 : Int32) M
def f_X6_classOf_4 (p0 : Int32) : Nat → Int32 → Int32 → Int32
  | 0, v1, v2 => 0
  | n4 + 1, v1, v2 => (if v2 ≤ (0 : Int32) then
v1
else
(if (6 : Int32) ≤ v1 then
v1
else
(let x3 : Int32 := (v2 / (2 : Int32));
f_X6_classOf_4 p0 n4 (v1 + (1 : Int32)) x3)))
def f_X6_classOf (p0 : Int32) : Int32 :=
f_X6_classOf_4 p0 (7) (0 : Int32) p0
def f_X6_books_3 : Nat → Int32 → zM → zM
  | 0, v1, mm => mm
  | n3 + 1, v1, mm => (if v1 ≤ (0 : Int32) then
(let m2 : zM := zpI mm 1 148 (mm.1 0 10);
(let m3 : zM := zpI m2 1 248 (m2.1 0 9);
(let m4 : zM := zpI m3 1 348 (m3.1 0 11);
(let x5 : Int32 := f_X6_lesser (100 : Int32) ((m4.1 1 13) + (1 : Int32));
(let m6 : zM := zpI m4 1 13 x5;
m6)))))
else
(let m7 : zM := zpI mm 1 ((148 : Int32) + v1).toNatClampNeg (mm.1 1 (((148 : Int32) + v1) - (1 : Int32)).toNatClampNeg);
(let m8 : zM := zpI m7 1 ((248 : Int32) + v1).toNatClampNeg (m7.1 1 (((248 : Int32) + v1) - (1 : Int32)).toNatClampNeg);
(let m9 : zM := zpI m8 1 ((348 : Int32) + v1).toNatClampNeg (m8.1 1 (((348 : Int32) + v1) - (1 : Int32)).toNatClampNeg);
f_X6_books_3 n3 (v1 + (-1 : Int32)) m9))))
def f_X6_books (M : zM) : zM :=
f_X6_books_3 (101) (99 : Int32) M
def f_X6_tick_190 (k100 : Int32 → zM → zM) (v3 : Int32) (s0 : Int32) (s1 : Int32) (s2 : Int32) (mm : zM) : zM :=
(let x28 : Int32 × zM := f_X6_become s2 s1 s0 mm;
k100 (v3 + (1 : Int32)) (x28.2))
def f_X6_tick_157 (k100 : Int32 → zM → zM) (v3 : Int32) (v4 : Int32) (s0 : Int32) (s1 : Int32) (s2 : Int32) (mm : zM) : zM :=
(let x23 : Int32 × zM := f_X6_become s2 s1 s0 mm;
(if v4 = (0 : Int32) then
(let x25 : Int32 := f_X6_at v3 (4 : Int32) (x23.2);
f_X6_tick_190 k100 v3 x25 (4 : Int32) v3 (x23.2))
else
(let x26 : Int32 := f_X6_at v3 (4 : Int32) (x23.2);
(let x27 : Int32 := f_X6_greater (0 : Int32) (x26 - (1 : Int32));
f_X6_tick_190 k100 v3 x27 (4 : Int32) v3 (x23.2)))))
def f_X6_tick_127 (k100 : Int32 → zM → zM) (v3 : Int32) (s0 : Int32) (mm : zM) : zM :=
(if s0 = (0 : Int32) then
(let x21 : Int32 := f_X6_at v3 (6 : Int32) mm;
(let x22 : Int32 := f_X6_lesser (999 : Int32) (x21 + (1 : Int32));
f_X6_tick_157 k100 v3 s0 x22 (6 : Int32) v3 mm))
else
f_X6_tick_157 k100 v3 s0 (0 : Int32) (6 : Int32) v3 mm)
def f_X6_tick_100 : Nat → Int32 → zM → zM
  | 0, v3, mm => mm
  | n100 + 1, v3, mm => (if (mm.1 1 0) ≤ v3 then
(let m15 : zM := zpI mm 1 3 ((mm.1 1 3) + (1 : Int32));
(let x16 : Int32 := f_X6_classOf (m15.1 0 10);
(let m17 : zM := zpI m15 1 ((6 : Int32) + x16).toNatClampNeg ((m15.1 1 ((6 : Int32) + x16).toNatClampNeg) + (1 : Int32));
(let m18 : zM := f_X6_books m17;
m18))))
else
(if (((mm.1 0 9) >>> (v3 &&& 31)) &&& (1 : Int32)) = (1 : Int32) then
f_X6_tick_127 (fun wv3 wmm => f_X6_tick_100 n100 wv3 wmm) v3 (1 : Int32) mm
else
f_X6_tick_127 (fun wv3 wmm => f_X6_tick_100 n100 wv3 wmm) v3 (0 : Int32) mm))
def f_X6_tick_96 (s0 : Int32) (s1 : Int32) (s2 : Int32) (mm : zM) : zM :=
(let m13 : zM := zpI mm 1 s2.toNatClampNeg (s1 + s0);
f_X6_tick_100 (11) (0 : Int32) m13)
def f_X6_tick_80 (v2 : Int32) (mm : zM) : zM :=
(if v2 = (0 : Int32) then
f_X6_tick_96 (0 : Int32) (mm.1 1 4) (4 : Int32) mm
else
f_X6_tick_96 (1 : Int32) (mm.1 1 4) (4 : Int32) mm)
def f_X6_tick_59 : Nat → Int32 → Int32 → zM → zM
  | 0, v1, v2, mm => mm
  | n59 + 1, v1, v2, mm => (if v2 = (0 : Int32) then
f_X6_tick_80 v2 mm
else
(if (40 : Int32) ≤ v1 then
f_X6_tick_80 v2 mm
else
(let x10 : Int32 × zM := f_X6_round mm;
(let x11 : Int32 := (x10.1);
f_X6_tick_59 n59 (v1 + (1 : Int32)) x11 (x10.2)))))
def f_X6_tick_32 : Nat → Int32 → zM → zM
  | 0, v1, mm => mm
  | n32 + 1, v1, mm => (if (mm.1 1 0) ≤ v1 then
f_X6_tick_59 (41) (0 : Int32) (1 : Int32) mm
else
(let m6 : zM := zpI mm 6 v1.toNatClampNeg (0 : Int32);
f_X6_tick_32 n32 (v1 + (1 : Int32)) m6))
def f_X6_tick (M : zM) : zM :=
(let m1 : zM := zpI M 1 1 ((M.1 1 1) + (M.1 1 2));
(let m2 : zM := zpI m1 0 9 (0 : Int32);
(let m3 : zM := zpI m2 0 10 (0 : Int32);
(let m4 : zM := zpI m3 0 11 (0 : Int32);
f_X6_tick_32 (11) (0 : Int32) m4))))
def f_X6_ticks_18 (p1 : Int32) : Nat → Int32 → zM → (Int32 × zM)
  | 0, v2, mm => (0, mm)
  | n18 + 1, v2, mm => (if p1 ≤ v2 then
((mm.1 0 10), mm)
else
(let m6 : zM := f_X6_tick mm;
f_X6_ticks_18 p1 n18 (v2 + (1 : Int32)) m6))
def f_X6_ticks (p1 : Int32) (M : zM) : Int32 × zM :=
(let x2 : Int32 := f_X6_in p1 (1 : Int32) (100 : Int32);
(if x2 = (0 : Int32) then
(let x4 : Int32 × zM := f_X6_no (0 : Int32) M;
((x4.1), (x4.2)))
else
f_X6_ticks_18 p1 (101) (0 : Int32) M))
def f_X6_until_21 (p1 : Int32) (p2 : Int32) (mm : zM) : Int32 × zM :=
(let x7 : Int32 × zM := f_X6_no (0 : Int32) mm;
((x7.1), (x7.2)))
def f_X6_until_32 (p1 : Int32) (p2 : Int32) : Nat → Int32 → Int32 → zM → (Int32 × zM)
  | 0, v3, v4, mm => (0, mm)
  | n32 + 1, v3, v4, mm => (if v4 = (0 : Int32) then
(v3, mm)
else
(if p2 ≤ v3 then
(v3, mm)
else
(let m10 : zM := f_X6_tick mm;
(if p1 ≤ (m10.1 0 10) then
f_X6_until_32 p1 p2 n32 (v3 + (1 : Int32)) (0 : Int32) m10
else
f_X6_until_32 p1 p2 n32 (v3 + (1 : Int32)) (1 : Int32) m10))))
def f_X6_until (p1 : Int32) (p2 : Int32) (M : zM) : Int32 × zM :=
(let x2 : Int32 := f_X6_in p1 (1 : Int32) (400 : Int32);
(if x2 = (0 : Int32) then
f_X6_until_21 p1 p2 M
else
(let x5 : Int32 := f_X6_in p2 (1 : Int32) (100 : Int32);
(if x5 = (0 : Int32) then
f_X6_until_21 p1 p2 M
else
f_X6_until_32 p1 p2 (101) (0 : Int32) (1 : Int32) M))))
def f_X6_book_26 (p1 : Int32) (p2 : Int32) (mm : zM) : Int32 × zM :=
(let x7 : Int32 × zM := f_X6_no (0 : Int32) mm;
((x7.1), (x7.2)))
def f_X6_book (p1 : Int32) (p2 : Int32) (M : zM) : Int32 × zM :=
(let x2 : Int32 := f_X6_in p1 (0 : Int32) ((M.1 1 13) - (1 : Int32));
(if x2 = (0 : Int32) then
f_X6_book_26 p1 p2 M
else
(let x5 : Int32 := f_X6_in p2 (0 : Int32) (2 : Int32);
(if x5 = (0 : Int32) then
f_X6_book_26 p1 p2 M
else
((M.1 1 (((148 : Int32) + ((100 : Int32) * p2)) + p1).toNatClampNeg), M)))))
def f_X6_counts (p1 : Int32) (M : zM) : Int32 × zM :=
(let x2 : Int32 := f_X6_in p1 (0 : Int32) (6 : Int32);
(if x2 = (0 : Int32) then
(let x4 : Int32 × zM := f_X6_no (0 : Int32) M;
((x4.1), (x4.2)))
else
((M.1 1 ((6 : Int32) + p1).toNatClampNeg), M)))
def f_X6_power_4 (M : zM) : Nat → Int32 → Int32 → Int32
  | 0, v1, v2 => 0
  | n4 + 1, v1, v2 => (if (6 : Int32) < v2 then
(if v1 = (0 : Int32) then
(0 : Int32)
else
(1 : Int32))
else
(if v1 = (0 : Int32) then
f_X6_power_4 M n4 (0 : Int32) (v2 + (1 : Int32))
else
(if (M.1 1 (((6 : Int32) + v2) - (1 : Int32)).toNatClampNeg) < (M.1 1 ((6 : Int32) + v2).toNatClampNeg) then
f_X6_power_4 M n4 (0 : Int32) (v2 + (1 : Int32))
else
f_X6_power_4 M n4 (1 : Int32) (v2 + (1 : Int32)))))
def f_X6_power (M : zM) : Int32 :=
f_X6_power_4 M (8) (1 : Int32) (2 : Int32)
def f_X6_tone_4 : Nat → Int32 → Int32 → zM → (Int32 × zM)
  | 0, v1, v2, mm => (0, mm)
  | n4 + 1, v1, v2, mm => (if (mm.1 1 13) ≤ v2 then
(let x2 : Int32 × zM := f_X6_no (3 : Int32) mm;
((x2.1), (x2.2)))
else
(if (mm.1 1 ((148 : Int32) + v2).toNatClampNeg) ≤ (0 : Int32) then
f_X6_tone_4 n4 v1 (v2 + (1 : Int32)) mm
else
(if v1 < (0 : Int32) then
f_X6_tone_4 n4 v2 (v2 + (1 : Int32)) mm
else
((v2 - v1), mm))))
def f_X6_tone (M : zM) : Int32 × zM :=
f_X6_tone_4 (101) (-1 : Int32) (0 : Int32) M
def f_X6_great_20 (p1 : Int32) (p2 : Int32) (mm : zM) : Int32 × zM :=
(let x7 : Int32 × zM := f_X6_no (0 : Int32) mm;
((x7.1), (x7.2)))
def f_X6_great_100 (p1 : Int32) (p2 : Int32) (k31 : Int32 → Int32 → zM → (Int32 × zM)) (v3 : Int32) (v4 : Int32) (v5 : Int32) (s0 : Int32) (mm : zM) : Int32 × zM :=
(if v5 = (0 : Int32) then
(let x13 : Int32 := (v3 + (0 : Int32));
k31 x13 (v4 + (1 : Int32)) mm)
else
(if p2 = (0 : Int32) then
(let x15 : Int32 := (v3 + (1 : Int32));
k31 x15 (v4 + (1 : Int32)) mm)
else
(if s0 = (0 : Int32) then
(let x17 : Int32 := (v3 + (0 : Int32));
k31 x17 (v4 + (1 : Int32)) mm)
else
(let x18 : Int32 := (v3 + (1 : Int32));
k31 x18 (v4 + (1 : Int32)) mm))))
def f_X6_great_99 (p1 : Int32) (p2 : Int32) (k31 : Int32 → Int32 → zM → (Int32 × zM)) (v3 : Int32) (v4 : Int32) (v5 : Int32) (mm : zM) : Int32 × zM :=
f_X6_great_100 p1 p2 k31 v3 v4 v5 (0 : Int32) mm
def f_X6_great_63 (p1 : Int32) (p2 : Int32) (k31 : Int32 → Int32 → zM → (Int32 × zM)) (v3 : Int32) (v4 : Int32) (s0 : Int32) (mm : zM) : Int32 × zM :=
(if (mm.1 1 13) ≤ (v4 + (1 : Int32)) then
f_X6_great_99 p1 p2 k31 v3 v4 s0 mm
else
(if (mm.1 1 (((148 : Int32) + v4) + (1 : Int32)).toNatClampNeg) ≤ (0 : Int32) then
f_X6_great_99 p1 p2 k31 v3 v4 s0 mm
else
f_X6_great_100 p1 p2 k31 v3 v4 s0 (1 : Int32) mm))
def f_X6_great_31 (p1 : Int32) (p2 : Int32) : Nat → Int32 → Int32 → zM → (Int32 × zM)
  | 0, v3, v4, mm => (0, mm)
  | n31 + 1, v3, v4, mm => (if (mm.1 1 13) ≤ v4 then
(v3, mm)
else
(if (mm.1 1 ((148 : Int32) + v4).toNatClampNeg) < p1 then
f_X6_great_63 p1 p2 (fun wv3 wv4 wmm => f_X6_great_31 p1 p2 n31 wv3 wv4 wmm) v3 v4 (0 : Int32) mm
else
f_X6_great_63 p1 p2 (fun wv3 wv4 wmm => f_X6_great_31 p1 p2 n31 wv3 wv4 wmm) v3 v4 (1 : Int32) mm))
def f_X6_great (p1 : Int32) (p2 : Int32) (M : zM) : Int32 × zM :=
(let x2 : Int32 := f_X6_in p1 (1 : Int32) (400 : Int32);
(if x2 = (0 : Int32) then
f_X6_great_20 p1 p2 M
else
(let x5 : Int32 := f_X6_in p2 (0 : Int32) (1 : Int32);
(if x5 = (0 : Int32) then
f_X6_great_20 p1 p2 M
else
f_X6_great_31 p1 p2 (101) (0 : Int32) (0 : Int32) M))))
def f_X6_noise_20 (p1 : Int32) : Nat → Int64 → Int32 → zM → (Int64 × zM)
  | 0, v2, v4, mm => (0, mm)
  | n20 + 1, v2, v4, mm => (if (mm.1 1 13) ≤ v4 then
(v2, mm)
else
(if (((mm.1 1 ((248 : Int32) + v4).toNatClampNeg) >>> (p1 &&& 31)) &&& (1 : Int32)) = (1 : Int32) then
(let x8 : Int64 := (v2 + ((mm.1 1 ((348 : Int32) + v4).toNatClampNeg).toInt64));
f_X6_noise_20 p1 n20 x8 (v4 + (1 : Int32)) mm)
else
(let x7 : Int64 := (v2 + (0 : Int64));
f_X6_noise_20 p1 n20 x7 (v4 + (1 : Int32)) mm)))
def f_X6_noise (p1 : Int32) (M : zM) : Int64 × zM :=
(let x2 : Int32 := f_X6_isBlock p1 M;
(if x2 = (0 : Int32) then
(let x4 : Int32 × zM := f_X6_no (0 : Int32) M;
(((x4.1).toInt64), (x4.2)))
else
f_X6_noise_20 p1 (101) (0 : Int64) (0 : Int32) M))
def f_X6_lay_2 (a0 : Nat) (a1 : Nat) : Nat → Int32 → zM → zM
  | 0, v2, mm => mm
  | n2 + 1, v2, mm => (if (448 : Int32) ≤ v2 then
mm
else
(let m2 : zM := zpI mm a1 v2.toNatClampNeg (mm.1 a0 v2.toNatClampNeg);
f_X6_lay_2 a0 a1 n2 (v2 + (1 : Int32)) m2))
def f_X6_lay (a0 : Nat) (a1 : Nat) (M : zM) : zM :=
f_X6_lay_2 a0 a1 (449) (0 : Int32) M
def f_X6_goes_7 (p1 : Int32) : Nat → Int32 → zM → zM
  | 0, v2, mm => mm
  | n7 + 1, v2, mm => (if p1 ≤ v2 then
mm
else
(let m3 : zM := f_X6_tick mm;
(let m4 : zM := zpI m3 8 v2.toNatClampNeg (m3.1 0 10);
(let m5 : zM := zpI m4 9 v2.toNatClampNeg (m4.1 0 9);
(let m6 : zM := zpI m5 0 14 ((m5.1 0 14) + (m5.1 0 11));
f_X6_goes_7 p1 n7 (v2 + (1 : Int32)) m6)))))
def f_X6_goes (p1 : Int32) (M : zM) : zM :=
(let m1 : zM := zpI M 0 14 (0 : Int32);
f_X6_goes_7 p1 (61) (0 : Int32) m1)
def f_X6_isAhead (p0 : Int32) : Int32 :=
(let x2 : Int32 := f_X6_in p0 (1 : Int32) (60 : Int32);
x2)
def f_X6_jumps_4 (p1 : Int32) (M : zM) : Nat → Int32 → Int32 → Int32
  | 0, v2, v3 => 0
  | n4 + 1, v2, v3 => (if p1 ≤ v3 then
v2
else
(if (M.1 8 v3.toNatClampNeg) ≤ (0 : Int32) then
(let x3 : Int32 := (v2 + (0 : Int32));
f_X6_jumps_4 p1 M n4 x3 (v3 + (1 : Int32)))
else
(let x4 : Int32 := (v2 + (1 : Int32));
f_X6_jumps_4 p1 M n4 x4 (v3 + (1 : Int32)))))
def f_X6_jumps (p1 : Int32) (M : zM) : Int32 :=
f_X6_jumps_4 p1 M (61) (0 : Int32) (0 : Int32)
def f_X6_greatest_4 (p1 : Int32) (M : zM) : Nat → Int32 → Int32 → Int32
  | 0, v2, v3 => 0
  | n4 + 1, v2, v3 => (if p1 ≤ v3 then
v2
else
(let x2 : Int32 := f_X6_greater v2 (M.1 8 v3.toNatClampNeg);
f_X6_greatest_4 p1 M n4 x2 (v3 + (1 : Int32))))
def f_X6_greatest (p1 : Int32) (M : zM) : Int32 :=
f_X6_greatest_4 p1 M (61) (0 : Int32) (0 : Int32)
def f_X6_ahead_23 (p1 : Int32) (p2 : Int32) (mm : zM) : Int32 × zM :=
(let x11 : Int32 × zM := f_X6_no (0 : Int32) mm;
((x11.1), (x11.2)))
def f_X6_ahead_62 (p1 : Int32) (p2 : Int32) (s0 : Int32) (mm : zM) : Int32 × zM :=
(let m12 : zM := f_X6_lay 3 1 mm;
(if p2 = (0 : Int32) then
(let x14 : Int32 := f_X6_jumps p1 m12;
(x14, m12))
else
(if p2 = (1 : Int32) then
(let x15 : Int32 := f_X6_jumps p1 m12;
(if x15 = p1 then
((1 : Int32), m12)
else
((0 : Int32), m12)))
else
(if p2 = (2 : Int32) then
(let x17 : Int32 := f_X6_greatest p1 m12;
(x17, m12))
else
(if p2 = (3 : Int32) then
((m12.1 0 14), m12)
else
(s0, m12))))))
def f_X6_ahead (p1 : Int32) (p2 : Int32) (M : zM) : Int32 × zM :=
(let x2 : Int32 := f_X6_isAhead p1;
(if x2 = (0 : Int32) then
f_X6_ahead_23 p1 p2 M
else
(let x5 : Int32 := f_X6_in p2 (0 : Int32) ((3 : Int32) + (M.1 1 0));
(if x5 = (0 : Int32) then
f_X6_ahead_23 p1 p2 M
else
(let m7 : zM := f_X6_lay 1 3 M;
(let m8 : zM := f_X6_goes p1 m7;
(if p2 ≤ (3 : Int32) then
f_X6_ahead_62 p1 p2 (0 : Int32) m8
else
(let x10 : Int32 := f_X6_at (p2 - (4 : Int32)) (5 : Int32) m8;
f_X6_ahead_62 p1 p2 x10 m8))))))))
def f_X6_isSo (p1 : Int32) (p2 : Int32) (p3 : Int32) (p4 : Int32) (p5 : Int32) (M : zM) : Int32 × zM :=
(let m1 : zM := f_X6_lay 1 3 M;
(let m2 : zM := zpI m1 1 p2.toNatClampNeg p3;
(let m3 : zM := f_X6_goes p1 m2;
(let m4 : zM := f_X6_lay 3 1 m3;
(if p4 = (0 : Int32) then
(let x8 : Int32 := f_X6_jumps p1 m4;
(if x8 = p1 then
((1 : Int32), m4)
else
((0 : Int32), m4)))
else
(let x6 : Int32 := f_X6_greatest p1 m4;
(if p5 < x6 then
((0 : Int32), m4)
else
((1 : Int32), m4))))))))
def f_X6_leastSo_30 (p1 : Int32) (p2 : Int32) (p3 : Int32) (p4 : Int32) (v5 : Int32) (mm : zM) : Int32 × zM :=
(if (99 : Int32) < v5 then
(let x6 : Int32 × zM := f_X6_no (3 : Int32) mm;
((x6.1), (x6.2)))
else
(v5, mm))
def f_X6_leastSo_3 (p1 : Int32) (p2 : Int32) (p3 : Int32) (p4 : Int32) : Nat → Int32 → zM → (Int32 × zM)
  | 0, v5, mm => (0, mm)
  | n3 + 1, v5, mm => (if (99 : Int32) < v5 then
f_X6_leastSo_30 p1 p2 p3 p4 v5 mm
else
(let x3 : Int32 × zM := f_X6_isSo p1 p2 v5 p3 p4 mm;
(if (x3.1) = (0 : Int32) then
f_X6_leastSo_3 p1 p2 p3 p4 n3 (v5 + (1 : Int32)) (x3.2)
else
f_X6_leastSo_30 p1 p2 p3 p4 v5 (x3.2))))
def f_X6_leastSo (p1 : Int32) (p2 : Int32) (p3 : Int32) (p4 : Int32) (M : zM) : Int32 × zM :=
f_X6_leastSo_3 p1 p2 p3 p4 (101) (0 : Int32) M
def f_X6_from (p1 : Int32) (M : zM) : Int32 × zM :=
(let x2 : Int32 := f_X6_isAhead p1;
(if x2 = (0 : Int32) then
(let x4 : Int32 × zM := f_X6_no (0 : Int32) M;
((x4.1), (x4.2)))
else
(let x5 : Int32 × zM := f_X6_leastSo p1 (2 : Int32) (0 : Int32) (0 : Int32) M;
((x5.1), (x5.2)))))
def f_X6_still_26 (p1 : Int32) (p2 : Int32) (p3 : Int32) (mm : zM) : Int32 × zM :=
(let x11 : Int32 × zM := f_X6_no (0 : Int32) mm;
((x11.1), (x11.2)))
def f_X6_still (p1 : Int32) (p2 : Int32) (p3 : Int32) (M : zM) : Int32 × zM :=
(let x2 : Int32 := f_X6_isBlock p1 M;
(if x2 = (0 : Int32) then
f_X6_still_26 p1 p2 p3 M
else
(let x5 : Int32 := f_X6_isAhead p2;
(if x5 = (0 : Int32) then
f_X6_still_26 p1 p2 p3 M
else
(let x8 : Int32 := f_X6_in p3 (0 : Int32) (400 : Int32);
(if x8 = (0 : Int32) then
f_X6_still_26 p1 p2 p3 M
else
(let x10 : Int32 × zM := f_X6_leastSo p2 (((78 : Int32) + ((7 : Int32) * p1)) + (4 : Int32)) (1 : Int32) p3 M;
((x10.1), (x10.2)))))))))
def f_X6_longOf (p1 : Int32) (M : zM) : Int32 :=
(M.1 13 p1.toNatClampNeg)
def f_X6_gives_82 (p1 : Int32) (p2 : Int32) (p3 : Int32) (v5 : Int32) (mm : zM) : Int32 × zM :=
(let m8 : zM := f_X6_lay 3 1 mm;
(v5, m8))
def f_X6_gives_32 (p1 : Int32) (p2 : Int32) (p3 : Int32) : Nat → Int32 → Int32 → Int32 → zM → (Int32 × zM)
  | 0, v4, v5, v6, mm => (0, mm)
  | n32 + 1, v4, v5, v6, mm => (if v4 ≤ v6 then
f_X6_gives_82 p1 p2 p3 v5 mm
else
(if v5 = (0 : Int32) then
f_X6_gives_82 p1 p2 p3 v5 mm
else
(let m6 : zM := f_X6_tick mm;
(if (lg_cmp (m6.2 14 (((40 : Int32) * p3) + v6).toNatClampNeg) ((m6.1 0 10).toInt64)) = (0 : Int32) then
f_X6_gives_32 p1 p2 p3 n32 v4 (1 : Int32) (v6 + (1 : Int32)) m6
else
f_X6_gives_32 p1 p2 p3 n32 v4 (0 : Int32) (v6 + (1 : Int32)) m6))))
def f_X6_gives (p1 : Int32) (p2 : Int32) (p3 : Int32) (M : zM) : Int32 × zM :=
(let x1 : Int32 := f_X6_longOf p3 M;
(let m2 : zM := f_X6_lay 1 3 M;
(let x3 : Int32 × zM := f_X6_become p1 (0 : Int32) p2 m2;
f_X6_gives_32 p1 p2 p3 (41) x1 (1 : Int32) (0 : Int32) (x3.2))))
def f_X6_isSheet (p0 : Int32) : Int32 :=
(let x2 : Int32 := f_X6_in p0 (0 : Int32) (3 : Int32);
x2)
def f_X6_which_15 (p1 : Int32) (p2 : Int32) (mm : zM) : Int32 × zM :=
(let x12 : Int32 × zM := f_X6_no (0 : Int32) mm;
((x12.1), (x12.2)))
def f_X6_which_56 (p1 : Int32) (p2 : Int32) : Nat → Int32 → Int32 → zM → (Int32 × zM)
  | 0, v3, v4, mm => (0, mm)
  | n56 + 1, v3, v4, mm => (if (5 : Int32) < v4 then
(v3, mm)
else
(let x15 : Int32 × zM := f_X6_gives p1 v4 p2 mm;
(if (x15.1) = (0 : Int32) then
(let x17 : Int32 := (v3 ||| (0 : Int32));
f_X6_which_56 p1 p2 n56 x17 (v4 + (1 : Int32)) (x15.2))
else
(let x18 : Int32 := (v3 ||| ((1 : Int32) <<< (v4 &&& 31)));
f_X6_which_56 p1 p2 n56 x18 (v4 + (1 : Int32)) (x15.2)))))
def f_X6_which (p1 : Int32) (p2 : Int32) (M : zM) : Int32 × zM :=
(let x2 : Int32 := f_X6_isBlock p1 M;
(if x2 = (0 : Int32) then
f_X6_which_15 p1 p2 M
else
(let x5 : Int32 := f_X6_isSheet p2;
(if x5 = (0 : Int32) then
f_X6_which_15 p1 p2 M
else
(if (M.1 12 p2.toNatClampNeg) = (0 : Int32) then
(let x11 : Int32 × zM := f_X6_no (5 : Int32) M;
((x11.1), (x11.2)))
else
(let x8 : Int32 := f_X6_longOf p2 M;
(if x8 = (0 : Int32) then
(let x10 : Int32 × zM := f_X6_no (6 : Int32) M;
((x10.1), (x10.2)))
else
f_X6_which_56 p1 p2 (7) (0 : Int32) (0 : Int32) M)))))))
def f_X6_together_28 (p1 : Int32) (p2 : Int32) (p3 : Int32) (mm : zM) : Int32 × zM :=
(let x14 : Int32 × zM := f_X6_no (0 : Int32) mm;
((x14.1), (x14.2)))
def f_X6_together_67 (p1 : Int32) (p2 : Int32) (p3 : Int32) : Nat → Int32 → Int32 → zM → (Int32 × zM)
  | 0, v4, v5, mm => (0, mm)
  | n67 + 1, v4, v5, mm => (if p3 ≤ v5 then
(v4, mm)
else
(let x16 : Int32 := (v4 + ((((mm.1 9 v5.toNatClampNeg) >>> (p1 &&& 31)) &&& ((mm.1 9 v5.toNatClampNeg) >>> (p2 &&& 31))) &&& (1 : Int32)));
f_X6_together_67 p1 p2 p3 n67 x16 (v5 + (1 : Int32)) mm))
def f_X6_together (p1 : Int32) (p2 : Int32) (p3 : Int32) (M : zM) : Int32 × zM :=
(let x2 : Int32 := f_X6_isBlock p1 M;
(if x2 = (0 : Int32) then
f_X6_together_28 p1 p2 p3 M
else
(let x5 : Int32 := f_X6_isBlock p2 M;
(if x5 = (0 : Int32) then
f_X6_together_28 p1 p2 p3 M
else
(if p1 = p2 then
f_X6_together_28 p1 p2 p3 M
else
(let x9 : Int32 := f_X6_isAhead p3;
(if x9 = (0 : Int32) then
f_X6_together_28 p1 p2 p3 M
else
(let m11 : zM := f_X6_lay 1 3 M;
(let m12 : zM := f_X6_goes p3 m11;
(let m13 : zM := f_X6_lay 3 1 m12;
f_X6_together_67 p1 p2 p3 (61) (0 : Int32) (0 : Int32) m13))))))))))
def f_X6_byteAt (M : zM) : Int32 :=
(if (M.1 0 5) ≤ (M.1 0 17) then
(-1 : Int32)
else
(M.1 4 (M.1 0 17).toNatClampNeg))
def f_X6_fails (M : zM) : zM :=
(if (0 : Int32) ≤ (M.1 0 18) then
M
else
(let m2 : zM := zpI M 0 18 (M.1 0 17);
m2))
def f_X6_may_20 (p1 : Int32) (s0 : Int32) (mm : zM) : Int32 × zM :=
(if s0 = (0 : Int32) then
(let m5 : zM := zpI mm 0 17 ((mm.1 0 17) + (0 : Int32));
(s0, m5))
else
(let m6 : zM := zpI mm 0 17 ((mm.1 0 17) + (1 : Int32));
(s0, m6)))
def f_X6_may_19 (p1 : Int32) (mm : zM) : Int32 × zM :=
f_X6_may_20 p1 (0 : Int32) mm
def f_X6_may (p1 : Int32) (M : zM) : Int32 × zM :=
(if (0 : Int32) ≤ (M.1 0 18) then
f_X6_may_19 p1 M
else
(let x2 : Int32 := f_X6_byteAt M;
(if x2 = p1 then
f_X6_may_20 p1 (1 : Int32) M
else
f_X6_may_19 p1 M)))
def f_X6_must (p1 : Int32) (M : zM) : zM :=
(let x2 : Int32 × zM := f_X6_may p1 M;
(if (x2.1) = (0 : Int32) then
(let m4 : zM := f_X6_fails (x2.2);
m4)
else
(x2.2)))
def f_X6_emit (p1 : Int32) (M : zM) : zM :=
(if (0 : Int32) ≤ (M.1 0 18) then
M
else
(let m2 : zM := zpI M 10 (M.1 0 16).toNatClampNeg p1;
(let m3 : zM := zpI m2 0 16 ((m2.1 0 16) + (1 : Int32));
m3)))
def f_X6_isDigit (p0 : Int32) : Int32 :=
(let x2 : Int32 := f_X6_in p0 (48 : Int32) (57 : Int32);
x2)
def f_X6_nameOf (p0 : Int32) : Int32 :=
(if p0 = (98 : Int32) then
(1 : Int32)
else
(if p0 = (100 : Int32) then
(4 : Int32)
else
(if p0 = (103 : Int32) then
(2 : Int32)
else
(if p0 = (107 : Int32) then
(3 : Int32)
else
(if p0 = (112 : Int32) then
(5 : Int32)
else
(if p0 = (115 : Int32) then
(0 : Int32)
else
(-1 : Int32)))))))
def f_X6_number_48 (v1 : Int32) (mm : zM) : zM :=
(let m9 : zM := f_X6_emit v1 mm;
m9)
def f_X6_number_4 : Nat → Int32 → Int32 → zM → zM
  | 0, v1, v2, mm => mm
  | n4 + 1, v1, v2, mm => (if (3 : Int32) ≤ v2 then
f_X6_number_48 v1 mm
else
(let x2 : Int32 := f_X6_byteAt mm;
(let x4 : Int32 := f_X6_isDigit x2;
(if x4 = (0 : Int32) then
f_X6_number_48 v1 mm
else
(let x6 : Int32 := f_X6_byteAt mm;
(let x7 : Int32 := ((((10 : Int32) * v1) + x6) - (48 : Int32));
(let m8 : zM := zpI mm 0 17 ((mm.1 0 17) + (1 : Int32));
f_X6_number_4 n4 x7 (v2 + (1 : Int32)) m8)))))))
def f_X6_number (M : zM) : zM :=
f_X6_number_4 (4) (0 : Int32) (0 : Int32) M
def f_X6_opens (p1 : Int32) (M : zM) : Int32 × zM :=
(if (0 : Int32) ≤ (M.1 0 18) then
((0 : Int32), M)
else
(let x2 : Int32 := f_X6_byteAt M;
(if x2 = p1 then
(if (M.1 0 19) = (5 : Int32) then
(let m7 : zM := f_X6_fails M;
((0 : Int32), m7))
else
(let m5 : zM := zpI M 0 19 ((M.1 0 19) + (1 : Int32));
(let m6 : zM := zpI m5 0 17 ((m5.1 0 17) + (1 : Int32));
((1 : Int32), m6))))
else
((0 : Int32), M))))
def f_X6_feed_36 (p1 : Int32) (p2 : Int32) : Nat → Int32 → zM → (Int32 × zM)
  | 0, v3, mm => (0, mm)
  | n36 + 1, v3, mm => (if v3 < (0 : Int32) then
((mm.1 0 5), mm)
else
(let m9 : zM := zpI mm 4 (mm.1 0 5).toNatClampNeg ((p1 >>> (((8 : Int32) * v3) &&& 31)) &&& (255 : Int32));
(let m10 : zM := zpI m9 0 5 ((m9.1 0 5) + (1 : Int32));
f_X6_feed_36 p1 p2 n36 (v3 + (-1 : Int32)) m10)))
def f_X6_feed (p1 : Int32) (p2 : Int32) (M : zM) : Int32 × zM :=
(let x2 : Int32 := f_X6_in p2 (1 : Int32) (4 : Int32);
(if x2 = (0 : Int32) then
(let x7 : Int32 × zM := f_X6_no (0 : Int32) M;
((x7.1), (x7.2)))
else
(if ((M.1 0 5) + p2) ≤ (60 : Int32) then
(let x5 : Int32 := (p2 - (1 : Int32));
f_X6_feed_36 p1 p2 (5) x5 M)
else
(let x6 : Int32 × zM := f_X6_no (1 : Int32) M;
((x6.1), (x6.2))))))
def f_X6_wipe (M : zM) : Int32 × zM :=
(let x1 : Int32 := (M.1 0 5);
(let m2 : zM := zpI M 0 5 (0 : Int32);
(x1, m2)))
def f_X6_factor (Fsum Ffac : zM → zM) (M : zM) : zM :=
(if (M.1 0 18) < (0 : Int32) then
(let x2 : Int32 := f_X6_byteAt M;
(let x4 : Int32 := f_X6_isDigit x2;
(if x4 = (0 : Int32) then
(let x6 : Int32 := f_X6_byteAt M;
(let x7 : Int32 := f_X6_nameOf x6;
(if x7 < (0 : Int32) then
(let x10 : Int32 × zM := f_X6_opens (45 : Int32) M;
(if (x10.1) = (0 : Int32) then
(let x13 : Int32 × zM := f_X6_opens (40 : Int32) (x10.2);
(if (x13.1) = (0 : Int32) then
(let x16 : Int32 × zM := f_X6_opens (91 : Int32) (x13.2);
(if (x16.1) = (0 : Int32) then
(let m18 : zM := f_X6_fails (x16.2);
m18)
else
(let m19 : zM := Fsum (x16.2);
(let m20 : zM := f_X6_must (44 : Int32) m19;
(let m21 : zM := Fsum m20;
(let m22 : zM := f_X6_must (93 : Int32) m21;
(let m23 : zM := f_X6_emit (2005 : Int32) m22;
(let m24 : zM := zpI m23 0 19 ((m23.1 0 19) - (1 : Int32));
m24))))))))
else
(let m25 : zM := Fsum (x13.2);
(let m26 : zM := f_X6_must (41 : Int32) m25;
(let m27 : zM := zpI m26 0 19 ((m26.1 0 19) - (1 : Int32));
m27)))))
else
(let m28 : zM := Ffac (x10.2);
(let m29 : zM := f_X6_emit (2004 : Int32) m28;
(let m30 : zM := zpI m29 0 19 ((m29.1 0 19) - (1 : Int32));
m30)))))
else
(let x31 : Int32 := f_X6_byteAt M;
(let x32 : Int32 := f_X6_nameOf x31;
(let m33 : zM := f_X6_emit ((1000 : Int32) + x32) M;
(let m34 : zM := zpI m33 0 17 ((m33.1 0 17) + (1 : Int32));
m34)))))))
else
(let m35 : zM := f_X6_number M;
m35))))
else
M)
def f_X6_term_51 (Ffac : zM → zM) (k6 : Int32 → zM → zM) (v2 : Int32) (s0 : Int32) (mm : zM) : zM :=
(if s0 = (0 : Int32) then
k6 s0 mm
else
(let m11 : zM := Ffac mm;
(let m12 : zM := f_X6_emit v2 m11;
k6 s0 m12)))
def f_X6_term_41 (Ffac : zM → zM) (k6 : Int32 → zM → zM) (s0 : Int32) (mm : zM) : zM :=
(if s0 < (0 : Int32) then
f_X6_term_51 Ffac k6 s0 (0 : Int32) mm
else
f_X6_term_51 Ffac k6 s0 (1 : Int32) mm)
def f_X6_term_6 (Ffac : zM → zM) : Nat → Int32 → zM → zM
  | 0, v1, mm => mm
  | n6 + 1, v1, mm => (if v1 = (0 : Int32) then
mm
else
(let x4 : Int32 × zM := f_X6_may (42 : Int32) mm;
(if (x4.1) = (0 : Int32) then
(let x7 : Int32 × zM := f_X6_may (47 : Int32) (x4.2);
(if (x7.1) = (0 : Int32) then
f_X6_term_41 Ffac (fun wv1 wmm => f_X6_term_6 Ffac n6 wv1 wmm) (-1 : Int32) (x7.2)
else
f_X6_term_41 Ffac (fun wv1 wmm => f_X6_term_6 Ffac n6 wv1 wmm) (2003 : Int32) (x7.2)))
else
f_X6_term_41 Ffac (fun wv1 wmm => f_X6_term_6 Ffac n6 wv1 wmm) (2002 : Int32) (x4.2))))
def f_X6_term (Ffac : zM → zM) (M : zM) : zM :=
(let m1 : zM := Ffac M;
f_X6_term_6 Ffac (63) (1 : Int32) m1)
def f_X6_sum_51 (Fterm : zM → zM) (k6 : Int32 → zM → zM) (v2 : Int32) (s0 : Int32) (mm : zM) : zM :=
(if s0 = (0 : Int32) then
k6 s0 mm
else
(let m11 : zM := Fterm mm;
(let m12 : zM := f_X6_emit v2 m11;
k6 s0 m12)))
def f_X6_sum_41 (Fterm : zM → zM) (k6 : Int32 → zM → zM) (s0 : Int32) (mm : zM) : zM :=
(if s0 < (0 : Int32) then
f_X6_sum_51 Fterm k6 s0 (0 : Int32) mm
else
f_X6_sum_51 Fterm k6 s0 (1 : Int32) mm)
def f_X6_sum_6 (Fterm : zM → zM) : Nat → Int32 → zM → zM
  | 0, v1, mm => mm
  | n6 + 1, v1, mm => (if v1 = (0 : Int32) then
mm
else
(let x4 : Int32 × zM := f_X6_may (43 : Int32) mm;
(if (x4.1) = (0 : Int32) then
(let x7 : Int32 × zM := f_X6_may (45 : Int32) (x4.2);
(if (x7.1) = (0 : Int32) then
f_X6_sum_41 Fterm (fun wv1 wmm => f_X6_sum_6 Fterm n6 wv1 wmm) (-1 : Int32) (x7.2)
else
f_X6_sum_41 Fterm (fun wv1 wmm => f_X6_sum_6 Fterm n6 wv1 wmm) (2001 : Int32) (x7.2)))
else
f_X6_sum_41 Fterm (fun wv1 wmm => f_X6_sum_6 Fterm n6 wv1 wmm) (2000 : Int32) (x4.2))))
def f_X6_sum (Fterm : zM → zM) (M : zM) : zM :=
(let m1 : zM := Fterm M;
f_X6_sum_6 Fterm (63) (1 : Int32) m1)
def g_X6_fac : Nat → zM → zM
  | 0 => f_X6_factor (fun m => m) (fun m => m)
  | d + 1 => f_X6_factor (f_X6_sum (f_X6_term (g_X6_fac d))) (g_X6_fac d)
def g_X6_term (d : Nat) : zM → zM := f_X6_term (g_X6_fac d)
def g_X6_sum (d : Nat) : zM → zM := f_X6_sum (g_X6_term d)

def f_X6_law_72 : Nat → Int32 → zM → (Int32 × zM)
  | 0, v1, mm => (0, mm)
  | n72 + 1, v1, mm => (if (mm.1 0 16) ≤ v1 then
(let m12 : zM := zpI mm 0 5 (0 : Int32);
((0 : Int32), m12))
else
(let m13 : zM := zpI mm 1 ((14 : Int32) + v1).toNatClampNeg (mm.1 10 v1.toNatClampNeg);
f_X6_law_72 n72 (v1 + (1 : Int32)) m13))
def f_X6_law_46 (mm : zM) : Int32 × zM :=
(if (mm.1 0 18) < (0 : Int32) then
(let m10 : zM := zpI mm 1 5 (mm.1 0 16);
f_X6_law_72 (61) (0 : Int32) m10)
else
(((-1 : Int32) - (mm.1 0 18)), mm))
def f_X6_law (M : zM) : Int32 × zM :=
(let m1 : zM := zpI M 0 16 (0 : Int32);
(let m2 : zM := zpI m1 0 17 (0 : Int32);
(let m3 : zM := zpI m2 0 18 (-1 : Int32);
(let m4 : zM := zpI m3 0 19 (0 : Int32);
(let m5 : zM := g_X6_sum 5 m4;
(if (0 : Int32) ≤ (m5.1 0 18) then
f_X6_law_46 m5
else
(if (m5.1 0 5) ≤ (m5.1 0 17) then
f_X6_law_46 m5
else
(let m8 : zM := f_X6_fails m5;
f_X6_law_46 m8))))))))
def f_X6_plain (M : zM) : Int32 × zM :=
(if (0 : Int32) ≤ (M.1 1 5) then
(let m2 : zM := zpI M 1 5 (-1 : Int32);
((1 : Int32), m2))
else
(let m3 : zM := zpI M 1 5 (-1 : Int32);
((0 : Int32), m3)))
def f_X6_says (p1 : Int32) (M : zM) : Int32 × zM :=
(let x2 : Int32 := f_X6_isBlock p1 M;
(if x2 = (0 : Int32) then
(let x8 : Int32 × zM := f_X6_no (0 : Int32) M;
((x8.1), (x8.2)))
else
(if (0 : Int32) ≤ (M.1 1 5) then
(let x5 : Int32 := f_X6_at p1 (6 : Int32) M;
(let x6 : Int32 × zM := f_X6_given p1 x5 M;
((x6.1), (x6.2))))
else
(let x7 : Int32 × zM := f_X6_no (3 : Int32) M;
((x7.1), (x7.2))))))
def f_X6_sheet_29 (p1 : Int32) (p2 : Int32) (p3 : Int32) (mm : zM) : Int32 × zM :=
(let x8 : Int32 × zM := f_X6_no (0 : Int32) mm;
((x8.1), (x8.2)))
def f_X6_sheet_83 (p1 : Int32) (p2 : Int32) (p3 : Int32) : Nat → Int32 → zM → (Int32 × zM)
  | 0, v4, mm => (0, mm)
  | n83 + 1, v4, mm => (if (40 : Int32) ≤ v4 then
((mm.1 13 p1.toNatClampNeg), mm)
else
(let m17 : zM := zpL mm 14 (((40 : Int32) * p1) + v4).toNatClampNeg (0 : Int64);
f_X6_sheet_83 p1 p2 p3 n83 (v4 + (1 : Int32)) m17))
def f_X6_sheet_79 (p1 : Int32) (p2 : Int32) (p3 : Int32) (s0 : Int32) (s1 : Int32) (mm : zM) : Int32 × zM :=
(let m15 : zM := zpI mm 13 s1.toNatClampNeg s0;
f_X6_sheet_83 p1 p2 p3 (41) (0 : Int32) m15)
def f_X6_sheet_35 (p1 : Int32) (p2 : Int32) (p3 : Int32) (mm : zM) : Int32 × zM :=
(if (0 : Int32) ≤ p3 then
(if p3 ≤ (40 : Int32) then
(let m11 : zM := zpI mm 12 p1.toNatClampNeg p2;
(if p2 = (0 : Int32) then
f_X6_sheet_79 p1 p2 p3 (0 : Int32) p1 m11
else
f_X6_sheet_79 p1 p2 p3 p3 p1 m11))
else
(let x13 : Int32 × zM := f_X6_no (0 : Int32) mm;
((x13.1), (x13.2))))
else
(let x14 : Int32 × zM := f_X6_no (6 : Int32) mm;
((x14.1), (x14.2))))
def f_X6_sheet (p1 : Int32) (p2 : Int32) (p3 : Int32) (M : zM) : Int32 × zM :=
(let x2 : Int32 := f_X6_isSheet p1;
(if x2 = (0 : Int32) then
f_X6_sheet_29 p1 p2 p3 M
else
(if p2 = (0 : Int32) then
f_X6_sheet_35 p1 p2 p3 M
else
(if p2 = (8 : Int32) then
f_X6_sheet_35 p1 p2 p3 M
else
(if p2 = (16 : Int32) then
f_X6_sheet_35 p1 p2 p3 M
else
(if p2 = (64 : Int32) then
f_X6_sheet_35 p1 p2 p3 M
else
f_X6_sheet_29 p1 p2 p3 M))))))
def f_X6_write (p1 : Int32) (p2 : Int32) (p3 : Int64) (M : zM) : Int64 × zM :=
(let x2 : Int32 := f_X6_isSheet p1;
(if x2 = (0 : Int32) then
(let x16 : Int32 × zM := f_X6_no (0 : Int32) M;
(((x16.1).toInt64), (x16.2)))
else
(if (M.1 12 p1.toNatClampNeg) = (0 : Int32) then
(let x15 : Int32 × zM := f_X6_no (5 : Int32) M;
(((x15.1).toInt64), (x15.2)))
else
(let x6 : Int32 := f_X6_in p2 (0 : Int32) ((M.1 13 p1.toNatClampNeg) - (1 : Int32));
(if x6 = (0 : Int32) then
(let x14 : Int32 × zM := f_X6_no (0 : Int32) M;
(((x14.1).toInt64), (x14.2)))
else
(let x8 : Int64 := (M.2 14 (((40 : Int32) * p1) + p2).toNatClampNeg);
(if (M.1 12 p1.toNatClampNeg) = (8 : Int32) then
(let m13 : zM := zpL M 14 (((40 : Int32) * p1) + p2).toNatClampNeg (((p3.toInt32).toInt8.toInt32).toInt64);
(x8, m13))
else
(if (M.1 12 p1.toNatClampNeg) = (16 : Int32) then
(let m12 : zM := zpL M 14 (((40 : Int32) * p1) + p2).toNatClampNeg (((p3.toInt32).toInt16.toInt32).toInt64);
(x8, m12))
else
(let m11 : zM := zpL M 14 (((40 : Int32) * p1) + p2).toNatClampNeg p3;
(x8, m11))))))))))
def f_X6_copy_14 (p1 : Int32) (p2 : Int32) (p3 : Int32) (p4 : Int32) (p5 : Int32) (mm : zM) : Int32 × zM :=
(let x16 : Int32 × zM := f_X6_no (0 : Int32) mm;
((x16.1), (x16.2)))
def f_X6_copy_38 (p1 : Int32) (p2 : Int32) (p3 : Int32) (p4 : Int32) (p5 : Int32) (mm : zM) : Int32 × zM :=
(let x17 : Int32 × zM := f_X6_no (5 : Int32) mm;
((x17.1), (x17.2)))
def f_X6_copy_106 (p1 : Int32) (p2 : Int32) (p3 : Int32) (p4 : Int32) (p5 : Int32) (mm : zM) : Int32 × zM :=
(let x18 : Int32 × zM := f_X6_no (0 : Int32) mm;
((x18.1), (x18.2)))
def f_X6_copy_152 (p1 : Int32) (p2 : Int32) (p3 : Int32) (p4 : Int32) (p5 : Int32) : Nat → Int32 → zM → (Int32 × zM)
  | 0, v6, mm => (0, mm)
  | n152 + 1, v6, mm => (if p5 ≤ v6 then
(p5, mm)
else
(let m22 : zM := zpL mm 14 ((((40 : Int32) * p3) + p4) + v6).toNatClampNeg (mm.2 15 v6.toNatClampNeg);
f_X6_copy_152 p1 p2 p3 p4 p5 n152 (v6 + (1 : Int32)) m22))
def f_X6_copy_115 (p1 : Int32) (p2 : Int32) (p3 : Int32) (p4 : Int32) (p5 : Int32) : Nat → Int32 → zM → (Int32 × zM)
  | 0, v6, mm => (0, mm)
  | n115 + 1, v6, mm => (if p5 ≤ v6 then
f_X6_copy_152 p1 p2 p3 p4 p5 (41) (0 : Int32) mm
else
(let m20 : zM := zpL mm 15 v6.toNatClampNeg (mm.2 14 ((((40 : Int32) * p1) + p2) + v6).toNatClampNeg);
f_X6_copy_115 p1 p2 p3 p4 p5 n115 (v6 + (1 : Int32)) m20))
def f_X6_copy (p1 : Int32) (p2 : Int32) (p3 : Int32) (p4 : Int32) (p5 : Int32) (M : zM) : Int32 × zM :=
(let x2 : Int32 := f_X6_isSheet p1;
(if x2 = (0 : Int32) then
f_X6_copy_14 p1 p2 p3 p4 p5 M
else
(let x5 : Int32 := f_X6_isSheet p3;
(if x5 = (0 : Int32) then
f_X6_copy_14 p1 p2 p3 p4 p5 M
else
(if (M.1 12 p1.toNatClampNeg) = (0 : Int32) then
f_X6_copy_38 p1 p2 p3 p4 p5 M
else
(if (M.1 12 p3.toNatClampNeg) = (0 : Int32) then
f_X6_copy_38 p1 p2 p3 p4 p5 M
else
(if (M.1 12 p1.toNatClampNeg) = (M.1 12 p3.toNatClampNeg) then
(if p2 < (0 : Int32) then
f_X6_copy_106 p1 p2 p3 p4 p5 M
else
(if p4 < (0 : Int32) then
f_X6_copy_106 p1 p2 p3 p4 p5 M
else
(if p5 < (0 : Int32) then
f_X6_copy_106 p1 p2 p3 p4 p5 M
else
(if ((M.1 13 p1.toNatClampNeg) - p5) < p2 then
f_X6_copy_106 p1 p2 p3 p4 p5 M
else
(if p4 ≤ ((M.1 13 p3.toNatClampNeg) - p5) then
f_X6_copy_115 p1 p2 p3 p4 p5 (41) (0 : Int32) M
else
f_X6_copy_106 p1 p2 p3 p4 p5 M)))))
else
(let x15 : Int32 × zM := f_X6_no (2 : Int32) M;
((x15.1), (x15.2))))))))))
def f_X6_draws_40 (p1 : Int32) : Nat → Int32 → Int32 → Int32 → zM → (Int32 × zM)
  | 0, v2, v3, v4, mm => (0, mm)
  | n40 + 1, v2, v3, v4, mm => (if (mm.1 13 p1.toNatClampNeg) ≤ v4 then
(let m9 : zM := zpI mm 1 2 v2;
(v3, m9))
else
(let x10 : Int64 := (mm.2 14 (((40 : Int32) * p1) + v4).toNatClampNeg);
(if (lg_cmp x10 (-99 : Int64)) < (0 : Int32) then
f_X6_draws_40 p1 n40 v2 v3 (v4 + (1 : Int32)) mm
else
(if (0 : Int32) < (lg_cmp x10 (99 : Int64)) then
f_X6_draws_40 p1 n40 v2 v3 (v4 + (1 : Int32)) mm
else
(let m13 : zM := zpI mm 1 2 (x10.toInt32);
(let m14 : zM := f_X6_tick m13;
f_X6_draws_40 p1 n40 v2 (v3 + (1 : Int32)) (v4 + (1 : Int32)) m14))))))
def f_X6_draws (p1 : Int32) (M : zM) : Int32 × zM :=
(let x2 : Int32 := f_X6_isSheet p1;
(if x2 = (0 : Int32) then
(let x7 : Int32 × zM := f_X6_no (0 : Int32) M;
((x7.1), (x7.2)))
else
(if (M.1 12 p1.toNatClampNeg) = (0 : Int32) then
(let x6 : Int32 × zM := f_X6_no (5 : Int32) M;
((x6.1), (x6.2)))
else
(let x5 : Int32 := (M.1 1 2);
f_X6_draws_40 p1 (41) x5 (0 : Int32) (0 : Int32) M))))
def f_X6_read_30 (p1 : Int32) : Nat → Int32 → zM → (Int32 × zM)
  | 0, v2, mm => (0, mm)
  | n30 + 1, v2, mm => (if (mm.1 13 p1.toNatClampNeg) ≤ v2 then
((0 : Int32), mm)
else
(let x9 : Int32 := f_X6_isBlock v2 mm;
(if x9 = (0 : Int32) then
(((1 : Int32) + v2), mm)
else
(let x11 : Int32 := f_X6_at v2 (5 : Int32) mm;
(if (lg_cmp (mm.2 14 (((40 : Int32) * p1) + v2).toNatClampNeg) (x11.toInt64)) = (0 : Int32) then
f_X6_read_30 p1 n30 (v2 + (1 : Int32)) mm
else
(((1 : Int32) + v2), mm))))))
def f_X6_read (p1 : Int32) (M : zM) : Int32 × zM :=
(let x2 : Int32 := f_X6_isSheet p1;
(if x2 = (0 : Int32) then
(let x6 : Int32 × zM := f_X6_no (0 : Int32) M;
((x6.1), (x6.2)))
else
(if (M.1 12 p1.toNatClampNeg) = (0 : Int32) then
(let x5 : Int32 × zM := f_X6_no (5 : Int32) M;
((x5.1), (x5.2)))
else
f_X6_read_30 p1 (41) (0 : Int32) M)))
def f_X6_image (M : zM) : Int32 × zM :=
(let m1 : zM := f_X6_lay 1 2 M;
(let m2 : zM := zpI m1 0 3 (1 : Int32);
((1 : Int32), m2)))
def f_X6_undo (M : zM) : Int32 × zM :=
(if (M.1 0 3) = (0 : Int32) then
(let x3 : Int32 × zM := f_X6_no (3 : Int32) M;
((x3.1), (x3.2)))
else
(let m2 : zM := f_X6_lay 2 1 M;
((m2.1 1 0), m2)))
def f_X6_tear (M : zM) : Int32 × zM :=
(if (M.1 0 3) = (0 : Int32) then
(let m2 : zM := zpI M 0 3 (0 : Int32);
((0 : Int32), m2))
else
(let m3 : zM := zpI M 0 3 (0 : Int32);
((1 : Int32), m3)))
def f_X6_count (p1 : Int32) (M : zM) : Int32 × zM :=
(if p1 = (0 : Int32) then
((M.1 1 0), M)
else
(if p1 = (1 : Int32) then
((M.1 1 3), M)
else
(if p1 = (2 : Int32) then
((M.1 1 4), M)
else
(if p1 = (3 : Int32) then
(if (0 : Int32) ≤ (M.1 1 5) then
((1 : Int32), M)
else
((0 : Int32), M))
else
(if p1 = (4 : Int32) then
((M.1 0 5), M)
else
(if p1 = (5 : Int32) then
((M.1 1 2), M)
else
(if p1 = (6 : Int32) then
((M.1 1 1), M)
else
(if p1 = (7 : Int32) then
((M.1 1 13), M)
else
(let x3 : Int32 × zM := f_X6_no (0 : Int32) M;
((x3.1), (x3.2)))))))))))
def f_X6_status_36 (p1 : Int32) (k20 : Int32 → Int32 → zM → (Int32 × zM)) (v3 : Int32) (s0 : Int32) (mm : zM) : Int32 × zM :=
(let x9 : Int32 := (s0 + (mm.1 5 v3.toNatClampNeg));
k20 x9 (v3 + (1 : Int32)) mm)
def f_X6_status_20 (p1 : Int32) : Nat → Int32 → Int32 → zM → (Int32 × zM)
  | 0, v2, v3, mm => (0, mm)
  | n20 + 1, v2, v3, mm => (if (7 : Int32) ≤ v3 then
(v2, mm)
else
(if p1 < (0 : Int32) then
f_X6_status_36 p1 (fun wv2 wv3 wmm => f_X6_status_20 p1 n20 wv2 wv3 wmm) v3 v2 mm
else
(if p1 = v3 then
f_X6_status_36 p1 (fun wv2 wv3 wmm => f_X6_status_20 p1 n20 wv2 wv3 wmm) v3 v2 mm
else
(let x8 : Int32 := (v2 + (0 : Int32));
f_X6_status_20 p1 n20 x8 (v3 + (1 : Int32)) mm))))
def f_X6_status (p1 : Int32) (M : zM) : Int32 × zM :=
(let x2 : Int32 := f_X6_in p1 (-1 : Int32) (6 : Int32);
(if x2 = (0 : Int32) then
(let x4 : Int32 × zM := f_X6_no (0 : Int32) M;
((x4.1), (x4.2)))
else
f_X6_status_20 p1 (8) (0 : Int32) (0 : Int32) M))
end
section
theorem zrem100 {x : Int32} (h : 0 ≤ x ∧ x ≤ 100) : 0 ≤ x - x / 100 * 100 ∧ x - x / 100 * 100 ≤ 99 := by
  have key : ∀ j : Nat, j ≤ 100 → 0 ≤ nI j - nI j / 100 * 100 ∧ nI j - nI j / 100 * 100 ≤ 99 := by decide
  obtain ⟨j, hj, rfl⟩ := nI_of2 (x := x) (M := 100) (n := 100) (by decide) (Int32.not_lt.mpr h.1) h.2
  exact key j hj
theorem cls_X1_2 (p : Int32) : ∀ (n : Nat) (v : Int32), 0 ≤ v → v ≤ 6 → 0 ≤ f_X1_classOf_2 p n v ∧ f_X1_classOf_2 p n v ≤ 6 := by
  intro n
  induction n with
  | zero => intro v h1 h2; unfold f_X1_classOf_2; decide
  | succ n ih =>
    intro v h1 h2
    unfold f_X1_classOf_2
    split
    · exact ⟨h1, h2⟩
    · split
      · exact ⟨h1, h2⟩
      · exact ih (v + 1) (by grind) (by grind)
theorem cls_X1 (p : Int32) : 0 ≤ f_X1_classOf p ∧ f_X1_classOf p ≤ 6 := cls_X1_2 p _ 0 (by decide) (by decide)
theorem fm100 {x : Int32} (h : -101 ≤ x ∧ x ≤ 99) : 0 ≤ f_J9_floorMod_7cf53 x 100 ∧ f_J9_floorMod_7cf53 x 100 ≤ 99 := by
  have key : ∀ j : Nat, j ≤ 200 → 0 ≤ f_J9_floorMod_7cf53 (nI j - 101) 100 ∧ f_J9_floorMod_7cf53 (nI j - 101) 100 ≤ 99 := by decide +kernel
  obtain ⟨h1, h2⟩ := h
  obtain ⟨j, hj, e⟩ := nI_of2 (x := x + 101) (M := 200) (n := 200) (by decide) (by grind) (by grind)
  have e2 : x = nI j - 101 := by rw [← e]; grind
  rw [e2]
  exact key j hj
theorem slot_X1 {a : Nat} {q : Int32} {M : zM} (h : 0 ≤ M.1 a 5 ∧ M.1 a 5 ≤ 99) (hq : 0 ≤ q ∧ q ≤ 100) : 0 ≤ f_X1_slot a q M ∧ f_X1_slot a q M ≤ 99 := fm100 (by grind)
theorem zpI_at {M : zM} {c k : Nat} {v : Int32} : (zpI M c k v).1 c k = v := by simp [zpI, zrI, va_up, upd]
theorem zpI_off {M : zM} {c k a b : Nat} {v : Int32} (h : ¬ (a = c ∧ b = k)) : (zpI M c k v).1 a b = M.1 a b := by
  by_cases hc : a = c
  · subst hc
    have hb : b ≠ k := fun q => h ⟨rfl, q⟩
    simp [zpI, zrI, va_up, upd, hb]
  · simp [zpI, zrI, va_up, hc]
theorem fr_X0_begin {c a : Nat} {q1 q2 q3 q4 : Int32} {M : zM} (h : a ≠ c) : (f_X0_begin c q1 q2 q3 q4 M).1 a = M.1 a := by
  simp [f_X0_begin, zpI, zrI, va_up, h]
theorem zcp40 {x y L : Int32} (hx : 0 ≤ x) (hy : 0 ≤ y) (h : y ≤ L) (h2 : x ≤ L - y) (hL : L ≤ 40) : x.toNatClampNeg + y.toNatClampNeg ≤ 40 := by
  have h3 : x + y ≤ 40 := by grind
  have h4 : x ≤ 40 := by grind
  have h5 : y ≤ 40 := by grind
  obtain ⟨i, hi, rfl⟩ := nI_of2 (x := x) (M := 40) (n := 40) (by decide) (Int32.not_lt.mpr hx) h4
  obtain ⟨j, hj, rfl⟩ := nI_of2 (x := y) (M := 40) (n := 40) (by decide) (Int32.not_lt.mpr hy) h5
  rw [nI_clamp (by omega), nI_clamp (by omega)]
  rw [nI_add] at h3
  have := (nI_leI (a := i + j) (b := 40) (by omega) (by omega)).mp h3
  omega
theorem wi7 {x : Int32} (h : ¬ f_X5_within x 0 6 = 0) : 0 ≤ x ∧ x < 7 := by grind [f_X5_within]
theorem zCd.step1 {B v : Int32} {n : Nat} (h : zCd B (n + 1) v) (hv : 0 ≤ v) : zCd B n (v + -1) := by
  have e : v + -1 = v - 1 := by grind
  rw [e]
  exact h.step hv
theorem z5354 {M : zM} {k b : Nat} {v : Int32} : (zpI M 54 k v).1 53 b = M.1 53 b := zpI_off (fun h => absurd h.1 (by decide))
theorem hp_X3 {c : Nat} {x y : Int32} {M : zM} (h : ¬ f_X3_hasPart c x y M = 0) : 0 ≤ x ∧ 0 ≤ y ∧ y ≤ M.1 c 2 ∧ x ≤ M.1 c 2 - y := by grind [f_X3_hasPart]
theorem zcp40h {x y L : Int32} (hL : L ≤ 40) (h : 0 ≤ x ∧ 0 ≤ y ∧ y ≤ L ∧ x ≤ L - y) : x.toNatClampNeg + y.toNatClampNeg ≤ 40 := zcp40 h.1 h.2.1 h.2.2.1 h.2.2.2 hL
end
section
theorem il_X6 {b : Int32} {M : zM} (hq : 0 ≤ M.1 1 0 ∧ M.1 1 0 ≤ 10) (hm : 0 ≤ b ∧ b < M.1 1 0) (h : f_X6_isLast b M = 0) : 0 ≤ b + 1 ∧ b + 1 < 10 ∧ b + 1 < M.1 1 0 := by
  unfold f_X6_isLast at h
  split at h
  · exact absurd h (by decide)
  · rename_i hne
    have e1 := zadd1 hm.2
    have e2 := zsub1 (x := M.1 1 0) (m := 0) (by
      obtain ⟨h1, h2⟩ := hm
      exact Int32.lt_of_le_of_lt h1 h2)
    have hne2 : b.toInt ≠ (M.1 1 0 - 1).toInt := fun q => hne (Int32.toInt_inj.mp q)
    obtain ⟨h1, h2⟩ := hm
    obtain ⟨h3, h4⟩ := hq
    rw [Int32.le_iff_toInt_le] at h1 h3 h4
    rw [Int32.lt_iff_toInt_lt] at h2
    have z0 : (0 : Int32).toInt = 0 := by decide
    have z10 : (10 : Int32).toInt = 10 := by decide
    refine ⟨?_, ?_, ?_⟩
    · rw [Int32.le_iff_toInt_le]; omega
    · rw [Int32.lt_iff_toInt_lt]; omega
    · rw [Int32.lt_iff_toInt_lt]; omega
theorem in_X6 {v a b : Int32} (h : ¬ f_X6_in v a b = 0) : a ≤ v ∧ v ≤ b := by
  unfold f_X6_in at h
  grind
theorem bk_X6 {i w B : Int32} (hB : 0 ≤ B ∧ B ≤ 100) (h1 : 0 ≤ i ∧ i ≤ B - 1) (h2 : 0 ≤ w ∧ w ≤ 2) : 0 ≤ (148 : Int32) + (100 : Int32) * w + i ∧ (148 : Int32) + (100 : Int32) * w + i < 448 := by
  have hi : i ≤ 99 := by grind
  have hi0 := h1.1
  have key : ∀ j : Nat, j ≤ 99 → ∀ k : Nat, k ≤ 2 → 0 ≤ (148 : Int32) + (100 : Int32) * nI k + nI j ∧ (148 : Int32) + (100 : Int32) * nI k + nI j < 448 := by decide
  obtain ⟨j, hj, rfl⟩ := nI_of2 (x := i) (M := 99) (n := 99) (by decide) (Int32.not_lt.mpr hi0) hi
  obtain ⟨k, hk, rfl⟩ := nI_of2 (x := w) (M := 2) (n := 2) (by decide) (Int32.not_lt.mpr h2.1) h2.2
  exact key j hj k hk
theorem zlt99 {v L : Int32} (h : ¬ L ≤ v) (hL : L ≤ 100) : v ≤ 99 := by grind
theorem is_X6 {v : Int32} (h : ¬ f_X6_isSheet v = 0) : 0 ≤ v ∧ v < 4 := by
  have h1 := in_X6 (v := v) (a := 0) (b := 3) (by unfold f_X6_isSheet at h; exact h)
  exact ⟨h1.1, by have := h1.2; grind⟩
theorem wr_X6 {q i L : Int32} (hs : 0 ≤ q ∧ q < 4) (h : 0 ≤ i ∧ i ≤ L - 1) (hL : 0 ≤ L ∧ L ≤ 40) : vp_in ((40 : Int32) * q + i) 160 := by
  have hi : i ≤ 39 := by grind
  have hi0 := h.1
  have hq : q ≤ 3 := by have := hs.2; grind
  have key : ∀ j : Nat, j ≤ 39 → ∀ k : Nat, k ≤ 3 → 0 ≤ (40 : Int32) * nI k + nI j ∧ (40 : Int32) * nI k + nI j < 160 := by decide
  obtain ⟨j, hj, rfl⟩ := nI_of2 (x := i) (M := 39) (n := 39) (by decide) (Int32.not_lt.mpr hi0) hi
  obtain ⟨k, hk, rfl⟩ := nI_of2 (x := q) (M := 3) (n := 3) (by decide) (Int32.not_lt.mpr hs.1) hq
  exact zin160.mpr (key j hj k hk)
theorem wr_X6b {q i : Int32} (hs : 0 ≤ q ∧ q < 4) (h0 : 0 ≤ i) (h : i < 40) : vp_in ((40 : Int32) * q + i) 160 := wr_X6 (L := 40) hs ⟨h0, by grind⟩ (by decide)
end
section
/-! the reference's reading: what stays true of its places (0,5) bytes, (0,16) code, (0,17) here, (0,18) fault, (0,19) open -/
def zPS (j : Int) (M : zM) : Prop := 0 ≤ (M.1 0 16).toInt ∧ (M.1 0 16).toInt ≤ 60 ∧ 0 ≤ (M.1 0 17).toInt ∧ (M.1 0 17).toInt ≤ (M.1 0 5).toInt ∧ (M.1 0 5).toInt ≤ 60 ∧ ((M.1 0 18).toInt < 0 → (M.1 0 16).toInt + j ≤ (M.1 0 17).toInt)
theorem q16 {M : zM} {x : Int32} : (zpI M 0 16 x).1 0 5 = M.1 0 5 ∧ (zpI M 0 16 x).1 0 16 = x ∧ (zpI M 0 16 x).1 0 17 = M.1 0 17 ∧ (zpI M 0 16 x).1 0 18 = M.1 0 18 ∧ (zpI M 0 16 x).1 0 19 = M.1 0 19 := ⟨zpI_off (by decide), zpI_at, zpI_off (by decide), zpI_off (by decide), zpI_off (by decide)⟩
theorem q17 {M : zM} {x : Int32} : (zpI M 0 17 x).1 0 5 = M.1 0 5 ∧ (zpI M 0 17 x).1 0 16 = M.1 0 16 ∧ (zpI M 0 17 x).1 0 17 = x ∧ (zpI M 0 17 x).1 0 18 = M.1 0 18 ∧ (zpI M 0 17 x).1 0 19 = M.1 0 19 := ⟨zpI_off (by decide), zpI_off (by decide), zpI_at, zpI_off (by decide), zpI_off (by decide)⟩
theorem q18 {M : zM} {x : Int32} : (zpI M 0 18 x).1 0 5 = M.1 0 5 ∧ (zpI M 0 18 x).1 0 16 = M.1 0 16 ∧ (zpI M 0 18 x).1 0 17 = M.1 0 17 ∧ (zpI M 0 18 x).1 0 18 = x ∧ (zpI M 0 18 x).1 0 19 = M.1 0 19 := ⟨zpI_off (by decide), zpI_off (by decide), zpI_off (by decide), zpI_at, zpI_off (by decide)⟩
theorem q19 {M : zM} {x : Int32} : (zpI M 0 19 x).1 0 5 = M.1 0 5 ∧ (zpI M 0 19 x).1 0 16 = M.1 0 16 ∧ (zpI M 0 19 x).1 0 17 = M.1 0 17 ∧ (zpI M 0 19 x).1 0 18 = M.1 0 18 ∧ (zpI M 0 19 x).1 0 19 = x := ⟨zpI_off (by decide), zpI_off (by decide), zpI_off (by decide), zpI_off (by decide), zpI_at⟩
theorem q10 {M : zM} {x : Int32} {k : Nat} : (zpI M 10 k x).1 0 5 = M.1 0 5 ∧ (zpI M 10 k x).1 0 16 = M.1 0 16 ∧ (zpI M 10 k x).1 0 17 = M.1 0 17 ∧ (zpI M 10 k x).1 0 18 = M.1 0 18 ∧ (zpI M 10 k x).1 0 19 = M.1 0 19 := ⟨zpI_off (fun h => absurd h.1 (by decide)), zpI_off (fun h => absurd h.1 (by decide)), zpI_off (fun h => absurd h.1 (by decide)), zpI_off (fun h => absurd h.1 (by decide)), zpI_off (fun h => absurd h.1 (by decide))⟩
theorem zti1 {x : Int32} (h : 0 ≤ x.toInt ∧ x.toInt ≤ 1000000) : (x + 1).toInt = x.toInt + 1 := by
  have h1 : (1 : Int32).toInt = 1 := by decide
  rw [Int32.toInt_add, h1]
  apply Int.bmod_eq_of_le <;> omega
theorem zPS.weak {j i : Int} {M : zM} (h : zPS j M) (hi : i ≤ j) : zPS i M := by
  obtain ⟨a, b, c, d, e, f⟩ := h
  exact ⟨a, b, c, d, e, fun q => by have := f q; omega⟩
theorem zf0 {x : Int32} : (0 : Int32) ≤ x ↔ 0 ≤ x.toInt := by
  rw [Int32.le_iff_toInt_le]
  have h0 : (0 : Int32).toInt = 0 := by decide
  rw [h0]
theorem zf1 {x : Int32} : x < (0 : Int32) ↔ x.toInt < 0 := by
  rw [Int32.lt_iff_toInt_lt]
  have h0 : (0 : Int32).toInt = 0 := by decide
  rw [h0]
theorem ba_X6 {c : Int32} {M : zM} (h : f_X6_byteAt M = c) (hc : 0 ≤ c) : (M.1 0 17).toInt < (M.1 0 5).toInt := by
  unfold f_X6_byteAt at h
  split at h
  · subst h; exact absurd hc (by decide)
  · rename_i q
    rw [Int32.le_iff_toInt_le] at q
    omega
/-- what a piece of the reading does to the five places: from M to M' -/
def zSt2 (M M' : zM) : Prop := (M.1 0 17).toInt ≤ (M'.1 0 17).toInt ∧ M'.1 0 19 = M.1 0 19 ∧ M'.1 0 5 = M.1 0 5
theorem zSt2.rf {M : zM} : zSt2 M M := ⟨Int.le_refl _, rfl, rfl⟩
theorem zSt2.tr {A B C : zM} (h : zSt2 A B) (k : zSt2 B C) : zSt2 A C := ⟨Int.le_trans h.1 k.1, k.2.1.trans h.2.1, k.2.2.trans h.2.2⟩
theorem l_emit {j : Int} {v : Int32} {M : zM} (h : zPS (j + 1) M) (hj : 0 ≤ j) : zPS j (f_X6_emit v M) ∧ zSt2 M (f_X6_emit v M) := by
  unfold f_X6_emit
  split
  · exact ⟨h.weak (by omega), zSt2.rf⟩
  · rename_i hf
    rw [zf0] at hf
    obtain ⟨a, b, c, d, e, f⟩ := h
    have f2 := f (by omega)
    have k := zti1 (x := M.1 0 16) (by omega)
    obtain ⟨u5, u16, u17, u18, u19⟩ := q10 (M := M) (x := v) (k := (M.1 0 16).toNatClampNeg)
    simp only []
    obtain ⟨t5, t16, t17, t18, t19⟩ := q16 (M := zpI M 10 (M.1 0 16).toNatClampNeg v) (x := (zpI M 10 (M.1 0 16).toNatClampNeg v).1 0 16 + 1)
    refine ⟨?_, ?_⟩
    · unfold zPS
      rw [t5, t16, t17, t18, u5, u16, u17, u18]
      omega
    · unfold zSt2
      rw [t5, t17, t19, u5, u17, u19]
      exact ⟨Int.le_refl _, rfl, rfl⟩
theorem l_fails {j : Int} {M : zM} (h : zPS j M) : zPS j (f_X6_fails M) ∧ zSt2 M (f_X6_fails M) := by
  unfold f_X6_fails
  split
  · exact ⟨h, zSt2.rf⟩
  · obtain ⟨a, b, c, d, e, f⟩ := h
    obtain ⟨t5, t16, t17, t18, t19⟩ := q18 (M := M) (x := M.1 0 17)
    simp only []
    refine ⟨?_, ?_⟩
    · unfold zPS
      rw [t5, t16, t17, t18]
      omega
    · unfold zSt2
      rw [t5, t17, t19]
      exact ⟨Int.le_refl _, rfl, rfl⟩
theorem l_step {j : Int} {M : zM} (h : zPS j M) (hl : (M.1 0 17).toInt < (M.1 0 5).toInt) : zPS (j + 1) (zpI M 0 17 (M.1 0 17 + 1)) ∧ zSt2 M (zpI M 0 17 (M.1 0 17 + 1)) ∧ ((zpI M 0 17 (M.1 0 17 + 1)).1 0 17).toInt = (M.1 0 17).toInt + 1 := by
  obtain ⟨a, b, c, d, e, f⟩ := h
  have k := zti1 (x := M.1 0 17) (by omega)
  obtain ⟨t5, t16, t17, t18, t19⟩ := q17 (M := M) (x := M.1 0 17 + 1)
  refine ⟨?_, ?_, ?_⟩
  · unfold zPS
    rw [t5, t16, t17, t18]
    omega
  · unfold zSt2
    rw [t5, t17, t19]
    exact ⟨by omega, rfl, rfl⟩
  · rw [zpI_at]; exact k
theorem l_may {j : Int} {c : Int32} {M : zM} (h : zPS j M) (hc : 0 ≤ c) : zPS j (f_X6_may c M).2 ∧ zSt2 M (f_X6_may c M).2 ∧ (¬ (f_X6_may c M).1 = 0 → zPS (j + 1) (f_X6_may c M).2 ∧ (M.1 0 17).toInt + 1 ≤ ((f_X6_may c M).2.1 0 17).toInt) := by
  have h00 : zpI M 0 17 (M.1 0 17 + 0) = M := by
    refine Prod.ext ?_ rfl
    funext a b
    show (zpI M 0 17 (M.1 0 17 + 0)).1 a b = M.1 a b
    by_cases q : a = 0 ∧ b = 17
    · obtain ⟨rfl, rfl⟩ := q
      rw [zpI_at]; simp
    · exact zpI_off q
  have h0 : f_X6_may_19 c M = (0, M) := by
    unfold f_X6_may_19 f_X6_may_20
    rw [if_pos rfl, h00]
  unfold f_X6_may
  split
  · rw [h0]; exact ⟨h, zSt2.rf, fun q => absurd rfl q⟩
  · simp only []
    split
    · rename_i hb
      have hl := ba_X6 hb hc
      obtain ⟨k1, k2, k3⟩ := l_step h hl
      have e1 : f_X6_may_20 c 1 M = (1, zpI M 0 17 (M.1 0 17 + 1)) := by
        unfold f_X6_may_20
        rw [if_neg (by decide)]
      rw [e1]
      exact ⟨k1.weak (by omega), k2, fun _ => ⟨k1, by show _ ≤ ((zpI M 0 17 (M.1 0 17 + 1)).1 0 17).toInt; rw [k3]; omega⟩⟩
    · rw [h0]; exact ⟨h, zSt2.rf, fun q => absurd rfl q⟩
theorem l_must {j : Int} {c : Int32} {M : zM} (h : zPS j M) (hc : 0 ≤ c) : zPS j (f_X6_must c M) ∧ zSt2 M (f_X6_must c M) := by
  obtain ⟨k1, k2, k3⟩ := l_may h hc
  unfold f_X6_must
  simp only []
  split
  · obtain ⟨a, b⟩ := l_fails k1
    exact ⟨a, k2.tr b⟩
  · exact ⟨k1, k2⟩
theorem dg_X6 {c : Int32} (h : ¬ f_X6_isDigit c = 0) : 0 ≤ c := by
  have h1 := in_X6 (v := c) (a := 48) (b := 57) (by unfold f_X6_isDigit at h; exact h)
  exact Int32.le_trans (by decide) h1.1
theorem l_num4 {j : Int} (hj : 0 ≤ j) : ∀ (n : Nat) (v w : Int32) (M : zM), zPS (j + 1) M → zPS j (f_X6_number_4 n v w M) ∧ zSt2 M (f_X6_number_4 n v w M) := by
  intro n
  induction n with
  | zero => intro v w M h; exact ⟨h.weak (by omega), zSt2.rf⟩
  | succ n ih =>
    intro v w M h
    unfold f_X6_number_4
    split
    · exact l_emit h hj
    · simp only []
      split
      · exact l_emit h hj
      · rename_i hd
        have hl := ba_X6 rfl (dg_X6 hd)
        obtain ⟨k1, k2, -⟩ := l_step h hl
        obtain ⟨m1, m2⟩ := ih _ (w + 1) _ (k1.weak (by omega))
        exact ⟨m1, k2.tr m2⟩
theorem l_number {j : Int} {M : zM} (hj : 0 ≤ j) (h : zPS j M) (hd : ¬ f_X6_isDigit (f_X6_byteAt M) = 0) : zPS j (f_X6_number M) ∧ zSt2 M (f_X6_number M) := by
  unfold f_X6_number
  unfold f_X6_number_4
  rw [if_neg (by decide)]
  simp only []
  rw [if_neg hd]
  have hl := ba_X6 rfl (dg_X6 hd)
  obtain ⟨k1, k2, -⟩ := l_step h hl
  obtain ⟨m1, m2⟩ := l_num4 hj 3 _ (0 + 1) _ k1
  exact ⟨m1, k2.tr m2⟩
theorem l_opens {j : Int} {c : Int32} {M : zM} (h : zPS j M) (hc : 0 ≤ c) : ((f_X6_opens c M).1 = 0 → zPS j (f_X6_opens c M).2 ∧ zSt2 M (f_X6_opens c M).2) ∧ (¬ (f_X6_opens c M).1 = 0 → zPS (j + 1) (f_X6_opens c M).2 ∧ (f_X6_opens c M).2.1 0 19 = M.1 0 19 + 1 ∧ ¬ M.1 0 19 = 5 ∧ (M.1 0 17).toInt ≤ ((f_X6_opens c M).2.1 0 17).toInt ∧ (f_X6_opens c M).2.1 0 5 = M.1 0 5) := by
  unfold f_X6_opens
  split
  · exact ⟨fun _ => ⟨h, zSt2.rf⟩, fun q => absurd rfl q⟩
  · simp only []
    split
    · rename_i hb
      have hl := ba_X6 hb hc
      split
      · exact ⟨fun _ => l_fails h, fun q => absurd rfl q⟩
      · rename_i ho
        refine ⟨fun q => absurd (show (1 : Int32) = 0 from q) (by decide), fun _ => ?_⟩
        have h2 : zPS j (zpI M 0 19 (M.1 0 19 + 1)) := by
          obtain ⟨t5, t16, t17, t18, t19⟩ := q19 (M := M) (x := M.1 0 19 + 1)
          unfold zPS
          rw [t5, t16, t17, t18]
          exact h
        have e17 : (zpI M 0 19 (M.1 0 19 + 1)).1 0 17 = M.1 0 17 := zpI_off (by decide)
        have e5 : (zpI M 0 19 (M.1 0 19 + 1)).1 0 5 = M.1 0 5 := zpI_off (by decide)
        obtain ⟨k1, k2, k3⟩ := l_step h2 (by rw [e17, e5]; exact hl)
        refine ⟨k1, ?_, ho, ?_, ?_⟩
        · exact k2.2.1.trans zpI_at
        · have := k2.1; rw [e17] at this; exact this
        · exact k2.2.2.trans e5
    · exact ⟨fun _ => ⟨h, zSt2.rf⟩, fun q => absurd rfl q⟩
/-- what a whole sum, term or factor keeps -/
def zPr (F : zM → zM) : Prop := ∀ (M : zM) (j : Int), 0 ≤ j → zPS j M → zPS j (F M) ∧ zSt2 M (F M)
theorem l_close {j : Int} {M : zM} (h : zPS j M) : zPS j (zpI M 0 19 (M.1 0 19 - 1)) ∧ (zpI M 0 19 (M.1 0 19 - 1)).1 0 17 = M.1 0 17 ∧ (zpI M 0 19 (M.1 0 19 - 1)).1 0 5 = M.1 0 5 ∧ (zpI M 0 19 (M.1 0 19 - 1)).1 0 19 = M.1 0 19 - 1 := by
  refine ⟨?_, zpI_off (by decide), zpI_off (by decide), zpI_at⟩
  obtain ⟨t5, t16, t17, t18, t19⟩ := q19 (M := M) (x := M.1 0 19 - 1)
  unfold zPS
  rw [t5, t16, t17, t18]
  exact h
theorem l_factorR {Fs Ff : zM → zM} (hs : zPr Fs) (hf : zPr Ff) : zPr (f_X6_factor Fs Ff) := by
  intro M j hj h
  have fin : ∀ (A B : zM), B.1 0 19 = M.1 0 19 + 1 → (M.1 0 17).toInt ≤ (B.1 0 17).toInt → B.1 0 5 = M.1 0 5 → zSt2 B A → zPS j A → zPS j (zpI A 0 19 (A.1 0 19 - 1)) ∧ zSt2 M (zpI A 0 19 (A.1 0 19 - 1)) := by
    intro A B h1 h2 h3 h4 h5
    obtain ⟨c1, c2, c3, c4⟩ := l_close h5
    refine ⟨c1, ?_, ?_, ?_⟩
    · rw [c2]; exact Int.le_trans h2 h4.1
    · rw [c4, h4.2.1, h1]; simp
    · rw [c3, h4.2.2, h3]
  unfold f_X6_factor
  split
  · simp only []
    split
    · split
      · obtain ⟨o1, o2⟩ := l_opens (c := 45) h (by decide)
        split
        · rename_i z1
          obtain ⟨p1, q1⟩ := o1 z1
          obtain ⟨o3, o4⟩ := l_opens (c := 40) p1 (by decide)
          split
          · rename_i z2
            obtain ⟨p2, q2⟩ := o3 z2
            obtain ⟨o5, o6⟩ := l_opens (c := 91) p2 (by decide)
            split
            · rename_i z3
              obtain ⟨p3, q3⟩ := o5 z3
              obtain ⟨a, b⟩ := l_fails p3
              exact ⟨a, (q1.tr (q2.tr q3)).tr b⟩
            · rename_i z3
              obtain ⟨p3, e19, -, e17, e5⟩ := o6 z3
              obtain ⟨a1, b1⟩ := hs _ (j + 1) (by omega) p3
              obtain ⟨a2, b2⟩ := l_must (c := 44) a1 (by decide)
              obtain ⟨a3, b3⟩ := hs _ (j + 1) (by omega) a2
              obtain ⟨a4, b4⟩ := l_must (c := 93) a3 (by decide)
              obtain ⟨a5, b5⟩ := l_emit (v := 2005) a4 hj
              refine fin _ _ (by rw [e19, q2.2.1, q1.2.1]) (Int.le_trans (q1.tr q2).1 e17) (by rw [e5, q2.2.2, q1.2.2]) ((((b1.tr b2).tr b3).tr b4).tr b5) a5
          · rename_i z2
            obtain ⟨p3, e19, -, e17, e5⟩ := o4 z2
            obtain ⟨a1, b1⟩ := hs _ (j + 1) (by omega) p3
            obtain ⟨a2, b2⟩ := l_must (c := 41) a1 (by decide)
            exact fin _ _ (by rw [e19, q1.2.1]) (Int.le_trans q1.1 e17) (by rw [e5, q1.2.2]) (b1.tr b2) (a2.weak (by omega))
        · rename_i z1
          obtain ⟨p3, e19, -, e17, e5⟩ := o2 z1
          obtain ⟨a1, b1⟩ := hf _ (j + 1) (by omega) p3
          obtain ⟨a2, b2⟩ := l_emit (v := 2004) a1 hj
          exact fin _ _ e19 e17 e5 (b1.tr b2) a2
      · rename_i hfl hdg hnm
        have hl : (M.1 0 17).toInt < (M.1 0 5).toInt := by
          have hb : ¬ f_X6_byteAt M = -1 := by
            intro q
            rw [q] at hnm
            exact hnm (by decide)
          unfold f_X6_byteAt at hb
          split at hb
          · exact absurd rfl hb
          · rename_i q
            rw [Int32.le_iff_toInt_le] at q
            omega
        have hfl2 : (M.1 0 18).toInt < 0 := zf1.mp hfl
        obtain ⟨a, b, c, d, e, f⟩ := h
        have f2 := f hfl2
        have k := zti1 (x := M.1 0 17) (by omega)
        have k2 := zti1 (x := M.1 0 16) (by omega)
        unfold f_X6_emit
        rw [if_neg (by rw [zf0]; omega)]
        simp only []
        generalize (1000 : Int32) + f_X6_nameOf (f_X6_byteAt M) = v
        obtain ⟨u5, u16, u17, u18, u19⟩ := q10 (M := M) (x := v) (k := (M.1 0 16).toNatClampNeg)
        generalize zpI M 10 (M.1 0 16).toNatClampNeg v = M1 at u5 u16 u17 u18 u19 ⊢
        obtain ⟨t5, t16, t17, t18, t19⟩ := q16 (M := M1) (x := M1.1 0 16 + 1)
        generalize zpI M1 0 16 (M1.1 0 16 + 1) = M2 at t5 t16 t17 t18 t19 ⊢
        obtain ⟨w5, w16, w17, w18, w19⟩ := q17 (M := M2) (x := M2.1 0 17 + 1)
        refine ⟨?_, ?_⟩
        · unfold zPS
          rw [w5, w16, w17, w18, t5, t16, t17, t18, u5, u16, u17, u18]
          omega
        · unfold zSt2
          rw [w5, w17, w19, t5, t17, t19, u5, u17, u19]
          exact ⟨by omega, rfl, rfl⟩
    · rename_i hd
      exact l_number hj h hd
  · exact ⟨h, zSt2.rf⟩
theorem l_term6 {F : zM → zM} (hF : zPr F) : ∀ (n : Nat) (v : Int32) (M : zM) (j : Int), 0 ≤ j → zPS j M → zPS j (f_X6_term_6 F n v M) ∧ zSt2 M (f_X6_term_6 F n v M) := by
  intro n
  induction n with
  | zero => intro v M j hj h; exact ⟨h, zSt2.rf⟩
  | succ n ih =>
    intro v M j hj h
    have good : ∀ (w : Int32) (A : zM), ¬ w < 0 → zPS (j + 1) A → zPS j (f_X6_term_41 F (fun wv1 wmm => f_X6_term_6 F n wv1 wmm) w A) ∧ zSt2 A (f_X6_term_41 F (fun wv1 wmm => f_X6_term_6 F n wv1 wmm) w A) := by
      intro w A hw hA
      unfold f_X6_term_41 f_X6_term_51
      rw [if_neg hw, if_neg (by decide)]
      simp only []
      obtain ⟨a1, b1⟩ := hF A (j + 1) (by omega) hA
      obtain ⟨a2, b2⟩ := l_emit (v := w) a1 hj
      obtain ⟨a3, b3⟩ := ih 1 _ j hj a2
      exact ⟨a3, (b1.tr b2).tr b3⟩
    unfold f_X6_term_6
    split
    · exact ⟨h, zSt2.rf⟩
    · simp only []
      obtain ⟨m1, m2, m3⟩ := l_may (c := 42) h (by decide)
      split
      · obtain ⟨n1, n2, n3⟩ := l_may (c := 47) m1 (by decide)
        split
        · unfold f_X6_term_41 f_X6_term_51
          rw [if_pos (by decide), if_pos rfl]
          obtain ⟨a3, b3⟩ := ih 0 _ j hj n1
          exact ⟨a3, (m2.tr n2).tr b3⟩
        · rename_i q
          obtain ⟨a3, b3⟩ := good 2003 _ (by decide) (n3 q).1
          exact ⟨a3, (m2.tr n2).tr b3⟩
      · rename_i q
        obtain ⟨a3, b3⟩ := good 2002 _ (by decide) (m3 q).1
        exact ⟨a3, m2.tr b3⟩
theorem l_termR {F : zM → zM} (hF : zPr F) : zPr (f_X6_term F) := by
  intro M j hj h
  unfold f_X6_term
  obtain ⟨a1, b1⟩ := hF M j hj h
  obtain ⟨a2, b2⟩ := l_term6 hF 63 1 _ j hj a1
  exact ⟨a2, b1.tr b2⟩
theorem l_sum6 {F : zM → zM} (hF : zPr F) : ∀ (n : Nat) (v : Int32) (M : zM) (j : Int), 0 ≤ j → zPS j M → zPS j (f_X6_sum_6 F n v M) ∧ zSt2 M (f_X6_sum_6 F n v M) := by
  intro n
  induction n with
  | zero => intro v M j hj h; exact ⟨h, zSt2.rf⟩
  | succ n ih =>
    intro v M j hj h
    have good : ∀ (w : Int32) (A : zM), ¬ w < 0 → zPS (j + 1) A → zPS j (f_X6_sum_41 F (fun wv1 wmm => f_X6_sum_6 F n wv1 wmm) w A) ∧ zSt2 A (f_X6_sum_41 F (fun wv1 wmm => f_X6_sum_6 F n wv1 wmm) w A) := by
      intro w A hw hA
      unfold f_X6_sum_41 f_X6_sum_51
      rw [if_neg hw, if_neg (by decide)]
      simp only []
      obtain ⟨a1, b1⟩ := hF A (j + 1) (by omega) hA
      obtain ⟨a2, b2⟩ := l_emit (v := w) a1 hj
      obtain ⟨a3, b3⟩ := ih 1 _ j hj a2
      exact ⟨a3, (b1.tr b2).tr b3⟩
    unfold f_X6_sum_6
    split
    · exact ⟨h, zSt2.rf⟩
    · simp only []
      obtain ⟨m1, m2, m3⟩ := l_may (c := 43) h (by decide)
      split
      · obtain ⟨n1, n2, n3⟩ := l_may (c := 45) m1 (by decide)
        split
        · unfold f_X6_sum_41 f_X6_sum_51
          rw [if_pos (by decide), if_pos rfl]
          obtain ⟨a3, b3⟩ := ih 0 _ j hj n1
          exact ⟨a3, (m2.tr n2).tr b3⟩
        · rename_i q
          obtain ⟨a3, b3⟩ := good 2001 _ (by decide) (n3 q).1
          exact ⟨a3, (m2.tr n2).tr b3⟩
      · rename_i q
        obtain ⟨a3, b3⟩ := good 2000 _ (by decide) (m3 q).1
        exact ⟨a3, m2.tr b3⟩
theorem l_sumR {F : zM → zM} (hF : zPr F) : zPr (f_X6_sum F) := by
  intro M j hj h
  unfold f_X6_sum
  obtain ⟨a1, b1⟩ := hF M j hj h
  obtain ⟨a2, b2⟩ := l_sum6 hF 63 1 _ j hj a1
  exact ⟨a2, b1.tr b2⟩
theorem zPr_id : zPr (fun m => m) := fun M j hj h => ⟨h, zSt2.rf⟩
theorem zPr_fac : ∀ d : Nat, zPr (g_X6_fac d) := by
  intro d
  induction d with
  | zero => exact l_factorR zPr_id zPr_id
  | succ d ih => exact l_factorR (l_sumR (l_termR ih)) ih
theorem zPr_term (d : Nat) : zPr (g_X6_term d) := l_termR (zPr_fac d)
theorem zPr_sum (d : Nat) : zPr (g_X6_sum d) := l_sumR (zPr_term d)
/-- the fuel of a loop over terms -/
def zFu (n : Nat) (v : Int32) (M : zM) : Prop := (v = 0 → 60 < (M.1 0 17).toInt + n) ∧ (¬ v = 0 → 61 < (M.1 0 17).toInt + n)
theorem zFu.zero {v : Int32} {M : zM} {j : Int} (h : zFu 0 v M) (hP : zPS j M) : False := by
  obtain ⟨a, b, c, d, e, f⟩ := hP
  by_cases q : v = 0
  · have := h.1 q; omega
  · have := h.2 q; omega
theorem zFu.start {M : zM} {j : Int} (hP : zPS j M) : zFu 63 1 M := by
  obtain ⟨a, b, c, d, e, f⟩ := hP
  exact ⟨fun q => absurd q (by decide), fun _ => by omega⟩
/-- behind a sign that was sought: found or not -/
def zQf (c : Prop) (n : Nat) (M : zM) : Prop := (c → zPS 0 M ∧ 60 < (M.1 0 17).toInt + n) ∧ (¬ c → zPS 1 M ∧ 61 < (M.1 0 17).toInt + n)
theorem zQm {c : Prop} {n : Nat} {M : zM} (hc : ¬ c) (h : zPS 1 M) (k : 61 < (M.1 0 17).toInt + n) : zQf c n M := ⟨fun q => absurd q hc, fun _ => ⟨h, k⟩⟩
theorem zQu {c : Prop} {n : Nat} {M : zM} (hc : c) (h : zPS 0 M) (k : 60 < (M.1 0 17).toInt + n) : zQf c n M := ⟨fun _ => ⟨h, k⟩, fun q => absurd hc q⟩
theorem pe0 {M : zM} (h : zPS 0 M) (hl : (M.1 0 17).toInt < (M.1 0 5).toInt) : M.1 0 18 < 0 → M.1 0 16 ≤ 59 := by
  intro q
  rw [zf1] at q
  obtain ⟨a, b, c, d, e, f⟩ := h
  have := f q
  rw [Int32.le_iff_toInt_le]
  have : (59 : Int32).toInt = 59 := by decide
  omega
theorem pe1 {M : zM} (h : zPS 1 M) : M.1 0 18 < 0 → M.1 0 16 ≤ 59 := by
  intro q
  rw [zf1] at q
  obtain ⟨a, b, c, d, e, f⟩ := h
  have := f q
  rw [Int32.le_iff_toInt_le]
  have : (59 : Int32).toInt = 59 := by decide
  omega
theorem nm_X6 {M : zM} (h : ¬ f_X6_nameOf (f_X6_byteAt M) < 0) : (M.1 0 17).toInt < (M.1 0 5).toInt := by
  have hb : ¬ f_X6_byteAt M = -1 := by
    intro q
    rw [q] at h
    exact h (by decide)
  unfold f_X6_byteAt at hb
  split at hb
  · exact absurd rfl hb
  · rename_i q
    rw [Int32.le_iff_toInt_le] at q
    omega
theorem em17 {v : Int32} {M : zM} : (f_X6_emit v M).1 0 17 = M.1 0 17 := by
  unfold f_X6_emit
  split
  · rfl
  · exact (zpI_off (by decide)).trans (zpI_off (fun h => absurd h.1 (by decide)))
theorem zst60 {M : zM} {j : Int} (h : zPS j M) (hl : (M.1 0 17).toInt < (M.1 0 5).toInt) : 0 ≤ M.1 0 17 + 1 ∧ M.1 0 17 + 1 ≤ 60 := by
  obtain ⟨a, b, c, d, e, f⟩ := h
  have k := zti1 (x := M.1 0 17) (by omega)
  have z0 : (0 : Int32).toInt = 0 := by decide
  have z60 : (60 : Int32).toInt = 60 := by decide
  constructor <;> rw [Int32.le_iff_toInt_le] <;> omega
theorem ps_init {M : zM} (ht : 0 ≤ M.1 0 5 ∧ M.1 0 5 ≤ 60) : zPS 0 (zpI (zpI (zpI (zpI M 0 16 0) 0 17 0) 0 18 (-1)) 0 19 0) := by
  obtain ⟨a5, a16, a17, a18, a19⟩ := q16 (M := M) (x := 0)
  generalize zpI M 0 16 0 = M1 at a5 a16 a17 a18 a19 ⊢
  obtain ⟨b5, b16, b17, b18, b19⟩ := q17 (M := M1) (x := 0)
  generalize zpI M1 0 17 0 = M2 at b5 b16 b17 b18 b19 ⊢
  obtain ⟨c5, c16, c17, c18, c19⟩ := q18 (M := M2) (x := -1)
  generalize zpI M2 0 18 (-1) = M3 at c5 c16 c17 c18 c19 ⊢
  obtain ⟨d5, d16, d17, d18, d19⟩ := q19 (M := M3) (x := 0)
  unfold zPS
  rw [d5, d16, d17, d18, c5, c16, c17, c18, b5, b16, b17, a5, a16]
  obtain ⟨h1, h2⟩ := ht
  rw [Int32.le_iff_toInt_le] at h1 h2
  have z0 : (0 : Int32).toInt = 0 := by decide
  have z60 : (60 : Int32).toInt = 60 := by decide
  have zm : (-1 : Int32).toInt = -1 := by decide
  rw [z0, zm]
  omega
end
section
/-! the reference's law as it is kept: what stays of the row, and that it can be reckoned -/
/-- how high the pile stands ahead of the k-th code -/
def zHg (c : Nat → Int32) : Nat → Int
  | 0 => 0
  | k + 1 => if c k < 2000 then zHg c k + 1 else if c k = 2004 then zHg c k else zHg c k - 1
/-- every code finds on the pile what it needs -/
def zVal (M : zM) : Prop := ∀ k : Nat, k < 64 → (k : Int) < (M.1 1 5).toInt → 2000 ≤ M.1 1 (14 + k) → (if M.1 1 (14 + k) = 2004 then 1 else 2) ≤ zHg (fun i => M.1 1 (14 + i)) k
/-- how many blocks there are, and the law, are as they were -/
def zSame (M M' : zM) : Prop := M'.1 1 0 = M.1 1 0 ∧ M'.1 1 5 = M.1 1 5 ∧ ∀ k, k < 64 → M'.1 1 (14 + k) = M.1 1 (14 + k)
theorem zSame.rf {M : zM} : zSame M M := ⟨rfl, rfl, fun _ _ => rfl⟩
theorem zSame.tr {A B C : zM} (h : zSame A B) (k : zSame B C) : zSame A C := ⟨k.1.trans h.1, k.2.1.trans h.2.1, fun i hi => (k.2.2 i hi).trans (h.2.2 i hi)⟩
theorem zHg_congr {c c' : Nat → Int32} : ∀ k : Nat, (∀ i, i < k → c' i = c i) → zHg c' k = zHg c k := by
  intro k
  induction k with
  | zero => intro _; rfl
  | succ k ih =>
    intro h
    unfold zHg
    rw [ih (fun i hi => h i (by omega)), h k (by omega)]
theorem zVal.to {M M' : zM} (h : zVal M) (s : zSame M M') : zVal M' := by
  intro k hk hc h2
  rw [s.2.1] at hc
  rw [s.2.2 k hk] at h2 ⊢
  rw [zHg_congr (c := fun i => M.1 1 (14 + i)) k (fun i hi => s.2.2 i (by omega))]
  exact h k hk hc h2
theorem zVof {D : va_G} {cy : Nat → ClassId} {ad : Nat → Nat} {H0 H : Heap} {M : zM} {locs : List Loc} (_ : zH D lyR cy ad H0 M H locs) (h : zVal M) : zVal M := h
theorem sm_row {M M' : zM} (h : M'.1 1 = M.1 1) : zSame M M' := by
  unfold zSame
  rw [h]
  exact ⟨rfl, rfl, fun _ _ => rfl⟩
theorem sm_put0 {M : zM} {c k : Nat} {v : Int32} (h : c ≠ 1) : zSame M (zpI M c k v) := sm_row (zpI_ne.1 1 (fun e => h e.symm))
theorem sm_put1 {M : zM} {k : Nat} {v : Int32} (h : k ≠ 0 ∧ k ≠ 5 ∧ (k < 14 ∨ 78 ≤ k)) : zSame M (zpI M 1 k v) := by
  refine ⟨zpI_off (fun e => h.1 e.2.symm), zpI_off (fun e => h.2.1 e.2.symm), fun i hi => zpI_off (fun e => ?_)⟩
  have := e.2
  omega
theorem zge {x : Int32} {n : Nat} (m : Int32) (hm : m.toInt = n) (h : m ≤ x) : n ≤ x.toNatClampNeg := by
  rw [Int32.le_iff_toInt_le] at h
  show n ≤ x.toInt.toNat
  omega
theorem sm_put78 {M : zM} {i v : Int32} (h : 78 ≤ i) : zSame M (zpI M 1 i.toNatClampNeg v) := by
  have := zge 78 (n := 78) (by decide) h
  exact sm_put1 ⟨by omega, by omega, Or.inr this⟩
theorem ix78 {b w : Int32} (hb : 0 ≤ b ∧ b < 10) (hw : 0 ≤ w ∧ w ≤ 6) : (78 : Int32) ≤ (78 : Int32) + (7 : Int32) * b + w := by
  have key : ∀ j : Nat, j ≤ 9 → ∀ k : Nat, k ≤ 6 → (78 : Int32) ≤ (78 : Int32) + (7 : Int32) * nI j + nI k := by decide
  obtain ⟨j, hj, rfl⟩ := nI_of2 (x := b) (M := 9) (n := 9) (by decide) (Int32.not_lt.mpr hb.1) (by grind)
  obtain ⟨k, hk, rfl⟩ := nI_of2 (x := w) (M := 6) (n := 6) (by decide) (Int32.not_lt.mpr hw.1) hw.2
  exact key j hj k hk
theorem sm_become {b w v : Int32} {M : zM} (hb : 0 ≤ b ∧ b < 10) (hw : 0 ≤ w ∧ w ≤ 6) : zSame M (f_X6_become b w v M).2 := sm_put78 (ix78 hb hw)
theorem sm_no {w : Int32} {M : zM} : zSame M (f_X6_no w M).2 := sm_put0 (by decide)
theorem rw_given5 {b s : Int32} : ∀ (n : Nat) (h k : Int32) (M : zM), (f_X6_given_5 b s n h k M).2.1 1 = M.1 1 := by
  intro n
  induction n with
  | zero => intro h k M; rfl
  | succ n ih =>
    intro h k M
    unfold f_X6_given_5
    split
    · rfl
    · simp only []
      split
      · split <;> (rw [ih]; exact zpI_ne.1 1 (by decide))
      · split <;> (rw [ih]; exact zpI_ne.1 1 (by decide))
theorem rw_given {b s : Int32} {M : zM} : (f_X6_given b s M).2.1 1 = M.1 1 := rw_given5 _ _ _ M
theorem rw_holdsOf {b s : Int32} {M : zM} : (f_X6_holdsOf b s M).2.1 1 = M.1 1 := by
  have k : ∀ x : Int32, ((x, M) : Int32 × zM).2.1 1 = M.1 1 := fun _ => rfl
  unfold f_X6_holdsOf
  simp only []
  repeat' split
  all_goals first | rfl | exact rw_given (b := b) (s := s) (M := M)
theorem rw_steps123 {b v x : Int32} {M : zM} : (f_X6_stepsOf_123 b v x M).2 = M := by
  unfold f_X6_stepsOf_123
  split <;> rfl
theorem rw_steps62 {b v w x : Int32} {M : zM} : (f_X6_stepsOf_62 b v w x M).2 = M := by
  unfold f_X6_stepsOf_62
  simp only []
  split
  · split
    · split <;> exact rw_steps123
    · exact rw_steps123
  · rfl
theorem rw_steps23 {b v x : Int32} {M : zM} : (f_X6_stepsOf_23 b v x M).2.1 1 = M.1 1 := by
  unfold f_X6_stepsOf_23
  simp only []
  split
  · rw [rw_steps62]; exact rw_holdsOf
  · rw [rw_steps62]
theorem rw_stepsOf {b : Int32} {M : zM} : (f_X6_stepsOf b M).2.1 1 = M.1 1 := by
  unfold f_X6_stepsOf
  simp only []
  split <;> exact rw_steps23
theorem zb10 {v L : Int32} (h0 : 0 ≤ v) (h : ¬ L ≤ v) (hL : L ≤ 10) : 0 ≤ v ∧ v < 10 := ⟨h0, Int32.lt_of_lt_of_le (Int32.not_le.mp h) hL⟩
theorem zv1 {v L : Int32} (h0 : 0 ≤ v) (h : ¬ L ≤ v) : 0 ≤ v + 1 := by
  have h1 := zadd1 (Int32.not_le.mp h)
  rw [Int32.le_iff_toInt_le] at h0 ⊢
  have z0 : (0 : Int32).toInt = 0 := by decide
  omega
theorem sm_round33 : ∀ (n : Nat) (a v : Int32) (M : zM), 0 ≤ v → M.1 1 0 ≤ 10 → zSame M (f_X6_round_33 n a v M).2 := by
  intro n
  induction n with
  | zero => intro a v M _ _; exact zSame.rf
  | succ n ih =>
    intro a v M h0 hL
    unfold f_X6_round_33
    split
    · exact zSame.rf
    · rename_i hc
      simp only []
      have s5 : zSame M (zpI M 6 v.toNatClampNeg (M.1 7 v.toNatClampNeg)) := sm_put0 (by decide)
      have hb := zb10 h0 hc hL
      generalize zpI M 6 v.toNatClampNeg (M.1 7 v.toNatClampNeg) = m5 at s5 ⊢
      split
      · exact s5.tr (ih _ _ _ (zv1 h0 hc) (by rw [s5.1]; exact hL))
      · generalize f_X6_at v 5 m5 + m5.1 7 v.toNatClampNeg = x8
        have s8 := s5.tr (sm_become (w := 5) (v := x8) (M := m5) hb (by decide))
        generalize (f_X6_become v 5 x8 m5).2 = m8 at s8 ⊢
        generalize m8.1 0 9 ||| 1 <<< (v &&& 31) = x9
        have s9 := s8.tr (sm_put0 (M := m8) (c := 0) (k := 9) (v := x9) (by decide))
        generalize zpI m8 0 9 x9 = m9 at s9 ⊢
        have s10 := s9.tr (sm_put0 (M := m9) (c := 0) (k := 10) (v := m9.1 0 10 + 1) (by decide))
        generalize zpI m9 0 10 (m9.1 0 10 + 1) = m10 at s10 ⊢
        generalize m10.1 0 11 + (f_X6_without (m10.1 7 v.toNatClampNeg)).toInt32 = x12
        have s12 := s10.tr (sm_put0 (M := m10) (c := 0) (k := 11) (v := x12) (by decide))
        exact s12.tr (ih _ _ _ (zv1 h0 hc) (by rw [s12.1]; exact hL))
theorem sm_round4 : ∀ (n : Nat) (a v : Int32) (M : zM), 0 ≤ v → M.1 1 0 ≤ 10 → zSame M (f_X6_round_4 n a v M).2 := by
  intro n
  induction n with
  | zero => intro a v M _ _; exact zSame.rf
  | succ n ih =>
    intro a v M h0 hL
    unfold f_X6_round_4
    split
    · exact sm_round33 _ _ 0 M (by decide) hL
    · rename_i hc
      simp only []
      have s3 := (sm_row (rw_stepsOf (b := v) (M := M))).tr (sm_put0 (c := 7) (k := v.toNatClampNeg) (v := (f_X6_stepsOf v M).1) (by decide))
      exact s3.tr (ih _ _ _ (zv1 h0 hc) (by rw [s3.1]; exact hL))
theorem sm_round {M : zM} (hL : 0 ≤ M.1 1 0 ∧ M.1 1 0 ≤ 10) : zSame M (f_X6_round M).2 := sm_round4 _ _ 0 M (by decide) hL.2
theorem sm_books3 : ∀ (n : Nat) (v : Int32) (M : zM), -1 ≤ v → v ≤ 99 → zSame M (f_X6_books_3 n v M) := by
  intro n
  induction n with
  | zero => intro v M _ _; exact zSame.rf
  | succ n ih =>
    intro v M h0 h1
    unfold f_X6_books_3
    split
    · simp only []
      exact ((((sm_put1 (by decide)).tr (sm_put1 (by decide))).tr (sm_put1 (by decide))).tr (sm_put1 (by decide)))
    · rename_i hc
      simp only []
      have h2 : 0 < v := Int32.not_le.mp hc
      refine (((sm_put78 ?_).tr (sm_put78 ?_)).tr (sm_put78 ?_)).tr (ih _ _ ?_ ?_) <;> grind
theorem sm_books {M : zM} : zSame M (f_X6_books M) := sm_books3 _ 99 M (by decide) (by decide)
theorem cls_X6_4 (p0 : Int32) : ∀ (n : Nat) (v w : Int32), 0 ≤ v → v ≤ 6 → 0 ≤ f_X6_classOf_4 p0 n v w ∧ f_X6_classOf_4 p0 n v w ≤ 6 := by
  intro n
  induction n with
  | zero => intro v w h1 h2; unfold f_X6_classOf_4; decide
  | succ n ih =>
    intro v w h1 h2
    unfold f_X6_classOf_4
    split
    · exact ⟨h1, h2⟩
    · split
      · exact ⟨h1, h2⟩
      · exact ih (v + 1) _ (by grind) (by grind)
theorem cls_X6 (q : Int32) : 0 ≤ f_X6_classOf q ∧ f_X6_classOf q ≤ 6 := cls_X6_4 q _ 0 q (by decide) (by decide)
theorem sm_put12 {M : zM} {i v : Int32} (h : 0 ≤ i ∧ i ≤ 6) : zSame M (zpI M 1 ((6 : Int32) + i).toNatClampNeg v) := by
  have key : ∀ j : Nat, j ≤ 6 → ((6 : Int32) + nI j).toNatClampNeg = 6 + j := by decide
  obtain ⟨j, hj, rfl⟩ := nI_of2 (x := i) (M := 6) (n := 6) (by decide) (Int32.not_lt.mpr h.1) h.2
  rw [key j hj]
  exact sm_put1 ⟨by omega, by omega, Or.inl (by omega)⟩
theorem sm_tick100 : ∀ (n : Nat) (v : Int32) (M : zM), 0 ≤ v → M.1 1 0 ≤ 10 → zSame M (f_X6_tick_100 n v M) := by
  intro n
  induction n with
  | zero => intro v M _ _; exact zSame.rf
  | succ n ih =>
    intro v M h0 hL
    unfold f_X6_tick_100
    split
    · simp only []
      exact ((sm_put1 (by decide)).tr (sm_put12 (cls_X6 _))).tr sm_books
    · rename_i hc
      have hb := zb10 h0 hc hL
      have k190 : ∀ (A : zM) (x w : Int32), zSame M A → 0 ≤ w ∧ w ≤ 6 → zSame M (f_X6_tick_190 (fun wv3 wmm => f_X6_tick_100 n wv3 wmm) v x w v A) := by
        intro A x w hA hw
        unfold f_X6_tick_190
        simp only []
        have s := hA.tr (sm_become (v := x) hb hw)
        exact s.tr (ih _ _ (zv1 h0 hc) (by rw [s.1]; exact hL))
      have k157 : ∀ (q x w : Int32), 0 ≤ w ∧ w ≤ 6 → zSame M (f_X6_tick_157 (fun wv3 wmm => f_X6_tick_100 n wv3 wmm) v q x w v M) := by
        intro q x w hw
        unfold f_X6_tick_157
        simp only []
        have s := sm_become (v := x) (M := M) hb hw
        split <;> exact k190 _ _ _ s (by decide)
      have k127 : ∀ (q : Int32), zSame M (f_X6_tick_127 (fun wv3 wmm => f_X6_tick_100 n wv3 wmm) v q M) := by
        intro q
        unfold f_X6_tick_127
        simp only []
        split <;> exact k157 _ _ _ (by decide)
      split <;> exact k127 _
theorem sm_tick80 {v : Int32} {M : zM} (hL : M.1 1 0 ≤ 10) : zSame M (f_X6_tick_80 v M) := by
  have h4 : ∀ x y : Int32, zSame M (f_X6_tick_96 x y 4 M) := by
    intro x y
    unfold f_X6_tick_96
    simp only []
    have s : zSame M (zpI M 1 (4 : Int32).toNatClampNeg (y + x)) := sm_put1 (by decide)
    exact s.tr (sm_tick100 _ 0 _ (by decide) (by rw [s.1]; exact hL))
  unfold f_X6_tick_80
  split <;> exact h4 _ _
theorem sm_tick59 : ∀ (n : Nat) (a v : Int32) (M : zM), 0 ≤ M.1 1 0 ∧ M.1 1 0 ≤ 10 → zSame M (f_X6_tick_59 n a v M) := by
  intro n
  induction n with
  | zero => intro a v M _; exact zSame.rf
  | succ n ih =>
    intro a v M hL
    unfold f_X6_tick_59
    split
    · exact sm_tick80 hL.2
    · split
      · exact sm_tick80 hL.2
      · simp only []
        have s := sm_round hL
        exact s.tr (ih _ _ _ (by rw [s.1]; exact hL))
theorem sm_tick32 : ∀ (n : Nat) (v : Int32) (M : zM), 0 ≤ M.1 1 0 ∧ M.1 1 0 ≤ 10 → zSame M (f_X6_tick_32 n v M) := by
  intro n
  induction n with
  | zero => intro v M _; exact zSame.rf
  | succ n ih =>
    intro v M hL
    unfold f_X6_tick_32
    split
    · exact sm_tick59 _ _ _ M hL
    · simp only []
      have s : zSame M (zpI M 6 v.toNatClampNeg 0) := sm_put0 (by decide)
      exact s.tr (ih _ _ (by rw [s.1]; exact hL))
theorem sm_tick {M : zM} (hL : 0 ≤ M.1 1 0 ∧ M.1 1 0 ≤ 10) : zSame M (f_X6_tick M) := by
  unfold f_X6_tick
  simp only []
  generalize M.1 1 1 + M.1 1 2 = x1
  have s1 := sm_put1 (M := M) (k := 1) (v := x1) (by decide)
  generalize zpI M 1 1 x1 = m1 at s1 ⊢
  have s := s1.tr ((sm_put0 (M := m1) (c := 0) (k := 9) (v := 0) (by decide)).tr ((sm_put0 (c := 0) (k := 10) (v := 0) (by decide)).tr (sm_put0 (c := 0) (k := 11) (v := 0) (by decide))))
  exact s.tr (sm_tick32 _ _ _ (by rw [s.1]; exact hL))
end
