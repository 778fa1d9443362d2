section
-- ===== PART A: goes FIRST, ahead of the names: the tables' words, and 'selects' of the private methods out of them =====
/-- a private method of a class that the tables say can be made, by its rows of tables_1 -/
def lw_okq (q : MethodName × Nat) : Prop := (q.1.cls ≠ "java/lang/invoke/MethodHandle" ∧ q.1.cls ≠ "java/lang/invoke/VarHandle") ∧ Cond.instantiable q.1.cls q.2 ∈ tables_1 ∧ Cond.privateMethod q.1 ∈ tables_1 ∧ Cond.instanceMethod q.1 ∈ tables_1
theorem lw_p0 : lw_okq (⟨"SlabImage", "rowsOf", "(LSlabImage$Variable;)LSlabImage$Selection;"⟩, 8) := ⟨⟨by decide +kernel, by decide +kernel⟩, List.mem_of_getElem? (i := 10) (by decide +kernel), List.mem_of_getElem? (i := 383) (by decide +kernel), List.mem_of_getElem? (i := 384) (by decide +kernel)⟩
theorem lw_p1 : lw_okq (⟨"SlabImage", "columnsOf", "(LSlabImage$Variable;)LSlabImage$Selection;"⟩, 8) := ⟨⟨by decide +kernel, by decide +kernel⟩, List.mem_of_getElem? (i := 10) (by decide +kernel), List.mem_of_getElem? (i := 388) (by decide +kernel), List.mem_of_getElem? (i := 389) (by decide +kernel)⟩
theorem lw_p2 : lw_okq (⟨"SlabImageModel", "dimNamed", "(III)Z"⟩, 26) := ⟨⟨by decide +kernel, by decide +kernel⟩, List.mem_of_getElem? (i := 595) (by decide +kernel), List.mem_of_getElem? (i := 687) (by decide +kernel), List.mem_of_getElem? (i := 688) (by decide +kernel)⟩
theorem lw_p3 : lw_okq (⟨"SlabImageModel", "growing", "(I)I"⟩, 26) := ⟨⟨by decide +kernel, by decide +kernel⟩, List.mem_of_getElem? (i := 595) (by decide +kernel), List.mem_of_getElem? (i := 691) (by decide +kernel), List.mem_of_getElem? (i := 692) (by decide +kernel)⟩
theorem lw_p4 : lw_okq (⟨"SlabImageModel", "isDimension", "(I)Z"⟩, 26) := ⟨⟨by decide +kernel, by decide +kernel⟩, List.mem_of_getElem? (i := 595) (by decide +kernel), List.mem_of_getElem? (i := 699) (by decide +kernel), List.mem_of_getElem? (i := 700) (by decide +kernel)⟩
theorem lw_p5 : lw_okq (⟨"SlabImageModel", "varNamed", "(III)Z"⟩, 26) := ⟨⟨by decide +kernel, by decide +kernel⟩, List.mem_of_getElem? (i := 595) (by decide +kernel), List.mem_of_getElem? (i := 703) (by decide +kernel), List.mem_of_getElem? (i := 704) (by decide +kernel)⟩
theorem lw_p6 : lw_okq (⟨"SlabImageModel", "blank", "(II)V"⟩, 26) := ⟨⟨by decide +kernel, by decide +kernel⟩, List.mem_of_getElem? (i := 595) (by decide +kernel), List.mem_of_getElem? (i := 707) (by decide +kernel), List.mem_of_getElem? (i := 708) (by decide +kernel)⟩
theorem lw_p7 : lw_okq (⟨"SlabImageModel", "isVariable", "(I)Z"⟩, 26) := ⟨⟨by decide +kernel, by decide +kernel⟩, List.mem_of_getElem? (i := 595) (by decide +kernel), List.mem_of_getElem? (i := 719) (by decide +kernel), List.mem_of_getElem? (i := 720) (by decide +kernel)⟩
theorem lw_p8 : lw_okq (⟨"SlabImageModel", "find", "(II)I"⟩, 26) := ⟨⟨by decide +kernel, by decide +kernel⟩, List.mem_of_getElem? (i := 595) (by decide +kernel), List.mem_of_getElem? (i := 726) (by decide +kernel), List.mem_of_getElem? (i := 727) (by decide +kernel)⟩
theorem lw_p9 : lw_okq (⟨"SlabImageModel", "total", "(IJ)J"⟩, 26) := ⟨⟨by decide +kernel, by decide +kernel⟩, List.mem_of_getElem? (i := 595) (by decide +kernel), List.mem_of_getElem? (i := 742) (by decide +kernel), List.mem_of_getElem? (i := 743) (by decide +kernel)⟩
theorem lw_p10 : lw_okq (⟨"SlabImageModel", "beginOf", "(II)I"⟩, 26) := ⟨⟨by decide +kernel, by decide +kernel⟩, List.mem_of_getElem? (i := 595) (by decide +kernel), List.mem_of_getElem? (i := 746) (by decide +kernel), List.mem_of_getElem? (i := 747) (by decide +kernel)⟩
theorem lw_p11 : lw_okq (⟨"SlabImageModel", "isRecord", "(II)Z"⟩, 26) := ⟨⟨by decide +kernel, by decide +kernel⟩, List.mem_of_getElem? (i := 595) (by decide +kernel), List.mem_of_getElem? (i := 750) (by decide +kernel), List.mem_of_getElem? (i := 751) (by decide +kernel)⟩
theorem lw_p12 : lw_okq (⟨"SlabImageModel", "lengthOf", "(III)I"⟩, 26) := ⟨⟨by decide +kernel, by decide +kernel⟩, List.mem_of_getElem? (i := 595) (by decide +kernel), List.mem_of_getElem? (i := 754) (by decide +kernel), List.mem_of_getElem? (i := 755) (by decide +kernel)⟩
theorem lw_p13 : lw_okq (⟨"SlabImageModel", "headerSize", "(I)I"⟩, 26) := ⟨⟨by decide +kernel, by decide +kernel⟩, List.mem_of_getElem? (i := 595) (by decide +kernel), List.mem_of_getElem? (i := 758) (by decide +kernel), List.mem_of_getElem? (i := 759) (by decide +kernel)⟩
theorem lw_p14 : lw_okq (⟨"SlabImageModel", "listSize", "(II)I"⟩, 26) := ⟨⟨by decide +kernel, by decide +kernel⟩, List.mem_of_getElem? (i := 595) (by decide +kernel), List.mem_of_getElem? (i := 762) (by decide +kernel), List.mem_of_getElem? (i := 763) (by decide +kernel)⟩
theorem lw_p15 : lw_okq (⟨"SlabImageModel", "padded", "(II)I"⟩, 26) := ⟨⟨by decide +kernel, by decide +kernel⟩, List.mem_of_getElem? (i := 595) (by decide +kernel), List.mem_of_getElem? (i := 766) (by decide +kernel), List.mem_of_getElem? (i := 767) (by decide +kernel)⟩
def lw_privs_1 : List (MethodName × Nat) := [(⟨"SlabImage", "rowsOf", "(LSlabImage$Variable;)LSlabImage$Selection;"⟩, 8), (⟨"SlabImage", "columnsOf", "(LSlabImage$Variable;)LSlabImage$Selection;"⟩, 8), (⟨"SlabImageModel", "dimNamed", "(III)Z"⟩, 26), (⟨"SlabImageModel", "growing", "(I)I"⟩, 26), (⟨"SlabImageModel", "isDimension", "(I)Z"⟩, 26), (⟨"SlabImageModel", "varNamed", "(III)Z"⟩, 26), (⟨"SlabImageModel", "blank", "(II)V"⟩, 26), (⟨"SlabImageModel", "isVariable", "(I)Z"⟩, 26), (⟨"SlabImageModel", "find", "(II)I"⟩, 26), (⟨"SlabImageModel", "total", "(IJ)J"⟩, 26), (⟨"SlabImageModel", "beginOf", "(II)I"⟩, 26), (⟨"SlabImageModel", "isRecord", "(II)Z"⟩, 26), (⟨"SlabImageModel", "lengthOf", "(III)I"⟩, 26), (⟨"SlabImageModel", "headerSize", "(I)I"⟩, 26), (⟨"SlabImageModel", "listSize", "(II)I"⟩, 26), (⟨"SlabImageModel", "padded", "(II)I"⟩, 26)]
theorem lw_r1 : ∀ q ∈ lw_privs_1, lw_okq q := List.forall_mem_cons.mpr ⟨lw_p0, List.forall_mem_cons.mpr ⟨lw_p1, List.forall_mem_cons.mpr ⟨lw_p2, List.forall_mem_cons.mpr ⟨lw_p3, List.forall_mem_cons.mpr ⟨lw_p4, List.forall_mem_cons.mpr ⟨lw_p5, List.forall_mem_cons.mpr ⟨lw_p6, List.forall_mem_cons.mpr ⟨lw_p7, List.forall_mem_cons.mpr ⟨lw_p8, List.forall_mem_cons.mpr ⟨lw_p9, List.forall_mem_cons.mpr ⟨lw_p10, List.forall_mem_cons.mpr ⟨lw_p11, List.forall_mem_cons.mpr ⟨lw_p12, List.forall_mem_cons.mpr ⟨lw_p13, List.forall_mem_cons.mpr ⟨lw_p14, List.forall_mem_cons.mpr ⟨lw_p15, fun _ h => absurd h List.not_mem_nil⟩⟩⟩⟩⟩⟩⟩⟩⟩⟩⟩⟩⟩⟩⟩⟩
theorem lw_p16 : lw_okq (⟨"SlabImageModel", "cells", "(II)I"⟩, 26) := ⟨⟨by decide +kernel, by decide +kernel⟩, List.mem_of_getElem? (i := 595) (by decide +kernel), List.mem_of_getElem? (i := 770) (by decide +kernel), List.mem_of_getElem? (i := 771) (by decide +kernel)⟩
theorem lw_p17 : lw_okq (⟨"SlabImageModel", "recordSize", "(I)I"⟩, 26) := ⟨⟨by decide +kernel, by decide +kernel⟩, List.mem_of_getElem? (i := 595) (by decide +kernel), List.mem_of_getElem? (i := 777) (by decide +kernel), List.mem_of_getElem? (i := 778) (by decide +kernel)⟩
theorem lw_p18 : lw_okq (⟨"SlabImageModel", "recordVariables", "(I)I"⟩, 26) := ⟨⟨by decide +kernel, by decide +kernel⟩, List.mem_of_getElem? (i := 595) (by decide +kernel), List.mem_of_getElem? (i := 781) (by decide +kernel), List.mem_of_getElem? (i := 782) (by decide +kernel)⟩
theorem lw_p19 : lw_okq (⟨"SlabImageModel", "there", "(IJJZ)Z"⟩, 26) := ⟨⟨by decide +kernel, by decide +kernel⟩, List.mem_of_getElem? (i := 595) (by decide +kernel), List.mem_of_getElem? (i := 794) (by decide +kernel), List.mem_of_getElem? (i := 795) (by decide +kernel)⟩
theorem lw_p20 : lw_okq (⟨"SlabImageModel", "grow", "(IJ)Z"⟩, 26) := ⟨⟨by decide +kernel, by decide +kernel⟩, List.mem_of_getElem? (i := 595) (by decide +kernel), List.mem_of_getElem? (i := 798) (by decide +kernel), List.mem_of_getElem? (i := 799) (by decide +kernel)⟩
theorem lw_p21 : lw_okq (⟨"SlabImageModel", "cellAt", "(IJJ)I"⟩, 26) := ⟨⟨by decide +kernel, by decide +kernel⟩, List.mem_of_getElem? (i := 595) (by decide +kernel), List.mem_of_getElem? (i := 802) (by decide +kernel), List.mem_of_getElem? (i := 803) (by decide +kernel)⟩
theorem lw_p22 : lw_okq (⟨"SlabImageModel", "slabThere", "(IZ)Z"⟩, 26) := ⟨⟨by decide +kernel, by decide +kernel⟩, List.mem_of_getElem? (i := 595) (by decide +kernel), List.mem_of_getElem? (i := 819) (by decide +kernel), List.mem_of_getElem? (i := 820) (by decide +kernel)⟩
theorem lw_p23 : lw_okq (⟨"SlabImageModel", "many", "(II)I"⟩, 26) := ⟨⟨by decide +kernel, by decide +kernel⟩, List.mem_of_getElem? (i := 595) (by decide +kernel), List.mem_of_getElem? (i := 823) (by decide +kernel), List.mem_of_getElem? (i := 824) (by decide +kernel)⟩
theorem lw_p24 : lw_okq (⟨"SlabImageModel", "chosen", "(III)J"⟩, 26) := ⟨⟨by decide +kernel, by decide +kernel⟩, List.mem_of_getElem? (i := 595) (by decide +kernel), List.mem_of_getElem? (i := 827) (by decide +kernel), List.mem_of_getElem? (i := 828) (by decide +kernel)⟩
theorem lw_p25 : lw_okq (⟨"SlabImageModel", "writeImage", "(I)V"⟩, 26) := ⟨⟨by decide +kernel, by decide +kernel⟩, List.mem_of_getElem? (i := 595) (by decide +kernel), List.mem_of_getElem? (i := 851) (by decide +kernel), List.mem_of_getElem? (i := 852) (by decide +kernel)⟩
theorem lw_p26 : lw_okq (⟨"SlabImageModel", "writeValue", "(II)V"⟩, 26) := ⟨⟨by decide +kernel, by decide +kernel⟩, List.mem_of_getElem? (i := 595) (by decide +kernel), List.mem_of_getElem? (i := 856) (by decide +kernel), List.mem_of_getElem? (i := 857) (by decide +kernel)⟩
theorem lw_p27 : lw_okq (⟨"SlabImageModel", "write", "(I)V"⟩, 26) := ⟨⟨by decide +kernel, by decide +kernel⟩, List.mem_of_getElem? (i := 595) (by decide +kernel), List.mem_of_getElem? (i := 860) (by decide +kernel), List.mem_of_getElem? (i := 861) (by decide +kernel)⟩
theorem lw_p28 : lw_okq (⟨"SlabImageModel", "writeCount", "(II)V"⟩, 26) := ⟨⟨by decide +kernel, by decide +kernel⟩, List.mem_of_getElem? (i := 595) (by decide +kernel), List.mem_of_getElem? (i := 864) (by decide +kernel), List.mem_of_getElem? (i := 865) (by decide +kernel)⟩
theorem lw_p29 : lw_okq (⟨"SlabImageModel", "writeName", "(I)V"⟩, 26) := ⟨⟨by decide +kernel, by decide +kernel⟩, List.mem_of_getElem? (i := 595) (by decide +kernel), List.mem_of_getElem? (i := 868) (by decide +kernel), List.mem_of_getElem? (i := 869) (by decide +kernel)⟩
theorem lw_p30 : lw_okq (⟨"SlabImageModel", "writeList", "(II)V"⟩, 26) := ⟨⟨by decide +kernel, by decide +kernel⟩, List.mem_of_getElem? (i := 595) (by decide +kernel), List.mem_of_getElem? (i := 872) (by decide +kernel), List.mem_of_getElem? (i := 873) (by decide +kernel)⟩
theorem lw_p31 : lw_okq (⟨"SlabImageModel", "pad", "(I)V"⟩, 26) := ⟨⟨by decide +kernel, by decide +kernel⟩, List.mem_of_getElem? (i := 595) (by decide +kernel), List.mem_of_getElem? (i := 876) (by decide +kernel), List.mem_of_getElem? (i := 877) (by decide +kernel)⟩
def lw_privs_2 : List (MethodName × Nat) := [(⟨"SlabImageModel", "cells", "(II)I"⟩, 26), (⟨"SlabImageModel", "recordSize", "(I)I"⟩, 26), (⟨"SlabImageModel", "recordVariables", "(I)I"⟩, 26), (⟨"SlabImageModel", "there", "(IJJZ)Z"⟩, 26), (⟨"SlabImageModel", "grow", "(IJ)Z"⟩, 26), (⟨"SlabImageModel", "cellAt", "(IJJ)I"⟩, 26), (⟨"SlabImageModel", "slabThere", "(IZ)Z"⟩, 26), (⟨"SlabImageModel", "many", "(II)I"⟩, 26), (⟨"SlabImageModel", "chosen", "(III)J"⟩, 26), (⟨"SlabImageModel", "writeImage", "(I)V"⟩, 26), (⟨"SlabImageModel", "writeValue", "(II)V"⟩, 26), (⟨"SlabImageModel", "write", "(I)V"⟩, 26), (⟨"SlabImageModel", "writeCount", "(II)V"⟩, 26), (⟨"SlabImageModel", "writeName", "(I)V"⟩, 26), (⟨"SlabImageModel", "writeList", "(II)V"⟩, 26), (⟨"SlabImageModel", "pad", "(I)V"⟩, 26)]
theorem lw_r2 : ∀ q ∈ lw_privs_2, lw_okq q := List.forall_mem_cons.mpr ⟨lw_p16, List.forall_mem_cons.mpr ⟨lw_p17, List.forall_mem_cons.mpr ⟨lw_p18, List.forall_mem_cons.mpr ⟨lw_p19, List.forall_mem_cons.mpr ⟨lw_p20, List.forall_mem_cons.mpr ⟨lw_p21, List.forall_mem_cons.mpr ⟨lw_p22, List.forall_mem_cons.mpr ⟨lw_p23, List.forall_mem_cons.mpr ⟨lw_p24, List.forall_mem_cons.mpr ⟨lw_p25, List.forall_mem_cons.mpr ⟨lw_p26, List.forall_mem_cons.mpr ⟨lw_p27, List.forall_mem_cons.mpr ⟨lw_p28, List.forall_mem_cons.mpr ⟨lw_p29, List.forall_mem_cons.mpr ⟨lw_p30, List.forall_mem_cons.mpr ⟨lw_p31, fun _ h => absurd h List.not_mem_nil⟩⟩⟩⟩⟩⟩⟩⟩⟩⟩⟩⟩⟩⟩⟩⟩
theorem lw_p32 : lw_okq (⟨"SlabImageModel", "writeVariable", "(II)V"⟩, 26) := ⟨⟨by decide +kernel, by decide +kernel⟩, List.mem_of_getElem? (i := 595) (by decide +kernel), List.mem_of_getElem? (i := 880) (by decide +kernel), List.mem_of_getElem? (i := 881) (by decide +kernel)⟩
theorem lw_p33 : lw_okq (⟨"SlabImageModel", "writeCells", "(IIIZ)V"⟩, 26) := ⟨⟨by decide +kernel, by decide +kernel⟩, List.mem_of_getElem? (i := 595) (by decide +kernel), List.mem_of_getElem? (i := 884) (by decide +kernel), List.mem_of_getElem? (i := 885) (by decide +kernel)⟩
theorem lw_p34 : lw_okq (⟨"SlabImageModel", "readHeader", "(I)Z"⟩, 26) := ⟨⟨by decide +kernel, by decide +kernel⟩, List.mem_of_getElem? (i := 595) (by decide +kernel), List.mem_of_getElem? (i := 903) (by decide +kernel), List.mem_of_getElem? (i := 904) (by decide +kernel)⟩
theorem lw_p35 : lw_okq (⟨"SlabImageModel", "read", "(I)I"⟩, 26) := ⟨⟨by decide +kernel, by decide +kernel⟩, List.mem_of_getElem? (i := 595) (by decide +kernel), List.mem_of_getElem? (i := 907) (by decide +kernel), List.mem_of_getElem? (i := 908) (by decide +kernel)⟩
theorem lw_p36 : lw_okq (⟨"SlabImageModel", "readDimensions", "(I)Z"⟩, 26) := ⟨⟨by decide +kernel, by decide +kernel⟩, List.mem_of_getElem? (i := 595) (by decide +kernel), List.mem_of_getElem? (i := 911) (by decide +kernel), List.mem_of_getElem? (i := 912) (by decide +kernel)⟩
theorem lw_p37 : lw_okq (⟨"SlabImageModel", "readCount", "(I)I"⟩, 26) := ⟨⟨by decide +kernel, by decide +kernel⟩, List.mem_of_getElem? (i := 595) (by decide +kernel), List.mem_of_getElem? (i := 915) (by decide +kernel), List.mem_of_getElem? (i := 916) (by decide +kernel)⟩
theorem lw_p38 : lw_okq (⟨"SlabImageModel", "readName", "()I"⟩, 26) := ⟨⟨by decide +kernel, by decide +kernel⟩, List.mem_of_getElem? (i := 595) (by decide +kernel), List.mem_of_getElem? (i := 919) (by decide +kernel), List.mem_of_getElem? (i := 920) (by decide +kernel)⟩
theorem lw_p39 : lw_okq (⟨"SlabImageModel", "readList", "(II)Z"⟩, 26) := ⟨⟨by decide +kernel, by decide +kernel⟩, List.mem_of_getElem? (i := 595) (by decide +kernel), List.mem_of_getElem? (i := 923) (by decide +kernel), List.mem_of_getElem? (i := 924) (by decide +kernel)⟩
theorem lw_p40 : lw_okq (⟨"SlabImageModel", "readOf", "(I)I"⟩, 26) := ⟨⟨by decide +kernel, by decide +kernel⟩, List.mem_of_getElem? (i := 595) (by decide +kernel), List.mem_of_getElem? (i := 927) (by decide +kernel), List.mem_of_getElem? (i := 928) (by decide +kernel)⟩
theorem lw_p41 : lw_okq (⟨"SlabImageModel", "readVariable", "(II)Z"⟩, 26) := ⟨⟨by decide +kernel, by decide +kernel⟩, List.mem_of_getElem? (i := 595) (by decide +kernel), List.mem_of_getElem? (i := 931) (by decide +kernel), List.mem_of_getElem? (i := 932) (by decide +kernel)⟩
theorem lw_p42 : lw_okq (⟨"SlabImageModel", "readAllCells", "(I)V"⟩, 26) := ⟨⟨by decide +kernel, by decide +kernel⟩, List.mem_of_getElem? (i := 595) (by decide +kernel), List.mem_of_getElem? (i := 935) (by decide +kernel), List.mem_of_getElem? (i := 936) (by decide +kernel)⟩
theorem lw_p43 : lw_okq (⟨"SlabImageModel", "readCells", "(IIIZ)V"⟩, 26) := ⟨⟨by decide +kernel, by decide +kernel⟩, List.mem_of_getElem? (i := 595) (by decide +kernel), List.mem_of_getElem? (i := 939) (by decide +kernel), List.mem_of_getElem? (i := 940) (by decide +kernel)⟩
def lw_privs_3 : List (MethodName × Nat) := [(⟨"SlabImageModel", "writeVariable", "(II)V"⟩, 26), (⟨"SlabImageModel", "writeCells", "(IIIZ)V"⟩, 26), (⟨"SlabImageModel", "readHeader", "(I)Z"⟩, 26), (⟨"SlabImageModel", "read", "(I)I"⟩, 26), (⟨"SlabImageModel", "readDimensions", "(I)Z"⟩, 26), (⟨"SlabImageModel", "readCount", "(I)I"⟩, 26), (⟨"SlabImageModel", "readName", "()I"⟩, 26), (⟨"SlabImageModel", "readList", "(II)Z"⟩, 26), (⟨"SlabImageModel", "readOf", "(I)I"⟩, 26), (⟨"SlabImageModel", "readVariable", "(II)Z"⟩, 26), (⟨"SlabImageModel", "readAllCells", "(I)V"⟩, 26), (⟨"SlabImageModel", "readCells", "(IIIZ)V"⟩, 26)]
theorem lw_r3 : ∀ q ∈ lw_privs_3, lw_okq q := List.forall_mem_cons.mpr ⟨lw_p32, List.forall_mem_cons.mpr ⟨lw_p33, List.forall_mem_cons.mpr ⟨lw_p34, List.forall_mem_cons.mpr ⟨lw_p35, List.forall_mem_cons.mpr ⟨lw_p36, List.forall_mem_cons.mpr ⟨lw_p37, List.forall_mem_cons.mpr ⟨lw_p38, List.forall_mem_cons.mpr ⟨lw_p39, List.forall_mem_cons.mpr ⟨lw_p40, List.forall_mem_cons.mpr ⟨lw_p41, List.forall_mem_cons.mpr ⟨lw_p42, List.forall_mem_cons.mpr ⟨lw_p43, fun _ h => absurd h List.not_mem_nil⟩⟩⟩⟩⟩⟩⟩⟩⟩⟩⟩⟩
def lw_privs : List (MethodName × Nat) := lw_privs_1 ++ (lw_privs_2 ++ (lw_privs_3))
def lw_tbl : List Cond := k2_sels lw_privs ++ tables_1
theorem lw_privs_ok : ∀ q ∈ lw_privs, lw_okq q := by
  show ∀ q ∈ lw_privs_1 ++ (lw_privs_2 ++ (lw_privs_3)), lw_okq q
  exact List.forall_mem_append.mpr ⟨lw_r1, List.forall_mem_append.mpr ⟨lw_r2, lw_r3⟩⟩
end
section
/-! names: classes, their fields, methods (printed by my program out of the listing) -/
def RX0 : String := "SlabImage$AttributeList"
def TX0 : u_T := fun k => match k with
  | 0 => ("SlabImage$AttributeList", "count", "I", false)
  | 1 => ("SlabImage$AttributeList", "names", "[I", true)
  | 2 => ("SlabImage$AttributeList", "types", "[I", true)
  | 3 => ("SlabImage$AttributeList", "firsts", "[I", true)
  | _ => ("SlabImage$AttributeList", "seconds", "[I", true)
def tyX0 : Nat → FieldType := fun k => match k with
  | 0 => .int
  | 1 => .array (.int)
  | 2 => .array (.int)
  | 3 => .array (.int)
  | _ => .array (.int)
theorem nmX0 : ∀ a, a < 5 → ∀ b, b < 5 → a ≠ b → (TX0 a).2.1 ≠ (TX0 b).2.1 := by decide +kernel
theorem tyX0_ok : ∀ k, k < 5 → parseFieldDescriptor (TX0 k).2.2.1 = some (tyX0 k) := by decide +kernel
def RX1 : String := "SlabImage$ByteRow"
def TX1 : u_T := fun k => match k with
  | 0 => ("SlabImage$ByteRow", "bytes", "[B", true)
  | 1 => ("SlabImage$ByteRow", "length", "I", false)
  | _ => ("SlabImage$ByteRow", "cursor", "I", false)
def tyX1 : Nat → FieldType := fun k => match k with
  | 0 => .array (.byte)
  | 1 => .int
  | _ => .int
theorem nmX1 : ∀ a, a < 3 → ∀ b, b < 3 → a ≠ b → (TX1 a).2.1 ≠ (TX1 b).2.1 := by decide +kernel
theorem tyX1_ok : ∀ k, k < 3 → parseFieldDescriptor (TX1 k).2.2.1 = some (tyX1 k) := by decide +kernel
def RX2 : String := "SlabImage$Selection"
def TX2 : u_T := fun k => match k with
  | 0 => ("SlabImage$Selection", "start", "I", false)
  | 1 => ("SlabImage$Selection", "count", "I", false)
  | _ => ("SlabImage$Selection", "stride", "I", false)
def tyX2 : Nat → FieldType := fun k => match k with
  | 0 => .int
  | 1 => .int
  | _ => .int
theorem nmX2 : ∀ a, a < 3 → ∀ b, b < 3 → a ≠ b → (TX2 a).2.1 ≠ (TX2 b).2.1 := by decide +kernel
theorem tyX2_ok : ∀ k, k < 3 → parseFieldDescriptor (TX2 k).2.2.1 = some (tyX2 k) := by decide +kernel
def RX3 : String := "SlabImage$Store"
def TX3 : u_T := fun k => match k with
  | 0 => ("SlabImage$Store", "recordCount", "I", false)
  | 1 => ("SlabImage$Store", "dimensionCount", "I", false)
  | 2 => ("SlabImage$Store", "dimensionNames", "[I", true)
  | 3 => ("SlabImage$Store", "dimensionLengths", "[I", true)
  | 4 => ("SlabImage$Store", "variableCount", "I", false)
  | 5 => ("SlabImage$Store", "variableNames", "[I", true)
  | 6 => ("SlabImage$Store", "variables", "[LSlabImage$Variable;", true)
  | _ => ("SlabImage$Store", "attributes", "LSlabImage$AttributeList;", true)
def tyX3 : Nat → FieldType := fun k => match k with
  | 0 => .int
  | 1 => .int
  | 2 => .array (.int)
  | 3 => .array (.int)
  | 4 => .int
  | 5 => .array (.int)
  | 6 => .array (.object "SlabImage$Variable")
  | _ => .object "SlabImage$AttributeList"
theorem nmX3 : ∀ a, a < 8 → ∀ b, b < 8 → a ≠ b → (TX3 a).2.1 ≠ (TX3 b).2.1 := by decide +kernel
theorem tyX3_ok : ∀ k, k < 8 → parseFieldDescriptor (TX3 k).2.2.1 = some (tyX3 k) := by decide +kernel
def RX4 : String := "SlabImage$Variable"
def TX4 : u_T := fun k => match k with
  | 0 => ("SlabImage$Variable", "type", "I", false)
  | 1 => ("SlabImage$Variable", "firstAxis", "I", false)
  | 2 => ("SlabImage$Variable", "secondAxis", "I", false)
  | 3 => ("SlabImage$Variable", "growing", "Z", false)
  | 4 => ("SlabImage$Variable", "rowCount", "I", false)
  | 5 => ("SlabImage$Variable", "columnCount", "I", false)
  | 6 => ("SlabImage$Variable", "attributes", "LSlabImage$AttributeList;", true)
  | _ => ("SlabImage$Variable", "cells", "[I", true)
def tyX4 : Nat → FieldType := fun k => match k with
  | 0 => .int
  | 1 => .int
  | 2 => .int
  | 3 => .boolean
  | 4 => .int
  | 5 => .int
  | 6 => .object "SlabImage$AttributeList"
  | _ => .array (.int)
theorem nmX4 : ∀ a, a < 8 → ∀ b, b < 8 → a ≠ b → (TX4 a).2.1 ≠ (TX4 b).2.1 := by decide +kernel
theorem tyX4_ok : ∀ k, k < 8 → parseFieldDescriptor (TX4 k).2.2.1 = some (tyX4 k) := by decide +kernel
def RX5 : String := "SlabImage"
def TX5 : u_T := fun k => match k with
  | 0 => ("SlabImage", "store", "LSlabImage$Store;", false)
  | 1 => ("SlabImage", "spare", "LSlabImage$Store;", false)
  | 2 => ("SlabImage", "defining", "Z", false)
  | 3 => ("SlabImage", "rowSelection", "LSlabImage$Selection;", true)
  | 4 => ("SlabImage", "columnSelection", "LSlabImage$Selection;", true)
  | 5 => ("SlabImage", "zeroAlone", "LSlabImage$Selection;", true)
  | 6 => ("SlabImage", "draft", "LSlabImage$ByteRow;", true)
  | _ => ("SlabImage", "image", "LSlabImage$ByteRow;", true)
def tyX5 : Nat → FieldType := fun k => match k with
  | 0 => .object "SlabImage$Store"
  | 1 => .object "SlabImage$Store"
  | 2 => .boolean
  | 3 => .object "SlabImage$Selection"
  | 4 => .object "SlabImage$Selection"
  | 5 => .object "SlabImage$Selection"
  | 6 => .object "SlabImage$ByteRow"
  | _ => .object "SlabImage$ByteRow"
theorem nmX5 : ∀ a, a < 8 → ∀ b, b < 8 → a ≠ b → (TX5 a).2.1 ≠ (TX5 b).2.1 := by decide +kernel
theorem tyX5_ok : ∀ k, k < 8 → parseFieldDescriptor (TX5 k).2.2.1 = some (tyX5 k) := by decide +kernel
def RX6 : String := "SlabImageModel"
def TX6 : u_T := fun k => match k with
  | 0 => ("SlabImageModel", "now", "I", false)
  | 1 => ("SlabImageModel", "data", "Z", false)
  | 2 => ("SlabImageModel", "dimensions", "[I", false)
  | 3 => ("SlabImageModel", "dimName", "[I", false)
  | 4 => ("SlabImageModel", "dimLength", "[I", false)
  | 5 => ("SlabImageModel", "variables", "[I", false)
  | 6 => ("SlabImageModel", "varName", "[I", false)
  | 7 => ("SlabImageModel", "varType", "[I", false)
  | 8 => ("SlabImageModel", "axes", "[I", false)
  | 9 => ("SlabImageModel", "axis", "[I", false)
  | 10 => ("SlabImageModel", "attributes", "[I", false)
  | 11 => ("SlabImageModel", "attName", "[I", false)
  | 12 => ("SlabImageModel", "attType", "[I", false)
  | 13 => ("SlabImageModel", "attX", "[I", false)
  | 14 => ("SlabImageModel", "attY", "[I", false)
  | 15 => ("SlabImageModel", "records", "[I", false)
  | 16 => ("SlabImageModel", "cell", "[I", false)
  | 17 => ("SlabImageModel", "start", "[I", false)
  | 18 => ("SlabImageModel", "count", "[I", false)
  | 19 => ("SlabImageModel", "stride", "[I", false)
  | 20 => ("SlabImageModel", "image", "[I", false)
  | 21 => ("SlabImageModel", "length", "I", false)
  | 22 => ("SlabImageModel", "draft", "[I", false)
  | 23 => ("SlabImageModel", "drafted", "I", false)
  | 24 => ("SlabImageModel", "at", "I", false)
  | _ => ("SlabImageModel", "runsOut", "Z", false)
def tyX6 : Nat → FieldType := fun k => match k with
  | 0 => .int
  | 1 => .boolean
  | 2 => .array (.int)
  | 3 => .array (.int)
  | 4 => .array (.int)
  | 5 => .array (.int)
  | 6 => .array (.int)
  | 7 => .array (.int)
  | 8 => .array (.int)
  | 9 => .array (.int)
  | 10 => .array (.int)
  | 11 => .array (.int)
  | 12 => .array (.int)
  | 13 => .array (.int)
  | 14 => .array (.int)
  | 15 => .array (.int)
  | 16 => .array (.int)
  | 17 => .array (.int)
  | 18 => .array (.int)
  | 19 => .array (.int)
  | 20 => .array (.int)
  | 21 => .int
  | 22 => .array (.int)
  | 23 => .int
  | 24 => .int
  | _ => .boolean
theorem nmX6 : ∀ a, a < 26 → ∀ b, b < 26 → a ≠ b → (TX6 a).2.1 ≠ (TX6 b).2.1 := by decide +kernel
theorem tyX6_ok : ∀ k, k < 26 → parseFieldDescriptor (TX6 k).2.2.1 = some (tyX6 k) := by decide +kernel
def am_sn (i : Nat) : String := match i with
  | 0 => "WIDTH"
  | 1 => "FILL"
  | 2 => "LEAST"
  | _ => "GREATEST"
def my_0 : MethodName := ⟨"SlabImage", "<init>", "()V"⟩
def my_1 : MethodName := ⟨"SlabImage$Store", "<init>", "()V"⟩
def my_2 : MethodName := ⟨"SlabImage$Variable", "<init>", "()V"⟩
def my_3 : MethodName := ⟨"SlabImage$AttributeList", "<init>", "()V"⟩
def my_4 : MethodName := ⟨"SlabImage$Selection", "<init>", "()V"⟩
def my_5 : MethodName := ⟨"SlabImage$ByteRow", "<init>", "()V"⟩
def my_6 : MethodName := ⟨"SlabImage", "dimension", "(II)I"⟩
def my_7 : MethodName := ⟨"SlabImage$Store", "defineDimension", "(II)I"⟩
def my_8 : MethodName := ⟨"SlabImage", "isName", "(I)Z"⟩
def my_9 : MethodName := ⟨"SlabImage", "placeOf", "(I[II)I"⟩
def my_10 : MethodName := ⟨"SlabImage$Store", "hasGrowingDimension", "()Z"⟩
def my_11 : MethodName := ⟨"SlabImage", "variable", "(IIII)I"⟩
def my_12 : MethodName := ⟨"SlabImage$Store", "defineVariable", "(IIII)I"⟩
def my_13 : MethodName := ⟨"SlabImage", "isType", "(I)Z"⟩
def my_14 : MethodName := ⟨"SlabImage$Store", "mayBeAxis", "(I)Z"⟩
def my_15 : MethodName := ⟨"SlabImage$Store", "isDimension", "(I)Z"⟩
def my_16 : MethodName := ⟨"SlabImage$Store", "lengthOf", "(I)I"⟩
def my_17 : MethodName := ⟨"SlabImage$Variable", "shape", "(IIII)V"⟩
def my_18 : MethodName := ⟨"SlabImage$Variable", "fill", "(I)V"⟩
def my_19 : MethodName := ⟨"java/util/Arrays", "fill", "([II)V"⟩
def my_20 : MethodName := ⟨"SlabImage", "attribute", "(IIIII)I"⟩
def my_21 : MethodName := ⟨"SlabImage$Store", "attributesOf", "(I)LSlabImage$AttributeList;"⟩
def my_22 : MethodName := ⟨"SlabImage$Store", "variableAt", "(I)LSlabImage$Variable;"⟩
def my_23 : MethodName := ⟨"SlabImage$AttributeList", "assign", "(IIII)I"⟩
def my_24 : MethodName := ⟨"SlabImage", "isValue", "(II)Z"⟩
def my_25 : MethodName := ⟨"SlabImage", "drop", "(II)I"⟩
def my_26 : MethodName := ⟨"SlabImage$AttributeList", "takeOff", "(I)I"⟩
def my_27 : MethodName := ⟨"SlabImage", "rename", "(ZII)I"⟩
def my_28 : MethodName := ⟨"SlabImage$Store", "renameVariable", "(II)I"⟩
def my_29 : MethodName := ⟨"SlabImage$Store", "changeName", "([IIII)I"⟩
def my_30 : MethodName := ⟨"SlabImage$Store", "renameDimension", "(II)I"⟩
def my_31 : MethodName := ⟨"SlabImage", "seal", "()I"⟩
def my_32 : MethodName := ⟨"SlabImage$Store", "imageBytes", "(J)J"⟩
def my_33 : MethodName := ⟨"SlabImage$Store", "headerBytes", "()I"⟩
def my_34 : MethodName := ⟨"SlabImage$AttributeList", "headerBytes", "()I"⟩
def my_35 : MethodName := ⟨"SlabImage", "padded", "(I)I"⟩
def my_36 : MethodName := ⟨"SlabImage$Variable", "headerBytes", "()I"⟩
def my_37 : MethodName := ⟨"SlabImage$Variable", "axisCount", "()I"⟩
def my_38 : MethodName := ⟨"SlabImage$Store", "paddedBytes", "(IZ)I"⟩
def my_39 : MethodName := ⟨"SlabImage$Variable", "paddedSize", "()I"⟩
def my_40 : MethodName := ⟨"SlabImage$Variable", "bytesOfRow", "()I"⟩
def my_41 : MethodName := ⟨"SlabImage$Store", "recordBytes", "()I"⟩
def my_42 : MethodName := ⟨"SlabImage$Store", "recordVariables", "()I"⟩
def my_43 : MethodName := ⟨"SlabImage", "redefine", "()I"⟩
def my_44 : MethodName := ⟨"SlabImage", "put", "(IIII)I"⟩
def my_45 : MethodName := ⟨"SlabImage$Variable", "admits", "(JJ)Z"⟩
def my_46 : MethodName := ⟨"SlabImage$Store", "growToHold", "(LSlabImage$Variable;J)Z"⟩
def my_47 : MethodName := ⟨"SlabImage$Variable", "setCell", "(III)V"⟩
def my_48 : MethodName := ⟨"SlabImage", "get", "(III)J"⟩
def my_49 : MethodName := ⟨"SlabImage$Store", "holds", "(LSlabImage$Variable;JJ)Z"⟩
def my_50 : MethodName := ⟨"SlabImage$Variable", "cell", "(II)I"⟩
def my_51 : MethodName := ⟨"SlabImage", "select", "(IIII)I"⟩
def my_52 : MethodName := ⟨"SlabImage$Selection", "become", "(III)V"⟩
def my_53 : MethodName := ⟨"SlabImage", "putSlab", "(III)I"⟩
def my_54 : MethodName := ⟨"SlabImage", "rowsOf", "(LSlabImage$Variable;)LSlabImage$Selection;"⟩
def my_55 : MethodName := ⟨"SlabImage", "columnsOf", "(LSlabImage$Variable;)LSlabImage$Selection;"⟩
def my_56 : MethodName := ⟨"SlabImage$Selection", "last", "()J"⟩
def my_57 : MethodName := ⟨"SlabImage", "areValues", "(IIII)Z"⟩
def my_58 : MethodName := ⟨"SlabImage$Variable", "setSlab", "(LSlabImage$Selection;LSlabImage$Selection;II)V"⟩
def my_59 : MethodName := ⟨"SlabImage$Selection", "at", "(I)I"⟩
def my_60 : MethodName := ⟨"SlabImage", "getSlab", "(II)J"⟩
def my_61 : MethodName := ⟨"SlabImage", "records", "()I"⟩
def my_62 : MethodName := ⟨"SlabImage", "size", "()I"⟩
def my_63 : MethodName := ⟨"SlabImage", "begin", "(I)I"⟩
def my_64 : MethodName := ⟨"SlabImage$Store", "beginOf", "(I)I"⟩
def my_65 : MethodName := ⟨"SlabImage", "eight", "(I)J"⟩
def my_66 : MethodName := ⟨"SlabImage$Store", "writeTo", "(LSlabImage$ByteRow;)V"⟩
def my_67 : MethodName := ⟨"SlabImage$ByteRow", "clear", "()V"⟩
def my_68 : MethodName := ⟨"SlabImage$ByteRow", "appendWord", "(I)V"⟩
def my_69 : MethodName := ⟨"SlabImage$ByteRow", "appendNumber", "(II)V"⟩
def my_70 : MethodName := ⟨"SlabImage$ByteRow", "append", "(I)V"⟩
def my_71 : MethodName := ⟨"SlabImage$ByteRow", "appendListHead", "(II)V"⟩
def my_72 : MethodName := ⟨"SlabImage$ByteRow", "appendName", "(I)V"⟩
def my_73 : MethodName := ⟨"SlabImage$AttributeList", "writeTo", "(LSlabImage$ByteRow;)V"⟩
def my_74 : MethodName := ⟨"SlabImage$ByteRow", "appendPadding", "()V"⟩
def my_75 : MethodName := ⟨"SlabImage$Store", "writeVariable", "(LSlabImage$ByteRow;II)V"⟩
def my_76 : MethodName := ⟨"SlabImage$Store", "writeCells", "(LSlabImage$ByteRow;)V"⟩
def my_77 : MethodName := ⟨"SlabImage$Variable", "writeRow", "(LSlabImage$ByteRow;I)V"⟩
def my_78 : MethodName := ⟨"SlabImage$Store", "writeRecord", "(LSlabImage$ByteRow;IZ)V"⟩
def my_79 : MethodName := ⟨"SlabImage$ByteRow", "at", "(I)I"⟩
def my_80 : MethodName := ⟨"SlabImage", "add", "(JI)Z"⟩
def my_81 : MethodName := ⟨"SlabImage", "erase", "()V"⟩
def my_82 : MethodName := ⟨"SlabImage", "open", "()I"⟩
def my_83 : MethodName := ⟨"SlabImage$Store", "clear", "()V"⟩
def my_84 : MethodName := ⟨"SlabImage$AttributeList", "clear", "()V"⟩
def my_85 : MethodName := ⟨"SlabImage$Store", "readFrom", "(LSlabImage$ByteRow;)Z"⟩
def my_86 : MethodName := ⟨"SlabImage$ByteRow", "rewind", "()V"⟩
def my_87 : MethodName := ⟨"SlabImage$ByteRow", "takeWord", "()I"⟩
def my_88 : MethodName := ⟨"SlabImage$ByteRow", "takeNumber", "(I)I"⟩
def my_89 : MethodName := ⟨"SlabImage$Store", "readDimensions", "(LSlabImage$ByteRow;)Z"⟩
def my_90 : MethodName := ⟨"SlabImage$ByteRow", "takeCount", "()I"⟩
def my_91 : MethodName := ⟨"SlabImage$ByteRow", "takeName", "()I"⟩
def my_92 : MethodName := ⟨"SlabImage$AttributeList", "readFrom", "(LSlabImage$ByteRow;)Z"⟩
def my_93 : MethodName := ⟨"SlabImage$ByteRow", "takeValue", "(I)I"⟩
def my_94 : MethodName := ⟨"SlabImage$ByteRow", "takePadding", "()V"⟩
def my_95 : MethodName := ⟨"SlabImage$Store", "readVariables", "(LSlabImage$ByteRow;)Z"⟩
def my_96 : MethodName := ⟨"SlabImage$Store", "readVariable", "(LSlabImage$ByteRow;LSlabImage$AttributeList;)Z"⟩
def my_97 : MethodName := ⟨"SlabImage$Store", "readCells", "(LSlabImage$ByteRow;)V"⟩
def my_98 : MethodName := ⟨"SlabImage$Variable", "readRow", "(LSlabImage$ByteRow;I)V"⟩
def my_99 : MethodName := ⟨"SlabImage$Store", "readRecord", "(LSlabImage$ByteRow;IZ)V"⟩
def my_100 : MethodName := ⟨"SlabImage$ByteRow", "matches", "(LSlabImage$ByteRow;)Z"⟩
def my_101 : MethodName := ⟨"SlabImageModel", "<init>", "()V"⟩
def my_102 : MethodName := ⟨"SlabImageModel", "dimension", "(II)I"⟩
def my_103 : MethodName := ⟨"SlabImageModel", "isName", "(I)Z"⟩
def my_104 : MethodName := ⟨"SlabImageModel", "dimNamed", "(III)Z"⟩
def my_105 : MethodName := ⟨"SlabImageModel", "growing", "(I)I"⟩
def my_106 : MethodName := ⟨"SlabImageModel", "variable", "(IIII)I"⟩
def my_107 : MethodName := ⟨"SlabImageModel", "isDimension", "(I)Z"⟩
def my_108 : MethodName := ⟨"SlabImageModel", "varNamed", "(III)Z"⟩
def my_109 : MethodName := ⟨"SlabImageModel", "blank", "(II)V"⟩
def my_110 : MethodName := ⟨"SlabImageModel", "fill", "(I)I"⟩
def my_111 : MethodName := ⟨"SlabImageModel", "attribute", "(IIIII)I"⟩
def my_112 : MethodName := ⟨"SlabImageModel", "isVariable", "(I)Z"⟩
def my_113 : MethodName := ⟨"SlabImageModel", "fits", "(II)Z"⟩
def my_114 : MethodName := ⟨"SlabImageModel", "find", "(II)I"⟩
def my_115 : MethodName := ⟨"SlabImageModel", "drop", "(II)I"⟩
def my_116 : MethodName := ⟨"SlabImageModel", "rename", "(ZII)I"⟩
def my_117 : MethodName := ⟨"SlabImageModel", "seal", "()I"⟩
def my_118 : MethodName := ⟨"SlabImageModel", "total", "(IJ)J"⟩
def my_119 : MethodName := ⟨"SlabImageModel", "beginOf", "(II)I"⟩
def my_120 : MethodName := ⟨"SlabImageModel", "isRecord", "(II)Z"⟩
def my_121 : MethodName := ⟨"SlabImageModel", "lengthOf", "(III)I"⟩
def my_122 : MethodName := ⟨"SlabImageModel", "headerSize", "(I)I"⟩
def my_123 : MethodName := ⟨"SlabImageModel", "listSize", "(II)I"⟩
def my_124 : MethodName := ⟨"SlabImageModel", "padded", "(II)I"⟩
def my_125 : MethodName := ⟨"SlabImageModel", "cells", "(II)I"⟩
def my_126 : MethodName := ⟨"SlabImageModel", "bytes", "(I)I"⟩
def my_127 : MethodName := ⟨"SlabImageModel", "recordSize", "(I)I"⟩
def my_128 : MethodName := ⟨"SlabImageModel", "recordVariables", "(I)I"⟩
def my_129 : MethodName := ⟨"SlabImageModel", "redefine", "()I"⟩
def my_130 : MethodName := ⟨"SlabImageModel", "put", "(IIII)I"⟩
def my_131 : MethodName := ⟨"SlabImageModel", "there", "(IJJZ)Z"⟩
def my_132 : MethodName := ⟨"SlabImageModel", "grow", "(IJ)Z"⟩
def my_133 : MethodName := ⟨"SlabImageModel", "cellAt", "(IJJ)I"⟩
def my_134 : MethodName := ⟨"SlabImageModel", "get", "(III)J"⟩
def my_135 : MethodName := ⟨"SlabImageModel", "select", "(IIII)I"⟩
def my_136 : MethodName := ⟨"SlabImageModel", "putSlab", "(III)I"⟩
def my_137 : MethodName := ⟨"SlabImageModel", "slabThere", "(IZ)Z"⟩
def my_138 : MethodName := ⟨"SlabImageModel", "many", "(II)I"⟩
def my_139 : MethodName := ⟨"SlabImageModel", "chosen", "(III)J"⟩
def my_140 : MethodName := ⟨"SlabImageModel", "getSlab", "(II)J"⟩
def my_141 : MethodName := ⟨"SlabImageModel", "records", "()I"⟩
def my_142 : MethodName := ⟨"SlabImageModel", "size", "()I"⟩
def my_143 : MethodName := ⟨"SlabImageModel", "begin", "(I)I"⟩
def my_144 : MethodName := ⟨"SlabImageModel", "eight", "(I)J"⟩
def my_145 : MethodName := ⟨"SlabImageModel", "writeImage", "(I)V"⟩
def my_146 : MethodName := ⟨"SlabImageModel", "writeValue", "(II)V"⟩
def my_147 : MethodName := ⟨"SlabImageModel", "write", "(I)V"⟩
def my_148 : MethodName := ⟨"SlabImageModel", "writeCount", "(II)V"⟩
def my_149 : MethodName := ⟨"SlabImageModel", "writeName", "(I)V"⟩
def my_150 : MethodName := ⟨"SlabImageModel", "writeList", "(II)V"⟩
def my_151 : MethodName := ⟨"SlabImageModel", "pad", "(I)V"⟩
def my_152 : MethodName := ⟨"SlabImageModel", "writeVariable", "(II)V"⟩
def my_153 : MethodName := ⟨"SlabImageModel", "writeCells", "(IIIZ)V"⟩
def my_154 : MethodName := ⟨"SlabImageModel", "add", "(JI)Z"⟩
def my_155 : MethodName := ⟨"SlabImageModel", "erase", "()V"⟩
def my_156 : MethodName := ⟨"SlabImageModel", "open", "()I"⟩
def my_157 : MethodName := ⟨"SlabImageModel", "readHeader", "(I)Z"⟩
def my_158 : MethodName := ⟨"SlabImageModel", "read", "(I)I"⟩
def my_159 : MethodName := ⟨"SlabImageModel", "readDimensions", "(I)Z"⟩
def my_160 : MethodName := ⟨"SlabImageModel", "readCount", "(I)I"⟩
def my_161 : MethodName := ⟨"SlabImageModel", "readName", "()I"⟩
def my_162 : MethodName := ⟨"SlabImageModel", "readList", "(II)Z"⟩
def my_163 : MethodName := ⟨"SlabImageModel", "readOf", "(I)I"⟩
def my_164 : MethodName := ⟨"SlabImageModel", "readVariable", "(II)Z"⟩
def my_165 : MethodName := ⟨"SlabImageModel", "readAllCells", "(I)V"⟩
def my_166 : MethodName := ⟨"SlabImageModel", "readCells", "(IIIZ)V"⟩
def my_167 : MethodName := ⟨"SlabImageLaw", "law", "([I)Z"⟩
def am_nestM : List (String × Nat × MethodName × String) := [("SlabImage$Store", 49, my_8, "SlabImage"), ("SlabImage$Store", 53, my_9, "SlabImage"), ("SlabImage$Store", 61, my_13, "SlabImage"), ("SlabImage$AttributeList", 28, my_8, "SlabImage"), ("SlabImage$AttributeList", 32, my_13, "SlabImage"), ("SlabImage$AttributeList", 35, my_24, "SlabImage"), ("SlabImage$AttributeList", 39, my_9, "SlabImage"), ("SlabImage$AttributeList", 46, my_35, "SlabImage"), ("SlabImage$Variable", 71, my_35, "SlabImage"), ("SlabImage$ByteRow", 30, my_35, "SlabImage")]
def am_nestF : List (String × Nat × String × String × String × String) := [("SlabImage$Variable", 42, "SlabImage", "FILL", "[I", "SlabImage"), ("SlabImage$AttributeList", 43, "SlabImage", "WIDTH", "[I", "SlabImage"), ("SlabImage$Variable", 64, "SlabImage", "WIDTH", "[I", "SlabImage"), ("SlabImage$ByteRow", 37, "SlabImage", "WIDTH", "[I", "SlabImage")]
end
section
/-! the pure machine: cells (rows of numbers: kind, length, contents; rows of references; objects: class number, fields), heap (next position, slots made, cells), locals, answers -/
abbrev am_C : Type := (Nat × Nat × (Nat → Int32)) ⊕ ((Nat × (Nat → Option Nat)) ⊕ (Nat × List Value))
abbrev am_H : Type := Nat × Nat × (Nat → Option am_C)
abbrev am_L : Type := List (Option Value)
abbrev am_R : Type := Option Value × am_H
abbrev am_F : Type := am_L → List Value → am_H → Option am_R
abbrev am_K : Type := Nat → Nat → am_F
abbrev am_B : Type := am_K → Nat → am_F
def am_run (T : Nat → am_B) : Nat → am_K
  | 0 => fun _ _ _ _ _ => none
  | n + 1 => fun d lab => T lab (am_run T n) d
def am_set (A : am_H) (p : Nat) (e : am_C) : am_H := (A.1, A.2.1, fun q => if q = p then some e else A.2.2 q)
def am_new (A : am_H) (n : Nat) (e : am_C) : am_H := (A.1 + 1, A.2.1 + n, fun q => if q = A.1 then some e else A.2.2 q)
def am_rv (r : Option Nat) : Value := match r with
  | none => .null
  | some p => .ref p
/-- a store into a local: not behind a long -/
def am_put (l : am_L) (i : Nat) (v : Value) : Option am_L := if i < l.length then (match i with
  | 0 => some (l.set 0 (some v))
  | j + 1 => match l[j]? with
    | some (some (.long _)) => none
    | some (some (.double _)) => none
    | _ => some (l.set (j + 1) (some v))) else none
def am_put2 (l : am_L) (i : Nat) (v : Value) : Option am_L := if i + 1 < l.length then (match am_put l i v with
  | some l' => some (l'.set (i + 1) none)
  | none => none) else none
/-- arguments as locals -/
def am_sl : List Value → am_L
  | [] => []
  | v :: vs => if v.category = 2 then some v :: none :: am_sl vs else some v :: am_sl vs
def am_ent (vs : List Value) (n : Nat) : am_L := am_sl vs ++ List.replicate (n - (am_sl vs).length) none
-- constants
def i_int (v : Int32) (f : am_F) : am_F := fun l s A => f l (.int v :: s) A
def i_long (v : Int64) (f : am_F) : am_F := fun l s A => f l (.long v :: s) A
def i_null (f : am_F) : am_F := fun l s A => f l (.null :: s) A
def i_stat (i : Nat) (f : am_F) : am_F := fun l s A => f l (.ref i :: s) A
-- locals
def i_iload (i : Nat) (f : am_F) : am_F := fun l s A => match l[i]? with
  | some (some (.int x)) => f l (.int x :: s) A
  | _ => none
def i_lload (i : Nat) (f : am_F) : am_F := fun l s A => match l[i]? with
  | some (some (.long x)) => f l (.long x :: s) A
  | _ => none
def i_aload (i : Nat) (f : am_F) : am_F := fun l s A => match l[i]? with
  | some (some (.ref p)) => f l (.ref p :: s) A
  | some (some .null) => f l (.null :: s) A
  | _ => none
def i_istore (i : Nat) (f : am_F) : am_F := fun l s A => match s with
  | .int x :: s => (match am_put l i (.int x) with
    | some l' => f l' s A
    | none => none)
  | _ => none
def i_astore (i : Nat) (f : am_F) : am_F := fun l s A => match s with
  | .ref p :: s => (match am_put l i (.ref p) with
    | some l' => f l' s A
    | none => none)
  | .null :: s => (match am_put l i .null with
    | some l' => f l' s A
    | none => none)
  | _ => none
def i_lstore (i : Nat) (f : am_F) : am_F := fun l s A => match s with
  | .long x :: s => (match am_put2 l i (.long x) with
    | some l' => f l' s A
    | none => none)
  | _ => none
def i_iinc (i : Nat) (n : Int32) (f : am_F) : am_F := fun l s A => match l[i]? with
  | some (some (.int x)) => (match am_put l i (.int (x + n)) with
    | some l' => f l' s A
    | none => none)
  | _ => none
-- arithmetic
def i_ii (op : Int32 → Int32 → Int32) (f : am_F) : am_F := fun l s A => match s with
  | .int y :: .int x :: s => f l (.int (op x y) :: s) A
  | _ => none
def i_idz (op : Int32 → Int32 → Int32) (f : am_F) : am_F := fun l s A => match s with
  | .int y :: .int x :: s => if y = 0 then none else f l (.int (op x y) :: s) A
  | _ => none
def i_i (op : Int32 → Int32) (f : am_F) : am_F := fun l s A => match s with
  | .int x :: s => f l (.int (op x) :: s) A
  | _ => none
def i_ll (op : Int64 → Int64 → Int64) (f : am_F) : am_F := fun l s A => match s with
  | .long y :: .long x :: s => f l (.long (op x y) :: s) A
  | _ => none
def i_lsh (op : Int64 → Int32 → Int64) (f : am_F) : am_F := fun l s A => match s with
  | .int y :: .long x :: s => f l (.long (op x y) :: s) A
  | _ => none
def i_i2l (f : am_F) : am_F := fun l s A => match s with
  | .int x :: s => f l (.long x.toInt64 :: s) A
  | _ => none
def i_l2i (f : am_F) : am_F := fun l s A => match s with
  | .long x :: s => f l (.int x.toInt32 :: s) A
  | _ => none
def i_lcmp (f : am_F) : am_F := fun l s A => match s with
  | .long y :: .long x :: s => f l (.int (lg_cmp x y) :: s) A
  | _ => none
-- stack
def i_dup (f : am_F) : am_F := fun l s A => match s with
  | v :: s => if v.category = 1 then f l (v :: v :: s) A else none
  | _ => none
def i_pop (f : am_F) : am_F := fun l s A => match s with
  | v :: s => if v.category = 1 then f l s A else none
  | _ => none
def i_dup2 (f : am_F) : am_F := fun l s A => match s with
  | v :: w :: s => if v.category = 1 then (if w.category = 1 then f l (v :: w :: v :: w :: s) A else none) else none
  | _ => none
-- branches: where it goes when it holds, and when not
def i_ifeq (t f : am_F) : am_F := fun l s A => match s with
  | .int x :: s => if x = 0 then t l s A else f l s A
  | _ => none
def i_ifne (t f : am_F) : am_F := fun l s A => match s with
  | .int x :: s => if ¬ x = 0 then t l s A else f l s A
  | _ => none
def i_iflt (t f : am_F) : am_F := fun l s A => match s with
  | .int x :: s => if x < 0 then t l s A else f l s A
  | _ => none
def i_ifge (t f : am_F) : am_F := fun l s A => match s with
  | .int x :: s => if 0 ≤ x then t l s A else f l s A
  | _ => none
def i_ifgt (t f : am_F) : am_F := fun l s A => match s with
  | .int x :: s => if 0 < x then t l s A else f l s A
  | _ => none
def i_ifle (t f : am_F) : am_F := fun l s A => match s with
  | .int x :: s => if x ≤ 0 then t l s A else f l s A
  | _ => none
def i_cmpeq (t f : am_F) : am_F := fun l s A => match s with
  | .int y :: .int x :: s => if x = y then t l s A else f l s A
  | _ => none
def i_cmpne (t f : am_F) : am_F := fun l s A => match s with
  | .int y :: .int x :: s => if ¬ x = y then t l s A else f l s A
  | _ => none
def i_cmplt (t f : am_F) : am_F := fun l s A => match s with
  | .int y :: .int x :: s => if x < y then t l s A else f l s A
  | _ => none
def i_cmpge (t f : am_F) : am_F := fun l s A => match s with
  | .int y :: .int x :: s => if y ≤ x then t l s A else f l s A
  | _ => none
def i_cmpgt (t f : am_F) : am_F := fun l s A => match s with
  | .int y :: .int x :: s => if y < x then t l s A else f l s A
  | _ => none
def i_cmple (t f : am_F) : am_F := fun l s A => match s with
  | .int y :: .int x :: s => if x ≤ y then t l s A else f l s A
  | _ => none
def i_ifnull (t f : am_F) : am_F := fun l s A => match s with
  | .null :: s => t l s A
  | .ref _ :: s => f l s A
  | _ => none
def i_ifnonnull (t f : am_F) : am_F := fun l s A => match s with
  | .ref _ :: s => t l s A
  | .null :: s => f l s A
  | _ => none
/-- a switch over 0 .. n - 1 -/
def i_switch (ts : List am_F) (dflt : am_F) : am_F := fun l s A => match s with
  | .int x :: s => if x < 0 then dflt l s A else (match ts[x.toNatClampNeg]? with
    | some t => t l s A
    | none => dflt l s A)
  | _ => none
-- cells by kind
def am_obj (A : am_H) (p ci : Nat) : Option (List Value) := match A.2.2 p with
  | some (.inr (.inr (c, fs))) => if c = ci then some fs else none
  | _ => none
def am_row (A : am_H) (p kd : Nat) : Option (Nat × (Nat → Int32)) := match A.2.2 p with
  | some (.inl (k, n, g)) => if k = kd then some (n, g) else none
  | _ => none
def am_refs (A : am_H) (p : Nat) : Option (Nat × (Nat → Option Nat)) := match A.2.2 p with
  | some (.inr (.inl (n, g))) => some (n, g)
  | _ => none
def am_len (A : am_H) (p : Nat) : Option Nat := match A.2.2 p with
  | some (.inl (_, n, _)) => some n
  | some (.inr (.inl (n, _))) => some n
  | _ => none
def am_ix (i : Int32) (n : Nat) : Option Nat := if i < 0 then none else if i.toNatClampNeg < n then some i.toNatClampNeg else none
/-- positions from 5 on may be written -/
def am_own (p : Nat) : Option Unit := if 5 ≤ p then some () else none
-- fields
def i_getf (ci k : Nat) (f : am_F) : am_F := fun l s A => match s with
  | .ref p :: s => (am_obj A p ci).bind fun fs => (fs[k]?).bind fun v => f l (v :: s) A
  | _ => none
def am_wr (ci k : Nat) (v : Value) (f : am_F) (p : Nat) : am_F := fun l s A =>
  (am_obj A p ci).bind fun fs => (fs[k]?).bind fun _ => (am_own p).bind fun _ => f l s (am_set A p (.inr (.inr (ci, fs.set k v))))
def i_putI (ci k : Nat) (f : am_F) : am_F := fun l s A => match s with
  | .int x :: .ref p :: s => am_wr ci k (.int x) f p l s A
  | _ => none
def i_putZ (ci k : Nat) (f : am_F) : am_F := fun l s A => match s with
  | .int x :: .ref p :: s => if x = 0 ∨ x = 1 then am_wr ci k (.int x) f p l s A else none
  | _ => none
def i_putR (ci k : Nat) (f : am_F) : am_F := fun l s A => match s with
  | .ref q :: .ref p :: s => am_wr ci k (.ref q) f p l s A
  | _ => none
-- rows
def i_iald (kd : Nat) (f : am_F) : am_F := fun l s A => match s with
  | .int i :: .ref p :: s => (am_row A p kd).bind fun a => (am_ix i a.1).bind fun j => f l (.int (a.2 j) :: s) A
  | _ => none
def i_iast (kd : Nat) (nar : Int32 → Int32) (f : am_F) : am_F := fun l s A => match s with
  | .int x :: .int i :: .ref p :: s => (am_row A p kd).bind fun a => (am_ix i a.1).bind fun j => (am_own p).bind fun _ => f l s (am_set A p (.inl (kd, a.1, upd a.2 j (nar x))))
  | _ => none
def i_aald (f : am_F) : am_F := fun l s A => match s with
  | .int i :: .ref p :: s => (am_refs A p).bind fun a => (am_ix i a.1).bind fun j => f l (am_rv (a.2 j) :: s) A
  | _ => none
def i_aast (ci : Nat) (f : am_F) : am_F := fun l s A => match s with
  | .ref q :: .int i :: .ref p :: s => (am_refs A p).bind fun a => (am_obj A q ci).bind fun _ => (am_ix i a.1).bind fun j => (am_own p).bind fun _ => f l s (am_set A p (.inr (.inl (a.1, va_up a.2 j (some q)))))
  | _ => none
def i_alen (f : am_F) : am_F := fun l s A => match s with
  | .ref p :: s => (am_len A p).bind fun n => f l (.int (Int32.ofNat n) :: s) A
  | _ => none
/-- new rows: of at most 100000 places -/
def i_newi (kd : Nat) (f : am_F) : am_F := fun l s A => match s with
  | .int n :: s => (am_ix n 100000).bind fun N => f l (.ref A.1 :: s) (am_new A N (.inl (kd, N, fun _ => 0)))
  | _ => none
def i_newq (f : am_F) : am_F := fun l s A => match s with
  | .int n :: s => (am_ix n 100000).bind fun N => f l (.ref A.1 :: s) (am_new A N (.inr (.inl (N, fun _ => none))))
  | _ => none
def i_new (ci : Nat) (fs : List Value) (f : am_F) : am_F := fun l s A => f l (.ref A.1 :: s) (am_new A fs.length (.inr (.inr (ci, fs))))
-- Object.<init>
def i_obj (d : Nat) (f : am_F) : am_F := fun l s A => match d with
  | 0 => none
  | _ + 1 => match s with
    | .ref _ :: s => if (s.map fun v => v.category).sum ≤ 8 then f l s A else none
    | _ => none
-- calls: na arguments (with the receiver), nL locals of the callee
def i_call (k : am_K) (d lab na nL : Nat) (f : am_F) : am_F := fun l s A => match d with
  | 0 => none
  | d' + 1 => if na ≤ s.length ∧ ((s.drop na).map fun v => v.category).sum ≤ 8 ∧ (am_sl (s.take na).reverse).length ≤ nL then (k d' lab (am_ent (s.take na).reverse nL) [] A).bind fun r => f l (r.1.toList ++ s.drop na) r.2 else none
/-- the receiver is an object of that class -/
def i_recv (ci na : Nat) (f : am_F) : am_F := fun l s A => match s[na]? with
  | some (.ref p) => (am_obj A p ci).bind fun _ => f l s A
  | _ => none
-- ends
def i_iret : am_F := fun _ s A => match s with
  | [.int x] => some (some (.int x), A)
  | _ => none
def i_zret : am_F := fun _ s A => match s with
  | [.int x] => if x = 0 ∨ x = 1 then some (some (.int x), A) else none
  | _ => none
def i_lret : am_F := fun _ s A => match s with
  | [.long x] => some (some (.long x), A)
  | _ => none
def i_aret : am_F := fun _ s A => match s with
  | [.ref p] => some (some (.ref p), A)
  | [.null] => some (some .null, A)
  | _ => none
def i_vret : am_F := fun _ s A => match s with
  | [] => some (none, A)
  | _ => none
end
section
/-! how positions, values and cells of the pure machine stand for those of the machine -/
def am_el : String := RX4
abbrev am_cl : List vw_C := [(RX0, TX0, 5), (RX1, TX1, 3), (RX2, TX2, 3), (RX3, TX3, 8), (RX4, TX4, 8), (RX5, TX5, 8), (RX6, TX6, 26)]
def am_ws : List Cond := lw_tbl.filter goodWord
theorem am_good {L : List Cond} (h : ∀ w ∈ L, w ∈ am_ws) : GoodIn am_ws L := fun w hw => ⟨h w hw, good_of_word (List.mem_filter.mp (h w hw)).2⟩
theorem am_in {w : Cond} (i : Nat) (h : lw_tbl[i]? = some w) (hg : goodWord w = true) : w ∈ am_ws := List.mem_filter.mpr ⟨List.mem_of_getElem? h, hg⟩
def am_ty (kd : Nat) : FieldType := match kd with
  | 0 => .int
  | _ => .byte
def am_ad (sA : Nat → Nat) (z p : Nat) : Nat := if p < 5 then sA p else z + (p - 5)
def am_tr (sA : Nat → Nat) (z : Nat) (v : Value) : Value := match v with
  | .ref p => .ref (am_ad sA z p)
  | v => v
theorem am_tr_cat (sA : Nat → Nat) (z : Nat) (v : Value) : (am_tr sA z v).category = v.category := by cases v <;> rfl
theorem am_cats (sA : Nat → Nat) (z : Nat) (st : List Value) : ((st.map (am_tr sA z)).map fun v => v.category).sum = (st.map fun v => v.category).sum := by
  rw [List.map_map]
  congr 1
  exact List.map_congr_left fun v _ => am_tr_cat sA z v
theorem am_ad_ne {sA : Nat → Nat} {z : Nat} (hs : ∀ p, p < 5 → sA p < z) {p q : Nat} (hp : 5 ≤ p) (hne : q ≠ p) : am_ad sA z q ≠ am_ad sA z p := by
  unfold am_ad
  rw [if_neg (Nat.not_lt.mpr hp)]
  by_cases h : q < 5
  · rw [if_pos h]
    have := hs q h
    omega
  · rw [if_neg h]
    omega
theorem am_ad_ge {sA : Nat → Nat} {z p : Nat} (hp : 5 ≤ p) : z ≤ am_ad sA z p := by
  unfold am_ad
  rw [if_neg (Nat.not_lt.mpr hp)]
  omega
def am_at (dC : Nat → ClassId) (dI : Nat → Nat → Nat) (sA : Nat → Nat) (z : Nat) (U : State) (a : Nat) (e : am_C) (H : Heap) : Prop := match e with
  | .inl (kd, n, f) => ∃ cell : Cell, H[a]? = some cell ∧ U.isArrayOf cell (am_ty kd) ∧ cell.vm ≠ .unknown ∧ n ≤ cell.slots.size ∧ cell.slots.size.toInt32 = Int32.ofNat n ∧ ∀ j : Nat, j < n → cell.slots[j]? = some (.int (f j))
  | .inr (.inl (n, g)) => ∃ (cell : Cell) (kA : Class) (comp : ClassId), H[a]? = some cell ∧ cell.vm = .none ∧ U.vm.classes[cell.cls]? = some kA ∧ kA.kind = .array comp (.object am_el) ∧ U.vm.findClass am_el = some comp ∧ cell.slots.size = n ∧ ∀ j : Nat, j < n → cell.slots[j]? = some (am_tr sA z (am_rv (g j)))
  | .inr (.inr (ci, fs)) => ∃ r : vw_C, am_cl[ci]? = some r ∧ t_OB a (dC ci) r.2.2 (dI ci) H (vp_V (fs.map (am_tr sA z)))
theorem am_at.lt {dC : Nat → ClassId} {dI : Nat → Nat → Nat} {sA : Nat → Nat} {z : Nat} {U : State} {a : Nat} {e : am_C} {H : Heap} (h : am_at dC dI sA z U a e H) : a < H.size := by
  rcases e with ⟨kd, n, f⟩ | ⟨n, g⟩ | ⟨ci, fs⟩
  · obtain ⟨cell, h1, -⟩ := h
    exact (Array.getElem?_eq_some_iff.mp h1).1
  · obtain ⟨cell, kA, comp, h1, -⟩ := h
    exact (Array.getElem?_eq_some_iff.mp h1).1
  · obtain ⟨r, -, cell, h1, -⟩ := h
    exact (Array.getElem?_eq_some_iff.mp h1).1
theorem am_at.kept {dC : Nat → ClassId} {dI : Nat → Nat → Nat} {sA : Nat → Nat} {z : Nat} {U : State} {a : Nat} {e : am_C} {H H1 : Heap} (h : am_at dC dI sA z U a e H) (hq : H1[a]? = H[a]?) : am_at dC dI sA z U a e H1 := by
  rcases e with ⟨kd, n, f⟩ | ⟨n, g⟩ | ⟨ci, fs⟩
  · obtain ⟨cell, h1, h2⟩ := h
    exact ⟨cell, hq.trans h1, h2⟩
  · obtain ⟨cell, kA, comp, h1, h2⟩ := h
    exact ⟨cell, kA, comp, hq.trans h1, h2⟩
  · obtain ⟨r, h1, h2⟩ := h
    exact ⟨r, h1, h2.kept hq⟩
theorem am_at.moved {dC : Nat → ClassId} {dI : Nat → Nat → Nat} {sA : Nat → Nat} {z : Nat} {U V : State} {a : Nat} {e : am_C} {H : Heap} (hvm : U.vm.Alike V.vm) (h : am_at dC dI sA z U a e H) : am_at dC dI sA z V a e H := by
  rcases e with ⟨kd, n, f⟩ | ⟨n, g⟩ | ⟨ci, fs⟩
  · obtain ⟨cell, h1, h2, h3⟩ := h
    exact ⟨cell, h1, State.isArrayOf_alike hvm h2, h3⟩
  · obtain ⟨cell, kA, comp, h1, h2, h3, h4, h5, h6⟩ := h
    obtain ⟨k', hk', he⟩ := hvm.2.2 _ _ h3
    exact ⟨cell, k', comp, h1, h2, hk', by rw [he]; exact h4, by rw [hvm.findClass]; exact h5, h6⟩
  · exact h
/-- the pure heap A stands for the cells from z on (position 5 is the first), and for the old rows 0 .. 4 -/
def am_P (dC : Nat → ClassId) (dI : Nat → Nat → Nat) (sA : Nat → Nat) (z : Nat) (U : State) (A : am_H) (H : Heap) : Prop := 5 ≤ A.1 ∧ H.size + 5 = z + A.1 ∧ ∀ (p : Nat) (e : am_C), A.2.2 p = some e → p < A.1 ∧ am_at dC dI sA z U (am_ad sA z p) e H
theorem am_P.moved {dC : Nat → ClassId} {dI : Nat → Nat → Nat} {sA : Nat → Nat} {z : Nat} {U V : State} {A : am_H} {H : Heap} (hvm : U.vm.Alike V.vm) (h : am_P dC dI sA z U A H) : am_P dC dI sA z V A H := ⟨h.1, h.2.1, fun p e hp => ⟨(h.2.2 p e hp).1, (h.2.2 p e hp).2.moved hvm⟩⟩
theorem am_P.set {dC : Nat → ClassId} {dI : Nat → Nat → Nat} {sA : Nat → Nat} {z : Nat} {U : State} {A : am_H} {H H1 : Heap} {p : Nat} {e0 e : am_C} (hs : ∀ p, p < 5 → sA p < z) (h : am_P dC dI sA z U A H) (hp : A.2.2 p = some e0) (h5 : 5 ≤ p) (hz : H1.size = H.size) (ho : ∀ q, q ≠ am_ad sA z p → H1[q]? = H[q]?) (he : am_at dC dI sA z U (am_ad sA z p) e H1) : am_P dC dI sA z U (am_set A p e) H1 := by
  refine ⟨h.1, by rw [hz]; exact h.2.1, fun q x hq => ?_⟩
  by_cases hqp : q = p
  · subst hqp
    have hx : e = x := by simpa [am_set] using hq
    subst hx
    exact ⟨(h.2.2 _ _ hp).1, he⟩
  · have hq' : A.2.2 q = some x := by simpa [am_set, hqp] using hq
    obtain ⟨g1, g2⟩ := h.2.2 q x hq'
    exact ⟨g1, g2.kept (ho _ (am_ad_ne hs h5 hqp))⟩
theorem am_P.new {dC : Nat → ClassId} {dI : Nat → Nat → Nat} {sA : Nat → Nat} {z : Nat} {U : State} {A : am_H} {H H1 : Heap} {n : Nat} {e : am_C} (h : am_P dC dI sA z U A H) (hz : H1.size = H.size + 1) (ho : ∀ q, q < H.size → H1[q]? = H[q]?) (he : am_at dC dI sA z U H.size e H1) : am_P dC dI sA z U (am_new A n e) H1 := by
  obtain ⟨h1, h2, h3⟩ := h
  have ha : am_ad sA z A.1 = H.size := by
    unfold am_ad
    rw [if_neg (Nat.not_lt.mpr h1)]
    omega
  refine ⟨by show 5 ≤ A.1 + 1; omega, by show H1.size + 5 = z + (A.1 + 1); omega, fun q x hq => ?_⟩
  by_cases hqp : q = A.1
  · subst hqp
    have hx : e = x := by simpa [am_new] using hq
    subst hx
    exact ⟨Nat.lt_succ_self _, by rw [ha]; exact he⟩
  · have hq' : A.2.2 q = some x := by simpa [am_new, hqp] using hq
    obtain ⟨g1, g2⟩ := h3 q x hq'
    exact ⟨Nat.lt_succ_of_lt g1, g2.kept (ho _ g2.lt)⟩
theorem am_ad_top {dC : Nat → ClassId} {dI : Nat → Nat → Nat} {sA : Nat → Nat} {z : Nat} {U : State} {A : am_H} {H : Heap} (h : am_P dC dI sA z U A H) : am_ad sA z A.1 = H.size := by
  obtain ⟨h1, h2, h3⟩ := h
  unfold am_ad
  rw [if_neg (Nat.not_lt.mpr h1)]
  omega
theorem am_obj_at {A : am_H} {p ci : Nat} {fs : List Value} (h : am_obj A p ci = some fs) : A.2.2 p = some (.inr (.inr (ci, fs))) := by
  unfold am_obj at h
  split at h
  · rename_i c fs' he
    split at h
    · rename_i hc
      subst hc
      cases h
      exact he
    · cases h
  · cases h
theorem am_row_at {A : am_H} {p kd : Nat} {a : Nat × (Nat → Int32)} (h : am_row A p kd = some a) : A.2.2 p = some (.inl (kd, a.1, a.2)) := by
  unfold am_row at h
  split at h
  · rename_i c n g he
    split at h
    · rename_i hc
      subst hc
      cases h
      exact he
    · cases h
  · cases h
theorem am_refs_at {A : am_H} {p : Nat} {a : Nat × (Nat → Option Nat)} (h : am_refs A p = some a) : A.2.2 p = some (.inr (.inl (a.1, a.2))) := by
  unfold am_refs at h
  split at h
  · rename_i n g he
    cases h
    exact he
  · cases h
theorem am_ix_at {i : Int32} {n j : Nat} (h : am_ix i n = some j) : ¬ i < 0 ∧ i.toNatClampNeg = j ∧ j < n := by
  unfold am_ix at h
  split at h
  · cases h
  · split at h
    · cases h
      exact ⟨by assumption, rfl, by assumption⟩
    · cases h
theorem am_own_at {p : Nat} {u : Unit} (h : am_own p = some u) : 5 ≤ p := by
  unfold am_own at h
  split at h
  · assumption
  · cases h
/-! the nest mates' words, the statics, the classes -/
def am_G (dC : Nat → ClassId) (dI : Nat → Nat → Nat) (sA : Nat → Nat) (z : Nat) (U : State) : Prop :=
  va_K (dC, dI) am_cl [] U ∧ (∀ q ∈ am_nestM, va_Nw (.methodLinkNest q.1 q.2.1 q.2.2.1 q.2.2.2) U) ∧ (∀ q ∈ am_nestF, va_Nw (.fieldLinkNest q.1 q.2.1 q.2.2.1 q.2.2.2.1 q.2.2.2.2.1 q.2.2.2.2.2) U) ∧ va_AO am_el U ∧ (∀ p, p < 5 → sA p < z) ∧ ∀ i, i < 4 → va_Z RX5 (am_sn i) "[I" (.ref (sA i)) (fun q => z ≤ q) U U.heap
theorem am_G.warm {dC : Nat → ClassId} {dI : Nat → Nat → Nat} {sA : Nat → Nat} {z : Nat} {s U : State} (h : am_G dC dI sA z s) (hW : s.WarmedH U.vm) (hk : ∀ q, q < z → U.heap[q]? = s.heap[q]?) : am_G dC dI sA z U :=
  ⟨va_K.moved hW.alike h.1, fun q hq => va_Nw.warmM hW (h.2.1 q hq), fun q hq => va_Nw.warmF hW (h.2.2.1 q hq), va_AO.moved hW.alike h.2.2.2.1, h.2.2.2.2.1, fun i hi => va_Z.kept (va_Z.moved hW.alike (h.2.2.2.2.2 i hi)) (fun a _ ha => hk a (Nat.not_le.mp ha))⟩
theorem am_G.calling {dC : Nat → ClassId} {dI : Nat → Nat → Nat} {sA : Nat → Nat} {z : Nat} {U : State} (h : am_G dC dI sA z U) (g : JFrame) (mk : MethodId) (a : Array Value) : am_G dC dI sA z (U.calling g mk a) :=
  ⟨va_K.moved (u := U) (U := U.calling g mk a) (Vm.Alike.refl U.vm) h.1, fun q hq => va_Nw.same rfl (u := U) (U := U.calling g mk a) rfl (h.2.1 q hq), fun q hq => va_Nw.same rfl (u := U) (U := U.calling g mk a) rfl (h.2.2.1 q hq), va_AO.moved (u := U) (U := U.calling g mk a) (Vm.Alike.refl U.vm) h.2.2.2.1, h.2.2.2.2.1, fun i hi => va_Z.moved (u := U) (U := U.calling g mk a) (Vm.Alike.refl U.vm) (h.2.2.2.2.2 i hi)⟩
/-! locals -/
def am_LR (sA : Nat → Nat) (z : Nat) (lo : am_L) (ls : Array Slot) : Prop := ls.size = lo.length ∧ lv_wf ls ∧ ∀ (i : Nat) (v : Value), lo[i]? = some (some v) → ls[i]? = some (.val (am_tr sA z v))
def am_ps (sA : Nat → Nat) (z : Nat) (lo : am_L) : List (Nat × Value) := (List.range lo.length).filterMap (fun i => match lo[i]? with
  | some (some v) => some (i, am_tr sA z v)
  | _ => none)
theorem am_ps_mem {sA : Nat → Nat} {z : Nat} {lo : am_L} {i : Nat} {v : Value} (h : lo[i]? = some (some v)) : (i, am_tr sA z v) ∈ am_ps sA z lo := by
  refine List.mem_filterMap.mpr ⟨i, List.mem_range.mpr (List.getElem?_eq_some_iff.mp h).1, ?_⟩
  simp only [h]
theorem am_LR.has {sA : Nat → Nat} {z : Nat} {lo : am_L} {ls : Array Slot} (h : am_LR sA z lo ls) : lv_has ls lo.length (am_ps sA z lo) := by
  refine ⟨h.1, h.2.1, fun q hq => ?_⟩
  obtain ⟨i, -, hi⟩ := List.mem_filterMap.mp hq
  split at hi
  · rename_i v hv
    cases hi
    exact h.2.2 i v hv
  · cases hi
theorem am_put_at {lo lo' : am_L} {i : Nat} {v : Value} (h : am_put lo i v = some lo') : i < lo.length ∧ lo' = lo.set i (some v) ∧ ∀ (j : Nat) (w : Value), j + 1 = i → lo[j]? = some (some w) → w.category = 1 := by
  unfold am_put at h
  split at h
  · rename_i hi
    cases i with
    | zero =>
      simp only [Option.some.injEq] at h
      exact ⟨hi, h.symm, fun j w hj _ => by omega⟩
    | succ k =>
      simp only at h
      refine ⟨hi, ?_, ?_⟩
      · split at h
        · cases h
        · cases h
        · exact (Option.some.inj h).symm
      · intro j w hj hw
        have hjk : j = k := by omega
        subst hjk
        cases w with
        | long x => rw [hw] at h; simp at h
        | double x => rw [hw] at h; simp at h
        | _ => rfl
  · cases h
theorem am_LR.put {sA : Nat → Nat} {z : Nat} {lo lo' : am_L} {i : Nat} {v : Value} {ls' : Array Slot} (hp : am_put lo i v = some lo') (h : lv_has ls' lo.length ((i, am_tr sA z v) :: (am_ps sA z lo).filter (fun q => !(q.1 == i) && !(q.1 + 1 == i && q.2.category == 2)))) : am_LR sA z lo' ls' := by
  obtain ⟨h1, h2, h3⟩ := am_put_at hp
  subst h2
  refine ⟨by rw [List.length_set]; exact h.1, h.2.1, fun j w hj => ?_⟩
  by_cases hji : j = i
  · subst hji
    rw [List.getElem?_set_self h1] at hj
    cases hj
    exact h.2.2 (j, am_tr sA z v) List.mem_cons_self
  · rw [List.getElem?_set_ne (fun e => hji e.symm)] at hj
    refine h.2.2 (j, am_tr sA z w) (List.mem_cons_of_mem _ (List.mem_filter.mpr ⟨am_ps_mem hj, ?_⟩))
    by_cases hj1 : j + 1 = i
    · simp [hji, am_tr_cat, h3 j w hj1 hj]
    · simp [hji, hj1]
theorem am_put2_at {lo lo' : am_L} {i : Nat} {v : Value} (h : am_put2 lo i v = some lo') : i + 1 < lo.length ∧ ∃ l1, am_put lo i v = some l1 ∧ lo' = l1.set (i + 1) none := by
  unfold am_put2 at h
  split at h
  · rename_i hi
    split at h
    · rename_i l1 h1
      cases h
      exact ⟨hi, l1, h1, rfl⟩
    · cases h
  · cases h
theorem am_LR.put2 {sA : Nat → Nat} {z : Nat} {lo lo' : am_L} {i : Nat} {v : Value} {ls' : Array Slot} (hp : am_put2 lo i v = some lo') (h : lv_has ls' lo.length ((i, am_tr sA z v) :: (am_ps sA z lo).filter (fun q => !(q.1 == i) && (!(q.1 == i + 1) && !(q.1 + 1 == i && q.2.category == 2))))) : am_LR sA z lo' ls' := by
  obtain ⟨h0, l1, hp1, rfl⟩ := am_put2_at hp
  obtain ⟨h1, rfl, h3⟩ := am_put_at hp1
  refine ⟨by rw [List.length_set, List.length_set]; exact h.1, h.2.1, fun j w hj => ?_⟩
  by_cases hj2 : j = i + 1
  · subst hj2
    rw [List.getElem?_set_self (by rw [List.length_set]; exact h0)] at hj
    cases hj
  · rw [List.getElem?_set_ne (fun e => hj2 e.symm)] at hj
    by_cases hji : j = i
    · subst hji
      rw [List.getElem?_set_self h1] at hj
      cases hj
      exact h.2.2 (j, am_tr sA z v) List.mem_cons_self
    · rw [List.getElem?_set_ne (fun e => hji e.symm)] at hj
      refine h.2.2 (j, am_tr sA z w) (List.mem_cons_of_mem _ (List.mem_filter.mpr ⟨am_ps_mem hj, ?_⟩))
      by_cases hj1 : j + 1 = i
      · simp [hji, hj2, am_tr_cat, h3 j w hj1 hj]
      · simp [hji, hj2, hj1]
theorem am_put_len {lo lo' : am_L} {i : Nat} {v : Value} (h : am_put lo i v = some lo') : lo'.length = lo.length := by
  rw [(am_put_at h).2.1, List.length_set]
theorem am_put2_len {lo lo' : am_L} {i : Nat} {v : Value} (h : am_put2 lo i v = some lo') : lo'.length = lo.length := by
  obtain ⟨-, l1, h1, rfl⟩ := am_put2_at h
  rw [List.length_set, am_put_len h1]
/-! soundness of a point: own class, code, locals, answer's type, constructor -/
abbrev am_I : Type := String × ByteArray × Nat × Option FieldType × Bool
def am_X (I : am_I) (dC : Nat → ClassId) (dI : Nat → Nat → Nat) (sA : Nat → Nat) (z : Nat) (p : Program) (s : State) (m : MethodId) (args : Array Value) (meth : Method) (c : Code) : Prop :=
  p.tables.exec = Jvm.exec ∧ c.code = I.2.1 ∧ c.maxLocals = I.2.2.1 ∧ meth.sig.returnType = I.2.2.2.1 ∧ meth.locks = false ∧ (I.2.2.2.2 = true → meth.name = "<init>") ∧ s.vm.findClass I.1 = some m.cls ∧ (∀ w ∈ am_ws, w.before args s = true) ∧ am_G dC dI sA z s
/-- an answer and the instruction that gives it -/
def am_rok (ret : Option FieldType) (v : Option Value) (ins : Instr) : Prop := (ret = none ∧ v = none ∧ ins = .return_) ∨ (∃ (ty : FieldType) (x : Int32), ret = some ty ∧ v = some (.int x) ∧ narrow ty (.int x) = .int x ∧ ins = .ireturn) ∨ (∃ x : Int64, ret = some .long ∧ v = some (.long x) ∧ ins = .lreturn) ∨ (∃ n : String, ret = some (.object n) ∧ (v = some .null ∨ ∃ q : Nat, v = some (.ref q)) ∧ ins = .areturn)
def am_E (l : Launch) (I : am_I) (dC : Nat → ClassId) (dI : Nat → Nat → Nat) (sA : Nat → Nat) (z : Nat) (p : Program) (e : Env) (R : Room) (s : State) (m : MethodId) (args : Array Value) (below : List Frame) (meth : Method) (c : Code) (mc ms : Nat) (Q : State → Prop) (r : am_R) : Prop :=
  ∀ (pc : Nat) (ls : Array Slot) (H : Heap) (locs : List Loc) (ins : Instr), decode I.2.1 pc = .ok (ins, 1) → am_rok I.2.2.2.1 r.1 ins → am_P dC dI sA z s r.2 H → (∀ q, q < z → H[q]? = s.heap[q]?) → (∀ q ∈ locs, z ≤ q.base) → W p l e R s m args below meth c H locs mc ms Q (F0 m pc ls (r.1.toList.map (am_tr sA z)))
def am_S1 (l : Launch) (I : am_I) (pc d : Nat) (lo : am_L) (st : List Value) (A : am_H) (r : am_R) : Prop := lo.length = I.2.2.1 → A.1 ≤ r.2.1 ∧ A.2.1 ≤ r.2.2.1 ∧
  ∀ (dC : Nat → ClassId) (dI : Nat → Nat → Nat) (sA : Nat → Nat) (z : Nat) (p : Program) (e : Env) (R : Room) (s : State) (m : MethodId) (args : Array Value) (below : List Frame) (meth : Method) (c : Code) (H : Heap) (locs : List Loc) (cells slots : Nat) (ls : Array Slot) (Q : State → Prop) (mc ms : Nat), am_X I dC dI sA z p s m args meth c → am_P dC dI sA z s A H → (∀ q, q < z → H[q]? = s.heap[q]?) → (∀ q ∈ locs, z ≤ q.base) → am_LR sA z lo ls → d ≤ R.frames → d * 37 ≤ R.locals → cells + (r.2.1 - A.1) = mc → slots + (r.2.2.1 - A.2.1) = ms → mc ≤ R.cells → ms ≤ R.slots → am_E l I dC dI sA z p e R s m args below meth c mc ms Q r → W p l e R s m args below meth c H locs cells slots Q (F0 m pc ls (st.map (am_tr sA z)))
def am_S (l : Launch) (I : am_I) (pc d : Nat) (f : am_F) : Prop := ∀ (lo : am_L) (st : List Value) (A : am_H) (r : am_R), f lo st A = some r → am_S1 l I pc d lo st A r
/-- a step, in general -/
theorem am_go0 {l : Launch} {I : am_I} {pc pc' d : Nat} {lo lo' : am_L} {st st' : List Value} {A A' : am_H} {r : am_R} (h : am_S1 l I pc' d lo' st' A' r) (hlen : lo'.length = lo.length) (h1 : A.1 ≤ A'.1) (h2 : A.2.1 ≤ A'.2.1)
    (hs : ∀ (dC : Nat → ClassId) (dI : Nat → Nat → Nat) (sA : Nat → Nat) (z : Nat) (p : Program) (e : Env) (R : Room) (s : State) (m : MethodId) (args : Array Value) (below : List Frame) (meth : Method) (c : Code) (H : Heap) (locs : List Loc) (cells slots : Nat) (ls : Array Slot) (Q : State → Prop), lo.length = I.2.2.1 → am_X I dC dI sA z p s m args meth c → am_P dC dI sA z s A H → (∀ q, q < z → H[q]? = s.heap[q]?) → (∀ q ∈ locs, z ≤ q.base) → am_LR sA z lo ls → d ≤ R.frames → d * 37 ≤ R.locals → cells + (A'.1 - A.1) ≤ R.cells → slots + (A'.2.1 - A.2.1) ≤ R.slots →
      (∀ (H' : Heap) (locs' : List Loc) (ls' : Array Slot), am_P dC dI sA z s A' H' → (∀ q, q < z → H'[q]? = s.heap[q]?) → (∀ q ∈ locs', z ≤ q.base) → am_LR sA z lo' ls' → W p l e R s m args below meth c H' locs' (cells + (A'.1 - A.1)) (slots + (A'.2.1 - A.2.1)) Q (F0 m pc' ls' (st'.map (am_tr sA z)))) → W p l e R s m args below meth c H locs cells slots Q (F0 m pc ls (st.map (am_tr sA z)))) : am_S1 l I pc d lo st A r := by
  intro hlo
  obtain ⟨a1, a2, a3⟩ := h (hlen.trans hlo)
  refine ⟨Nat.le_trans h1 a1, Nat.le_trans h2 a2, ?_⟩
  intro dC dI sA z p e R s m args below meth c H locs cells slots ls Q mc ms hX hP hz hl hL hr1 hr2 e1 e2 e3 e4 hE
  refine hs dC dI sA z p e R s m args below meth c H locs cells slots ls Q hlo hX hP hz hl hL hr1 hr2 (by omega) (by omega) (fun H' locs' ls' hP' hz' hl' hL' => ?_)
  exact a3 dC dI sA z p e R s m args below meth c H' locs' _ _ ls' Q mc ms hX hP' hz' hl' hL' hr1 hr2 (by omega) (by omega) e3 e4 hE
/-- a step that changes the stack alone -/
theorem am_go1 {l : Launch} {I : am_I} {pc pc' d : Nat} {lo : am_L} {st st' : List Value} {A : am_H} {r : am_R} (h : am_S1 l I pc' d lo st' A r)
    (hs : ∀ (dC : Nat → ClassId) (dI : Nat → Nat → Nat) (sA : Nat → Nat) (z : Nat) (p : Program) (e : Env) (R : Room) (s : State) (m : MethodId) (args : Array Value) (below : List Frame) (meth : Method) (c : Code) (H : Heap) (locs : List Loc) (cells slots : Nat) (ls : Array Slot) (Q : State → Prop), am_X I dC dI sA z p s m args meth c → am_P dC dI sA z s A H → (∀ q, q < z → H[q]? = s.heap[q]?) → am_LR sA z lo ls → W p l e R s m args below meth c H locs cells slots Q (F0 m pc' ls (st'.map (am_tr sA z))) → W p l e R s m args below meth c H locs cells slots Q (F0 m pc ls (st.map (am_tr sA z)))) : am_S1 l I pc d lo st A r := by
  refine am_go0 h rfl (Nat.le_refl _) (Nat.le_refl _) ?_
  intro dC dI sA z p e R s m args below meth c H locs cells slots ls Q _ hX hP hz hl hL _ _ _ _ k
  refine hs dC dI sA z p e R s m args below meth c H locs cells slots ls Q hX hP hz hL ?_
  have k1 := k H locs ls hP hz hl hL
  rw [Nat.sub_self, Nat.sub_self, Nat.add_zero, Nat.add_zero] at k1
  exact k1
/-- a step that changes locals too -/
theorem am_goL {l : Launch} {I : am_I} {pc pc' d : Nat} {lo lo' : am_L} {st st' : List Value} {A : am_H} {r : am_R} (h : am_S1 l I pc' d lo' st' A r) (hlen : lo'.length = lo.length)
    (hs : ∀ (dC : Nat → ClassId) (dI : Nat → Nat → Nat) (sA : Nat → Nat) (z : Nat) (p : Program) (e : Env) (R : Room) (s : State) (m : MethodId) (args : Array Value) (below : List Frame) (meth : Method) (c : Code) (H : Heap) (locs : List Loc) (cells slots : Nat) (ls : Array Slot) (Q : State → Prop), am_X I dC dI sA z p s m args meth c → am_LR sA z lo ls → (∀ ls' : Array Slot, am_LR sA z lo' ls' → W p l e R s m args below meth c H locs cells slots Q (F0 m pc' ls' (st'.map (am_tr sA z)))) → W p l e R s m args below meth c H locs cells slots Q (F0 m pc ls (st.map (am_tr sA z)))) : am_S1 l I pc d lo st A r := by
  refine am_go0 h hlen (Nat.le_refl _) (Nat.le_refl _) ?_
  intro dC dI sA z p e R s m args below meth c H locs cells slots ls Q _ hX hP hz hl hL _ _ _ _ k
  refine hs dC dI sA z p e R s m args below meth c H locs cells slots ls Q hX hL (fun ls' hL' => ?_)
  have k1 := k H locs ls' hP hz hl hL'
  rw [Nat.sub_self, Nat.sub_self, Nat.add_zero, Nat.add_zero] at k1
  exact k1
/-- a step that writes one cell -/
theorem am_goW {l : Launch} {I : am_I} {pc pc' d : Nat} {lo : am_L} {st st' : List Value} {A : am_H} {r : am_R} {q0 : Nat} {e0 x : am_C} (h : am_S1 l I pc' d lo st' (am_set A q0 x) r) (hq : A.2.2 q0 = some e0) (h5 : 5 ≤ q0)
    (hs : ∀ (dC : Nat → ClassId) (dI : Nat → Nat → Nat) (sA : Nat → Nat) (z : Nat) (p : Program) (e : Env) (R : Room) (s : State) (m : MethodId) (args : Array Value) (below : List Frame) (meth : Method) (c : Code) (H : Heap) (locs : List Loc) (cells slots : Nat) (ls : Array Slot) (Q : State → Prop), am_X I dC dI sA z p s m args meth c → am_P dC dI sA z s A H → am_at dC dI sA z s (am_ad sA z q0) e0 H → (∀ (H' : Heap) (k : Nat), am_at dC dI sA z s (am_ad sA z q0) x H' → H'.size = H.size → (∀ q, q ≠ am_ad sA z q0 → H'[q]? = H[q]?) → W p l e R s m args below meth c H' (locs ++ [⟨am_ad sA z q0, k⟩]) cells slots Q (F0 m pc' ls (st'.map (am_tr sA z)))) → W p l e R s m args below meth c H locs cells slots Q (F0 m pc ls (st.map (am_tr sA z)))) : am_S1 l I pc d lo st A r := by
  refine am_go0 h rfl (Nat.le_refl _) (Nat.le_refl _) ?_
  intro dC dI sA z p e R s m args below meth c H locs cells slots ls Q _ hX hP hz hl hL _ _ _ _ k
  refine hs dC dI sA z p e R s m args below meth c H locs cells slots ls Q hX hP (hP.2.2 q0 e0 hq).2 (fun H' i hat hsz ho => ?_)
  have hsA := hX.2.2.2.2.2.2.2.2.2.2.2.2.1
  have k1 := k H' (locs ++ [⟨am_ad sA z q0, i⟩]) ls (hP.set hsA hq h5 hsz ho hat) (fun q hq2 => by
    rw [ho q (fun e1 => by
      have := am_ad_ge (sA := sA) (z := z) h5
      omega)]
    exact hz q hq2) (fun q hq2 => by
    rcases List.mem_append.mp hq2 with h3 | h3
    · exact hl q h3
    · rw [List.mem_singleton.mp h3]
      exact am_ad_ge h5) hL
  have e1 : (am_set A q0 x).1 - A.1 = 0 := Nat.sub_self A.1
  have e2 : (am_set A q0 x).2.1 - A.2.1 = 0 := Nat.sub_self A.2.1
  rw [e1, e2, Nat.add_zero, Nat.add_zero] at k1
  exact k1
/-- a step that makes one cell -/
theorem am_goN {l : Launch} {I : am_I} {pc pc' d : Nat} {lo : am_L} {st st' : List Value} {A : am_H} {r : am_R} {n : Nat} {x : am_C} (h : am_S1 l I pc' d lo (.ref A.1 :: st') (am_new A n x) r)
    (hs : ∀ (dC : Nat → ClassId) (dI : Nat → Nat → Nat) (sA : Nat → Nat) (z : Nat) (p : Program) (e : Env) (R : Room) (s : State) (m : MethodId) (args : Array Value) (below : List Frame) (meth : Method) (c : Code) (H : Heap) (locs : List Loc) (cells slots : Nat) (ls : Array Slot) (Q : State → Prop), am_X I dC dI sA z p s m args meth c → cells + 1 ≤ R.cells → slots + n ≤ R.slots → (∀ H' : Heap, am_at dC dI sA z s H.size x H' → H'.size = H.size + 1 → (∀ q, q < H.size → H'[q]? = H[q]?) → W p l e R s m args below meth c H' locs (cells + 1) (slots + n) Q (F0 m pc' ls (.ref H.size :: st'.map (am_tr sA z)))) → W p l e R s m args below meth c H locs cells slots Q (F0 m pc ls (st.map (am_tr sA z)))) : am_S1 l I pc d lo st A r := by
  refine am_go0 h rfl (Nat.le_succ _) (Nat.le_add_right _ _) ?_
  intro dC dI sA z p e R s m args below meth c H locs cells slots ls Q _ hX hP hz hl hL _ _ g1 g2 k
  have e1 : (am_new A n x).1 - A.1 = 1 := Nat.add_sub_cancel_left _ _
  have e2 : (am_new A n x).2.1 - A.2.1 = n := Nat.add_sub_cancel_left _ _
  rw [e1] at g1
  rw [e2] at g2
  refine hs dC dI sA z p e R s m args below meth c H locs cells slots ls Q hX g1 g2 (fun H' hat hsz ho => ?_)
  have hzs : z ≤ H.size := by
    have h1 := hP.1
    have h2 := hP.2.1
    omega
  have k1 := k H' locs ls (hP.new hsz ho hat) (fun q hq => by rw [ho q (by omega)]; exact hz q hq) hl hL
  rw [e1, e2] at k1
  have e3 : am_tr sA z (.ref A.1) = .ref H.size := by
    show Value.ref (am_ad sA z A.1) = _
    rw [am_ad_top hP]
  rw [List.map_cons, e3] at k1
  exact k1
theorem s_iadd {l : Launch} {I : am_I} {pc d : Nat} {f : am_F} (hd : decode I.2.1 pc = .ok (.iadd, 1)) (hf : am_S l I (pc + 1) d f) : am_S l I pc d (i_ii (fun x y => x + y) f) := by
  intro lo st A r hg
  unfold i_ii at hg
  split at hg
  · exact am_go1 (hf _ _ _ _ hg) (fun _ _ _ _ _ _ _ _ _ _ _ _ _ _ _ _ _ _ _ hX _ _ _ k => lv_iadd hX.1 hX.2.1 hd k)
  · cases hg
theorem s_isub {l : Launch} {I : am_I} {pc d : Nat} {f : am_F} (hd : decode I.2.1 pc = .ok (.isub, 1)) (hf : am_S l I (pc + 1) d f) : am_S l I pc d (i_ii (fun x y => x - y) f) := by
  intro lo st A r hg
  unfold i_ii at hg
  split at hg
  · exact am_go1 (hf _ _ _ _ hg) (fun _ _ _ _ _ _ _ _ _ _ _ _ _ _ _ _ _ _ _ hX _ _ _ k => lv_isub hX.1 hX.2.1 hd k)
  · cases hg
theorem s_imul {l : Launch} {I : am_I} {pc d : Nat} {f : am_F} (hd : decode I.2.1 pc = .ok (.imul, 1)) (hf : am_S l I (pc + 1) d f) : am_S l I pc d (i_ii (fun x y => x * y) f) := by
  intro lo st A r hg
  unfold i_ii at hg
  split at hg
  · exact am_go1 (hf _ _ _ _ hg) (fun _ _ _ _ _ _ _ _ _ _ _ _ _ _ _ _ _ _ _ hX _ _ _ k => lv_imul hX.1 hX.2.1 hd k)
  · cases hg
theorem s_iand {l : Launch} {I : am_I} {pc d : Nat} {f : am_F} (hd : decode I.2.1 pc = .ok (.iand, 1)) (hf : am_S l I (pc + 1) d f) : am_S l I pc d (i_ii (fun x y => x &&& y) f) := by
  intro lo st A r hg
  unfold i_ii at hg
  split at hg
  · exact am_go1 (hf _ _ _ _ hg) (fun _ _ _ _ _ _ _ _ _ _ _ _ _ _ _ _ _ _ _ hX _ _ _ k => lv_iand hX.1 hX.2.1 hd k)
  · cases hg
theorem s_ior {l : Launch} {I : am_I} {pc d : Nat} {f : am_F} (hd : decode I.2.1 pc = .ok (.ior, 1)) (hf : am_S l I (pc + 1) d f) : am_S l I pc d (i_ii (fun x y => x ||| y) f) := by
  intro lo st A r hg
  unfold i_ii at hg
  split at hg
  · exact am_go1 (hf _ _ _ _ hg) (fun _ _ _ _ _ _ _ _ _ _ _ _ _ _ _ _ _ _ _ hX _ _ _ k => lv_ior hX.1 hX.2.1 hd k)
  · cases hg
theorem s_ishl {l : Launch} {I : am_I} {pc d : Nat} {f : am_F} (hd : decode I.2.1 pc = .ok (.ishl, 1)) (hf : am_S l I (pc + 1) d f) : am_S l I pc d (i_ii (fun x y => x <<< (y &&& 31)) f) := by
  intro lo st A r hg
  unfold i_ii at hg
  split at hg
  · exact am_go1 (hf _ _ _ _ hg) (fun _ _ _ _ _ _ _ _ _ _ _ _ _ _ _ _ _ _ _ hX _ _ _ k => lv_ishl hX.1 hX.2.1 hd k)
  · cases hg
theorem s_ishr {l : Launch} {I : am_I} {pc d : Nat} {f : am_F} (hd : decode I.2.1 pc = .ok (.ishr, 1)) (hf : am_S l I (pc + 1) d f) : am_S l I pc d (i_ii (fun x y => x >>> (y &&& 31)) f) := by
  intro lo st A r hg
  unfold i_ii at hg
  split at hg
  · exact am_go1 (hf _ _ _ _ hg) (fun _ _ _ _ _ _ _ _ _ _ _ _ _ _ _ _ _ _ _ hX _ _ _ k => lv_ishr hX.1 hX.2.1 hd k)
  · cases hg
theorem s_iushr {l : Launch} {I : am_I} {pc d : Nat} {f : am_F} (hd : decode I.2.1 pc = .ok (.iushr, 1)) (hf : am_S l I (pc + 1) d f) : am_S l I pc d (i_ii (fun x y => (x.toUInt32 >>> (y.toUInt32 &&& Int32.toUInt32 31)).toInt32) f) := by
  intro lo st A r hg
  unfold i_ii at hg
  split at hg
  · exact am_go1 (hf _ _ _ _ hg) (fun _ _ _ _ _ _ _ _ _ _ _ _ _ _ _ _ _ _ _ hX _ _ _ k => lv_iushr hX.1 hX.2.1 hd rfl k)
  · cases hg
theorem s_ladd {l : Launch} {I : am_I} {pc d : Nat} {f : am_F} (hd : decode I.2.1 pc = .ok (.ladd, 1)) (hf : am_S l I (pc + 1) d f) : am_S l I pc d (i_ll (fun x y => x + y) f) := by
  intro lo st A r hg
  unfold i_ll at hg
  split at hg
  · exact am_go1 (hf _ _ _ _ hg) (fun _ _ _ _ _ _ _ _ _ _ _ _ _ _ _ _ _ _ _ hX _ _ _ k => lv_ladd hX.1 hX.2.1 hd k)
  · cases hg
theorem s_lsub {l : Launch} {I : am_I} {pc d : Nat} {f : am_F} (hd : decode I.2.1 pc = .ok (.lsub, 1)) (hf : am_S l I (pc + 1) d f) : am_S l I pc d (i_ll (fun x y => x - y) f) := by
  intro lo st A r hg
  unfold i_ll at hg
  split at hg
  · exact am_go1 (hf _ _ _ _ hg) (fun _ _ _ _ _ _ _ _ _ _ _ _ _ _ _ _ _ _ _ hX _ _ _ k => lv_lsub hX.1 hX.2.1 hd k)
  · cases hg
theorem s_lmul {l : Launch} {I : am_I} {pc d : Nat} {f : am_F} (hd : decode I.2.1 pc = .ok (.lmul, 1)) (hf : am_S l I (pc + 1) d f) : am_S l I pc d (i_ll (fun x y => x * y) f) := by
  intro lo st A r hg
  unfold i_ll at hg
  split at hg
  · exact am_go1 (hf _ _ _ _ hg) (fun _ _ _ _ _ _ _ _ _ _ _ _ _ _ _ _ _ _ _ hX _ _ _ k => lv_lmul hX.1 hX.2.1 hd k)
  · cases hg
theorem s_land {l : Launch} {I : am_I} {pc d : Nat} {f : am_F} (hd : decode I.2.1 pc = .ok (.land, 1)) (hf : am_S l I (pc + 1) d f) : am_S l I pc d (i_ll (fun x y => x &&& y) f) := by
  intro lo st A r hg
  unfold i_ll at hg
  split at hg
  · exact am_go1 (hf _ _ _ _ hg) (fun _ _ _ _ _ _ _ _ _ _ _ _ _ _ _ _ _ _ _ hX _ _ _ k => lv_land hX.1 hX.2.1 hd k)
  · cases hg
theorem s_lor {l : Launch} {I : am_I} {pc d : Nat} {f : am_F} (hd : decode I.2.1 pc = .ok (.lor, 1)) (hf : am_S l I (pc + 1) d f) : am_S l I pc d (i_ll (fun x y => x ||| y) f) := by
  intro lo st A r hg
  unfold i_ll at hg
  split at hg
  · exact am_go1 (hf _ _ _ _ hg) (fun _ _ _ _ _ _ _ _ _ _ _ _ _ _ _ _ _ _ _ hX _ _ _ k => lv_lor hX.1 hX.2.1 hd k)
  · cases hg
theorem s_lshl {l : Launch} {I : am_I} {pc d : Nat} {f : am_F} (hd : decode I.2.1 pc = .ok (.lshl, 1)) (hf : am_S l I (pc + 1) d f) : am_S l I pc d (i_lsh (fun x y => x <<< (y.toInt64 &&& 63)) f) := by
  intro lo st A r hg
  unfold i_lsh at hg
  split at hg
  · exact am_go1 (hf _ _ _ _ hg) (fun _ _ _ _ _ _ _ _ _ _ _ _ _ _ _ _ _ _ _ hX _ _ _ k => lv_lshl hX.1 hX.2.1 hd rfl k)
  · cases hg
theorem s_lshr {l : Launch} {I : am_I} {pc d : Nat} {f : am_F} (hd : decode I.2.1 pc = .ok (.lshr, 1)) (hf : am_S l I (pc + 1) d f) : am_S l I pc d (i_lsh (fun x y => x >>> (y.toInt64 &&& 63)) f) := by
  intro lo st A r hg
  unfold i_lsh at hg
  split at hg
  · exact am_go1 (hf _ _ _ _ hg) (fun _ _ _ _ _ _ _ _ _ _ _ _ _ _ _ _ _ _ _ hX _ _ _ k => lv_lshr hX.1 hX.2.1 hd rfl k)
  · cases hg
theorem s_lushr {l : Launch} {I : am_I} {pc d : Nat} {f : am_F} (hd : decode I.2.1 pc = .ok (.lushr, 1)) (hf : am_S l I (pc + 1) d f) : am_S l I pc d (i_lsh (fun x y => (x.toUInt64 >>> (y.toInt64.toUInt64 &&& Int64.toUInt64 63)).toInt64) f) := by
  intro lo st A r hg
  unfold i_lsh at hg
  split at hg
  · exact am_go1 (hf _ _ _ _ hg) (fun _ _ _ _ _ _ _ _ _ _ _ _ _ _ _ _ _ _ _ hX _ _ _ k => lv_lushr hX.1 hX.2.1 hd rfl k)
  · cases hg
theorem s_i2b {l : Launch} {I : am_I} {pc d : Nat} {f : am_F} (hd : decode I.2.1 pc = .ok (.i2b, 1)) (hf : am_S l I (pc + 1) d f) : am_S l I pc d (i_i (fun x => x.toInt8.toInt32) f) := by
  intro lo st A r hg
  unfold i_i at hg
  split at hg
  · exact am_go1 (hf _ _ _ _ hg) (fun _ _ _ _ _ _ _ _ _ _ _ _ _ _ _ _ _ _ _ hX _ _ _ k => lv_i2b hX.1 hX.2.1 hd rfl k)
  · cases hg
theorem s_i2s {l : Launch} {I : am_I} {pc d : Nat} {f : am_F} (hd : decode I.2.1 pc = .ok (.i2s, 1)) (hf : am_S l I (pc + 1) d f) : am_S l I pc d (i_i (fun x => x.toInt16.toInt32) f) := by
  intro lo st A r hg
  unfold i_i at hg
  split at hg
  · exact am_go1 (hf _ _ _ _ hg) (fun _ _ _ _ _ _ _ _ _ _ _ _ _ _ _ _ _ _ _ hX _ _ _ k => lv_i2s hX.1 hX.2.1 hd rfl k)
  · cases hg
theorem s_i2l {l : Launch} {I : am_I} {pc d : Nat} {f : am_F} (hd : decode I.2.1 pc = .ok (.i2l, 1)) (hf : am_S l I (pc + 1) d f) : am_S l I pc d (i_i2l f) := by
  intro lo st A r hg
  unfold i_i2l at hg
  split at hg
  · exact am_go1 (hf _ _ _ _ hg) (fun _ _ _ _ _ _ _ _ _ _ _ _ _ _ _ _ _ _ _ hX _ _ _ k => lv_i2l hX.1 hX.2.1 hd rfl k)
  · cases hg
theorem s_l2i {l : Launch} {I : am_I} {pc d : Nat} {f : am_F} (hd : decode I.2.1 pc = .ok (.l2i, 1)) (hf : am_S l I (pc + 1) d f) : am_S l I pc d (i_l2i f) := by
  intro lo st A r hg
  unfold i_l2i at hg
  split at hg
  · exact am_go1 (hf _ _ _ _ hg) (fun _ _ _ _ _ _ _ _ _ _ _ _ _ _ _ _ _ _ _ hX _ _ _ k => lv_l2i hX.1 hX.2.1 hd rfl k)
  · cases hg
theorem s_lcmp {l : Launch} {I : am_I} {pc d : Nat} {f : am_F} (hd : decode I.2.1 pc = .ok (.lcmp, 1)) (hf : am_S l I (pc + 1) d f) : am_S l I pc d (i_lcmp f) := by
  intro lo st A r hg
  unfold i_lcmp at hg
  split at hg
  · exact am_go1 (hf _ _ _ _ hg) (fun _ _ _ _ _ _ _ _ _ _ _ _ _ _ _ _ _ _ _ hX _ _ _ k => W.lcmp hX.1 hX.2.1 hd k)
  · cases hg
theorem s_idiv {l : Launch} {I : am_I} {pc d : Nat} {f : am_F} (hd : decode I.2.1 pc = .ok (.idiv, 1)) (hf : am_S l I (pc + 1) d f) : am_S l I pc d (i_idz (fun x y => x / y) f) := by
  intro lo st A r hg
  unfold i_idz at hg
  split at hg
  · split at hg
    · cases hg
    · rename_i hne
      exact am_go1 (hf _ _ _ _ hg) (fun _ _ _ _ _ _ _ _ _ _ _ _ _ _ _ _ _ _ _ hX _ _ _ k => lv_idiv hX.1 hX.2.1 hd hne k)
  · cases hg
theorem s_irem {l : Launch} {I : am_I} {pc d : Nat} {f : am_F} (hd : decode I.2.1 pc = .ok (.irem, 1)) (hf : am_S l I (pc + 1) d f) : am_S l I pc d (i_idz (fun x y => x - x / y * y) f) := by
  intro lo st A r hg
  unfold i_idz at hg
  split at hg
  · split at hg
    · cases hg
    · rename_i hne
      exact am_go1 (hf _ _ _ _ hg) (fun _ _ _ _ _ _ _ _ _ _ _ _ _ _ _ _ _ _ _ hX _ _ _ k => lv_irem hX.1 hX.2.1 hd hne k)
  · cases hg
theorem s_iconst {l : Launch} {I : am_I} {pc d : Nat} {f : am_F} {n : Int} {v : Int32} (hd : decode I.2.1 pc = .ok (.iconst n, 1)) (hv : Int32.ofInt n = v) (hf : am_S l I (pc + 1) d f) : am_S l I pc d (i_int v f) :=
  fun lo st A r hg => am_go1 (hf lo (.int v :: st) A r hg) (fun _ _ _ _ _ _ _ _ _ _ _ _ _ _ _ _ _ _ _ hX _ _ _ k => lv_iconst hX.1 hX.2.1 hd hv k)
theorem s_bipush {l : Launch} {I : am_I} {pc d : Nat} {f : am_F} {n : Int} {v : Int32} (hd : decode I.2.1 pc = .ok (.bipush n, 2)) (hv : (Int8.ofInt n).toInt32 = v) (hf : am_S l I (pc + 2) d f) : am_S l I pc d (i_int v f) :=
  fun lo st A r hg => am_go1 (hf lo (.int v :: st) A r hg) (fun _ _ _ _ _ _ _ _ _ _ _ _ _ _ _ _ _ _ _ hX _ _ _ k => lv_bipush hX.1 hX.2.1 hd hv k)
theorem s_sipush {l : Launch} {I : am_I} {pc d : Nat} {f : am_F} {n : Int} {v : Int32} (hd : decode I.2.1 pc = .ok (.sipush n, 3)) (hv : (Int16.ofInt n).toInt32 = v) (hf : am_S l I (pc + 3) d f) : am_S l I pc d (i_int v f) :=
  fun lo st A r hg => am_go1 (hf lo (.int v :: st) A r hg) (fun _ _ _ _ _ _ _ _ _ _ _ _ _ _ _ _ _ _ _ hX _ _ _ k => lv_sipush hX.1 hX.2.1 hd hv k)
theorem s_lconst {l : Launch} {I : am_I} {pc d : Nat} {f : am_F} {n : Fin 2} {v : Int64} (hd : decode I.2.1 pc = .ok (.lconst n, 1)) (hv : Int64.ofNat (n : Nat) = v) (hf : am_S l I (pc + 1) d f) : am_S l I pc d (i_long v f) :=
  fun lo st A r hg => am_go1 (hf lo (.long v :: st) A r hg) (fun _ _ _ _ _ _ _ _ _ _ _ _ _ _ _ _ _ _ _ hX _ _ _ k => lv_lconst hX.1 hX.2.1 hd hv k)
theorem s_ldc {l : Launch} {I : am_I} {pc d : Nat} {f : am_F} {idx : Nat} {v : Int32} (hw : Cond.constant I.1 idx v ∈ am_ws) (hd : decode I.2.1 pc = .ok (.ldc idx, 2)) (hf : am_S l I (pc + 2) d f) : am_S l I pc d (i_int v f) :=
  fun lo st A r hg => am_go1 (hf lo (.int v :: st) A r hg) (fun _ _ _ _ _ _ _ _ _ _ _ _ _ _ _ _ _ _ _ hX _ _ _ k => lv_ldc hX.1 hX.2.1 hX.2.2.2.2.2.2.1 (hX.2.2.2.2.2.2.2.1 _ hw) hd k)
theorem s_ldc2 {l : Launch} {I : am_I} {pc d : Nat} {f : am_F} {idx : Nat} {v : Int64} (hw : Cond.constantLong I.1 idx v ∈ am_ws) (hd : decode I.2.1 pc = .ok (.ldc2_w idx, 3)) (hf : am_S l I (pc + 3) d f) : am_S l I pc d (i_long v f) :=
  fun lo st A r hg => am_go1 (hf lo (.long v :: st) A r hg) (fun _ _ _ _ _ _ _ _ _ _ _ _ _ _ _ _ _ _ _ hX _ _ _ k => lv_ldc2 hX.1 hX.2.1 hX.2.2.2.2.2.2.1 (hX.2.2.2.2.2.2.2.1 _ hw) hd k)
theorem s_null {l : Launch} {I : am_I} {pc d : Nat} {f : am_F} (hd : decode I.2.1 pc = .ok (.aconst_null, 1)) (hf : am_S l I (pc + 1) d f) : am_S l I pc d (i_null f) :=
  fun lo st A r hg => am_go1 (hf lo (.null :: st) A r hg) (fun _ _ _ _ _ _ _ _ _ _ _ _ _ _ _ _ _ _ _ hX _ _ _ k => lv_null hX.1 hX.2.1 hd k)
theorem s_iload_n {l : Launch} {I : am_I} {pc d : Nat} {f : am_F} {k0 : Fin 4} {i : Nat} (hi : (k0 : Nat) = i) (hd : decode I.2.1 pc = .ok (.iload_n k0, 1)) (hf : am_S l I (pc + 1) d f) : am_S l I pc d (i_iload i f) := by
  intro lo st A r hg
  unfold i_iload at hg
  split at hg
  · rename_i hv
    exact am_go1 (hf _ _ _ _ hg) (fun _ _ _ _ _ _ _ _ _ _ _ _ _ _ _ _ _ _ _ hX _ _ hL k => lv_iload_n hX.1 hX.2.1 hd hi (hL.2.2 _ _ hv) k)
  · cases hg
theorem s_iload {l : Launch} {I : am_I} {pc d : Nat} {f : am_F} {i : Nat} (hd : decode I.2.1 pc = .ok (.iload i, 2)) (hf : am_S l I (pc + 2) d f) : am_S l I pc d (i_iload i f) := by
  intro lo st A r hg
  unfold i_iload at hg
  split at hg
  · rename_i hv
    exact am_go1 (hf _ _ _ _ hg) (fun _ _ _ _ _ _ _ _ _ _ _ _ _ _ _ _ _ _ _ hX _ _ hL k => lv_iload hX.1 hX.2.1 hd (hL.2.2 _ _ hv) k)
  · cases hg
theorem s_lload_n {l : Launch} {I : am_I} {pc d : Nat} {f : am_F} {k0 : Fin 4} {i : Nat} (hi : (k0 : Nat) = i) (hd : decode I.2.1 pc = .ok (.lload_n k0, 1)) (hf : am_S l I (pc + 1) d f) : am_S l I pc d (i_lload i f) := by
  intro lo st A r hg
  unfold i_lload at hg
  split at hg
  · rename_i hv
    exact am_go1 (hf _ _ _ _ hg) (fun _ _ _ _ _ _ _ _ _ _ _ _ _ _ _ _ _ _ _ hX _ _ hL k => lv_lload_n hX.1 hX.2.1 hd hi (hL.2.2 _ _ hv) k)
  · cases hg
theorem s_lload {l : Launch} {I : am_I} {pc d : Nat} {f : am_F} {i : Nat} (hd : decode I.2.1 pc = .ok (.lload i, 2)) (hf : am_S l I (pc + 2) d f) : am_S l I pc d (i_lload i f) := by
  intro lo st A r hg
  unfold i_lload at hg
  split at hg
  · rename_i hv
    exact am_go1 (hf _ _ _ _ hg) (fun _ _ _ _ _ _ _ _ _ _ _ _ _ _ _ _ _ _ _ hX _ _ hL k => lv_lload hX.1 hX.2.1 hd (hL.2.2 _ _ hv) k)
  · cases hg
theorem s_aload_n {l : Launch} {I : am_I} {pc d : Nat} {f : am_F} {k0 : Fin 4} {i : Nat} (hi : (k0 : Nat) = i) (hd : decode I.2.1 pc = .ok (.aload_n k0, 1)) (hf : am_S l I (pc + 1) d f) : am_S l I pc d (i_aload i f) := by
  intro lo st A r hg
  unfold i_aload at hg
  split at hg
  · rename_i hv
    exact am_go1 (hf _ _ _ _ hg) (fun _ _ _ _ _ _ _ _ _ _ _ _ _ _ _ _ _ _ _ hX _ _ hL k => lv_aload_n hX.1 hX.2.1 hd hi (hL.2.2 _ _ hv) k)
  · rename_i hv
    exact am_go1 (hf _ _ _ _ hg) (fun _ _ _ _ _ _ _ _ _ _ _ _ _ _ _ _ _ _ _ hX _ _ hL k => lv_aload_nN hX.1 hX.2.1 hd hi (hL.2.2 _ _ hv) k)
  · cases hg
theorem s_aload {l : Launch} {I : am_I} {pc d : Nat} {f : am_F} {i : Nat} (hd : decode I.2.1 pc = .ok (.aload i, 2)) (hf : am_S l I (pc + 2) d f) : am_S l I pc d (i_aload i f) := by
  intro lo st A r hg
  unfold i_aload at hg
  split at hg
  · rename_i hv
    exact am_go1 (hf _ _ _ _ hg) (fun _ _ _ _ _ _ _ _ _ _ _ _ _ _ _ _ _ _ _ hX _ _ hL k => lv_aload hX.1 hX.2.1 hd (hL.2.2 _ _ hv) k)
  · rename_i hv
    exact am_go1 (hf _ _ _ _ hg) (fun _ _ _ _ _ _ _ _ _ _ _ _ _ _ _ _ _ _ _ hX _ _ hL k => lv_aloadN hX.1 hX.2.1 hd (hL.2.2 _ _ hv) k)
  · cases hg
theorem s_istore_n {l : Launch} {I : am_I} {pc d : Nat} {f : am_F} {k0 : Fin 4} {i : Nat} (hi : (k0 : Nat) = i) (hd : decode I.2.1 pc = .ok (.istore_n k0, 1)) (hf : am_S l I (pc + 1) d f) : am_S l I pc d (i_istore i f) := by
  intro lo st A r hg
  unfold i_istore at hg
  split at hg
  · split at hg
    · rename_i hp
      exact am_goL (hf _ _ _ _ hg) (am_put_len hp) (fun _ _ _ _ _ _ _ _ _ _ _ _ _ _ _ _ _ _ _ hX hL k => lv_istore_n hX.1 hX.2.1 hd hi hL.has (am_put_at hp).1 rfl (fun ls' h' => k ls' (am_LR.put hp h')))
    · cases hg
  · cases hg
theorem s_istore {l : Launch} {I : am_I} {pc d : Nat} {f : am_F} {i : Nat} (hd : decode I.2.1 pc = .ok (.istore i, 2)) (hf : am_S l I (pc + 2) d f) : am_S l I pc d (i_istore i f) := by
  intro lo st A r hg
  unfold i_istore at hg
  split at hg
  · split at hg
    · rename_i hp
      exact am_goL (hf _ _ _ _ hg) (am_put_len hp) (fun _ _ _ _ _ _ _ _ _ _ _ _ _ _ _ _ _ _ _ hX hL k => lv_istore hX.1 hX.2.1 hd hL.has (am_put_at hp).1 rfl (fun ls' h' => k ls' (am_LR.put hp h')))
    · cases hg
  · cases hg
theorem s_lstore_n {l : Launch} {I : am_I} {pc d : Nat} {f : am_F} {k0 : Fin 4} {i : Nat} (hi : (k0 : Nat) = i) (hd : decode I.2.1 pc = .ok (.lstore_n k0, 1)) (hf : am_S l I (pc + 1) d f) : am_S l I pc d (i_lstore i f) := by
  intro lo st A r hg
  unfold i_lstore at hg
  split at hg
  · split at hg
    · rename_i hp
      exact am_goL (hf _ _ _ _ hg) (am_put2_len hp) (fun _ _ _ _ _ _ _ _ _ _ _ _ _ _ _ _ _ _ _ hX hL k => lv_lstore_n hX.1 hX.2.1 hd hi hL.has (am_put2_at hp).1 rfl (fun ls' h' => k ls' (am_LR.put2 hp h')))
    · cases hg
  · cases hg
theorem s_lstore {l : Launch} {I : am_I} {pc d : Nat} {f : am_F} {i : Nat} (hd : decode I.2.1 pc = .ok (.lstore i, 2)) (hf : am_S l I (pc + 2) d f) : am_S l I pc d (i_lstore i f) := by
  intro lo st A r hg
  unfold i_lstore at hg
  split at hg
  · split at hg
    · rename_i hp
      exact am_goL (hf _ _ _ _ hg) (am_put2_len hp) (fun _ _ _ _ _ _ _ _ _ _ _ _ _ _ _ _ _ _ _ hX hL k => lv_lstore hX.1 hX.2.1 hd hL.has (am_put2_at hp).1 rfl (fun ls' h' => k ls' (am_LR.put2 hp h')))
    · cases hg
  · cases hg
theorem s_astore_n {l : Launch} {I : am_I} {pc d : Nat} {f : am_F} {k0 : Fin 4} {i : Nat} (hi : (k0 : Nat) = i) (hd : decode I.2.1 pc = .ok (.astore_n k0, 1)) (hf : am_S l I (pc + 1) d f) : am_S l I pc d (i_astore i f) := by
  intro lo st A r hg
  unfold i_astore at hg
  split at hg
  · split at hg
    · rename_i hp
      exact am_goL (hf _ _ _ _ hg) (am_put_len hp) (fun _ _ _ _ _ _ _ _ _ _ _ _ _ _ _ _ _ _ _ hX hL k => lv_astore_n hX.1 hX.2.1 hd hi hL.has (am_put_at hp).1 rfl (fun ls' h' => k ls' (am_LR.put hp h')))
    · cases hg
  · split at hg
    · rename_i hp
      exact am_goL (hf _ _ _ _ hg) (am_put_len hp) (fun _ _ _ _ _ _ _ _ _ _ _ _ _ _ _ _ _ _ _ hX hL k => lv_astore_nN hX.1 hX.2.1 hd hi hL.has (am_put_at hp).1 rfl (fun ls' h' => k ls' (am_LR.put hp h')))
    · cases hg
  · cases hg
theorem s_astore {l : Launch} {I : am_I} {pc d : Nat} {f : am_F} {i : Nat} (hd : decode I.2.1 pc = .ok (.astore i, 2)) (hf : am_S l I (pc + 2) d f) : am_S l I pc d (i_astore i f) := by
  intro lo st A r hg
  unfold i_astore at hg
  split at hg
  · split at hg
    · rename_i hp
      exact am_goL (hf _ _ _ _ hg) (am_put_len hp) (fun _ _ _ _ _ _ _ _ _ _ _ _ _ _ _ _ _ _ _ hX hL k => lv_astore hX.1 hX.2.1 hd hL.has (am_put_at hp).1 rfl (fun ls' h' => k ls' (am_LR.put hp h')))
    · cases hg
  · split at hg
    · rename_i hp
      exact am_goL (hf _ _ _ _ hg) (am_put_len hp) (fun _ _ _ _ _ _ _ _ _ _ _ _ _ _ _ _ _ _ _ hX hL k => lv_astoreN hX.1 hX.2.1 hd hL.has (am_put_at hp).1 rfl (fun ls' h' => k ls' (am_LR.put hp h')))
    · cases hg
  · cases hg
theorem s_iinc {l : Launch} {I : am_I} {pc d : Nat} {f : am_F} {i : Nat} {n : Int} {v : Int32} (hv : Int32.ofInt n = v) (hd : decode I.2.1 pc = .ok (.iinc i n, 3)) (hf : am_S l I (pc + 3) d f) : am_S l I pc d (i_iinc i v f) := by
  intro lo st A r hg
  unfold i_iinc at hg
  split at hg
  · rename_i x hx
    split at hg
    · rename_i hp
      refine am_goL (hf _ _ _ _ hg) (am_put_len hp) (fun dC dI sA z _ _ _ _ _ _ _ _ _ _ _ _ _ _ _ hX hL k => ?_)
      obtain ⟨j, hj⟩ := List.getElem?_of_mem (am_ps_mem (sA := sA) (z := z) hx)
      exact lv_iinc (k := j) (x := x) hX.1 hX.2.1 hd hL.has hj (by rw [hv]) (am_put_at hp).1 rfl (fun ls' h' => k ls' (am_LR.put hp h'))
    · cases hg
  · cases hg
theorem s_dup {l : Launch} {I : am_I} {pc d : Nat} {f : am_F} (hd : decode I.2.1 pc = .ok (.dup, 1)) (hf : am_S l I (pc + 1) d f) : am_S l I pc d (i_dup f) := by
  intro lo st A r hg
  unfold i_dup at hg
  split at hg
  · split at hg
    · rename_i hc
      exact am_go1 (hf _ _ _ _ hg) (fun _ _ _ _ _ _ _ _ _ _ _ _ _ _ _ _ _ _ _ hX _ _ _ k => lv_dup hX.1 hX.2.1 hd (by rw [am_tr_cat]; exact hc) k)
    · cases hg
  · cases hg
theorem s_pop {l : Launch} {I : am_I} {pc d : Nat} {f : am_F} (hd : decode I.2.1 pc = .ok (.pop, 1)) (hf : am_S l I (pc + 1) d f) : am_S l I pc d (i_pop f) := by
  intro lo st A r hg
  unfold i_pop at hg
  split at hg
  · split at hg
    · rename_i hc
      exact am_go1 (hf _ _ _ _ hg) (fun _ _ _ _ _ _ _ _ _ _ _ _ _ _ _ _ _ _ _ hX _ _ _ k => lv_pop hX.1 hX.2.1 hd (by rw [am_tr_cat]; exact hc) k)
    · cases hg
  · cases hg
theorem s_dup2 {l : Launch} {I : am_I} {pc d : Nat} {f : am_F} (hd : decode I.2.1 pc = .ok (.dup2, 1)) (hf : am_S l I (pc + 1) d f) : am_S l I pc d (i_dup2 f) := by
  intro lo st A r hg
  unfold i_dup2 at hg
  split at hg
  · split at hg
    · rename_i hc
      split at hg
      · rename_i hc2
        exact am_go1 (hf _ _ _ _ hg) (fun _ _ _ _ _ _ _ _ _ _ _ _ _ _ _ _ _ _ _ hX _ _ _ k => lv_dup2_11 hX.1 hX.2.1 hd (by rw [am_tr_cat]; exact hc) (by rw [am_tr_cat]; exact hc2) k)
      · cases hg
    · cases hg
  · cases hg
theorem s_ifeq {l : Launch} {I : am_I} {pc d : Nat} {f t : am_F} {off : Int} {tgt : Nat} (hd : decode I.2.1 pc = .ok (.ifCond .eq off, 3)) (ht : (pc : Int) + off = (tgt : Int)) (h1 : am_S l I tgt d t) (hf : am_S l I (pc + 3) d f) : am_S l I pc d (i_ifeq t f) := by
  intro lo st A r hg
  unfold i_ifeq at hg
  split at hg
  · split at hg
    · rename_i hc
      exact am_go1 (h1 _ _ _ _ hg) (fun _ _ _ _ _ _ _ _ _ _ _ _ _ _ _ _ _ _ _ hX _ _ _ k => lv_if_eq hX.1 hX.2.1 hd ht (fun _ => k) (fun hn => absurd hc hn))
    · rename_i hc
      exact am_go1 (hf _ _ _ _ hg) (fun _ _ _ _ _ _ _ _ _ _ _ _ _ _ _ _ _ _ _ hX _ _ _ k => lv_if_eq hX.1 hX.2.1 hd ht (fun hn => absurd hn hc) (fun _ => k))
  · cases hg
theorem s_ifne {l : Launch} {I : am_I} {pc d : Nat} {f t : am_F} {off : Int} {tgt : Nat} (hd : decode I.2.1 pc = .ok (.ifCond .ne off, 3)) (ht : (pc : Int) + off = (tgt : Int)) (h1 : am_S l I tgt d t) (hf : am_S l I (pc + 3) d f) : am_S l I pc d (i_ifne t f) := by
  intro lo st A r hg
  unfold i_ifne at hg
  split at hg
  · split at hg
    · rename_i hc
      exact am_go1 (h1 _ _ _ _ hg) (fun _ _ _ _ _ _ _ _ _ _ _ _ _ _ _ _ _ _ _ hX _ _ _ k => lv_if_ne hX.1 hX.2.1 hd ht (fun _ => k) (fun hn => absurd hn hc))
    · rename_i hc
      exact am_go1 (hf _ _ _ _ hg) (fun _ _ _ _ _ _ _ _ _ _ _ _ _ _ _ _ _ _ _ hX _ _ _ k => lv_if_ne hX.1 hX.2.1 hd ht (fun hn => absurd hn hc) (fun _ => k))
  · cases hg
theorem s_iflt {l : Launch} {I : am_I} {pc d : Nat} {f t : am_F} {off : Int} {tgt : Nat} (hd : decode I.2.1 pc = .ok (.ifCond .lt off, 3)) (ht : (pc : Int) + off = (tgt : Int)) (h1 : am_S l I tgt d t) (hf : am_S l I (pc + 3) d f) : am_S l I pc d (i_iflt t f) := by
  intro lo st A r hg
  unfold i_iflt at hg
  split at hg
  · split at hg
    · rename_i hc
      exact am_go1 (h1 _ _ _ _ hg) (fun _ _ _ _ _ _ _ _ _ _ _ _ _ _ _ _ _ _ _ hX _ _ _ k => lv_if_lt hX.1 hX.2.1 hd ht (fun _ => k) (fun hn => absurd hc hn))
    · rename_i hc
      exact am_go1 (hf _ _ _ _ hg) (fun _ _ _ _ _ _ _ _ _ _ _ _ _ _ _ _ _ _ _ hX _ _ _ k => lv_if_lt hX.1 hX.2.1 hd ht (fun hn => absurd hn hc) (fun _ => k))
  · cases hg
theorem s_ifge {l : Launch} {I : am_I} {pc d : Nat} {f t : am_F} {off : Int} {tgt : Nat} (hd : decode I.2.1 pc = .ok (.ifCond .ge off, 3)) (ht : (pc : Int) + off = (tgt : Int)) (h1 : am_S l I tgt d t) (hf : am_S l I (pc + 3) d f) : am_S l I pc d (i_ifge t f) := by
  intro lo st A r hg
  unfold i_ifge at hg
  split at hg
  · split at hg
    · rename_i hc
      exact am_go1 (h1 _ _ _ _ hg) (fun _ _ _ _ _ _ _ _ _ _ _ _ _ _ _ _ _ _ _ hX _ _ _ k => lv_if_ge hX.1 hX.2.1 hd ht (fun _ => k) (fun hn => absurd hc hn))
    · rename_i hc
      exact am_go1 (hf _ _ _ _ hg) (fun _ _ _ _ _ _ _ _ _ _ _ _ _ _ _ _ _ _ _ hX _ _ _ k => lv_if_ge hX.1 hX.2.1 hd ht (fun hn => absurd hn hc) (fun _ => k))
  · cases hg
theorem s_ifgt {l : Launch} {I : am_I} {pc d : Nat} {f t : am_F} {off : Int} {tgt : Nat} (hd : decode I.2.1 pc = .ok (.ifCond .gt off, 3)) (ht : (pc : Int) + off = (tgt : Int)) (h1 : am_S l I tgt d t) (hf : am_S l I (pc + 3) d f) : am_S l I pc d (i_ifgt t f) := by
  intro lo st A r hg
  unfold i_ifgt at hg
  split at hg
  · split at hg
    · rename_i hc
      exact am_go1 (h1 _ _ _ _ hg) (fun _ _ _ _ _ _ _ _ _ _ _ _ _ _ _ _ _ _ _ hX _ _ _ k => lv_if_gt hX.1 hX.2.1 hd ht (fun _ => k) (fun hn => absurd hc hn))
    · rename_i hc
      exact am_go1 (hf _ _ _ _ hg) (fun _ _ _ _ _ _ _ _ _ _ _ _ _ _ _ _ _ _ _ hX _ _ _ k => lv_if_gt hX.1 hX.2.1 hd ht (fun hn => absurd hn hc) (fun _ => k))
  · cases hg
theorem s_ifle {l : Launch} {I : am_I} {pc d : Nat} {f t : am_F} {off : Int} {tgt : Nat} (hd : decode I.2.1 pc = .ok (.ifCond .le off, 3)) (ht : (pc : Int) + off = (tgt : Int)) (h1 : am_S l I tgt d t) (hf : am_S l I (pc + 3) d f) : am_S l I pc d (i_ifle t f) := by
  intro lo st A r hg
  unfold i_ifle at hg
  split at hg
  · split at hg
    · rename_i hc
      exact am_go1 (h1 _ _ _ _ hg) (fun _ _ _ _ _ _ _ _ _ _ _ _ _ _ _ _ _ _ _ hX _ _ _ k => lv_if_le hX.1 hX.2.1 hd ht (fun _ => k) (fun hn => absurd hc hn))
    · rename_i hc
      exact am_go1 (hf _ _ _ _ hg) (fun _ _ _ _ _ _ _ _ _ _ _ _ _ _ _ _ _ _ _ hX _ _ _ k => lv_if_le hX.1 hX.2.1 hd ht (fun hn => absurd hn hc) (fun _ => k))
  · cases hg
theorem s_cmpeq {l : Launch} {I : am_I} {pc d : Nat} {f t : am_F} {off : Int} {tgt : Nat} (hd : decode I.2.1 pc = .ok (.if_icmp .eq off, 3)) (ht : (pc : Int) + off = (tgt : Int)) (h1 : am_S l I tgt d t) (hf : am_S l I (pc + 3) d f) : am_S l I pc d (i_cmpeq t f) := by
  intro lo st A r hg
  unfold i_cmpeq at hg
  split at hg
  · split at hg
    · rename_i hc
      exact am_go1 (h1 _ _ _ _ hg) (fun _ _ _ _ _ _ _ _ _ _ _ _ _ _ _ _ _ _ _ hX _ _ _ k => lv_icmp_eq hX.1 hX.2.1 hd ht (fun _ => k) (fun hn => absurd hc hn))
    · rename_i hc
      exact am_go1 (hf _ _ _ _ hg) (fun _ _ _ _ _ _ _ _ _ _ _ _ _ _ _ _ _ _ _ hX _ _ _ k => lv_icmp_eq hX.1 hX.2.1 hd ht (fun hn => absurd hn hc) (fun _ => k))
  · cases hg
theorem s_cmpne {l : Launch} {I : am_I} {pc d : Nat} {f t : am_F} {off : Int} {tgt : Nat} (hd : decode I.2.1 pc = .ok (.if_icmp .ne off, 3)) (ht : (pc : Int) + off = (tgt : Int)) (h1 : am_S l I tgt d t) (hf : am_S l I (pc + 3) d f) : am_S l I pc d (i_cmpne t f) := by
  intro lo st A r hg
  unfold i_cmpne at hg
  split at hg
  · split at hg
    · rename_i hc
      exact am_go1 (h1 _ _ _ _ hg) (fun _ _ _ _ _ _ _ _ _ _ _ _ _ _ _ _ _ _ _ hX _ _ _ k => lv_icmp_ne hX.1 hX.2.1 hd ht (fun _ => k) (fun hn => absurd hn hc))
    · rename_i hc
      exact am_go1 (hf _ _ _ _ hg) (fun _ _ _ _ _ _ _ _ _ _ _ _ _ _ _ _ _ _ _ hX _ _ _ k => lv_icmp_ne hX.1 hX.2.1 hd ht (fun hn => absurd hn hc) (fun _ => k))
  · cases hg
theorem s_cmplt {l : Launch} {I : am_I} {pc d : Nat} {f t : am_F} {off : Int} {tgt : Nat} (hd : decode I.2.1 pc = .ok (.if_icmp .lt off, 3)) (ht : (pc : Int) + off = (tgt : Int)) (h1 : am_S l I tgt d t) (hf : am_S l I (pc + 3) d f) : am_S l I pc d (i_cmplt t f) := by
  intro lo st A r hg
  unfold i_cmplt at hg
  split at hg
  · split at hg
    · rename_i hc
      exact am_go1 (h1 _ _ _ _ hg) (fun _ _ _ _ _ _ _ _ _ _ _ _ _ _ _ _ _ _ _ hX _ _ _ k => lv_icmp_lt hX.1 hX.2.1 hd ht (fun _ => k) (fun hn => absurd hc hn))
    · rename_i hc
      exact am_go1 (hf _ _ _ _ hg) (fun _ _ _ _ _ _ _ _ _ _ _ _ _ _ _ _ _ _ _ hX _ _ _ k => lv_icmp_lt hX.1 hX.2.1 hd ht (fun hn => absurd hn hc) (fun _ => k))
  · cases hg
theorem s_cmpge {l : Launch} {I : am_I} {pc d : Nat} {f t : am_F} {off : Int} {tgt : Nat} (hd : decode I.2.1 pc = .ok (.if_icmp .ge off, 3)) (ht : (pc : Int) + off = (tgt : Int)) (h1 : am_S l I tgt d t) (hf : am_S l I (pc + 3) d f) : am_S l I pc d (i_cmpge t f) := by
  intro lo st A r hg
  unfold i_cmpge at hg
  split at hg
  · split at hg
    · rename_i hc
      exact am_go1 (h1 _ _ _ _ hg) (fun _ _ _ _ _ _ _ _ _ _ _ _ _ _ _ _ _ _ _ hX _ _ _ k => lv_icmp_ge hX.1 hX.2.1 hd ht (fun _ => k) (fun hn => absurd hc hn))
    · rename_i hc
      exact am_go1 (hf _ _ _ _ hg) (fun _ _ _ _ _ _ _ _ _ _ _ _ _ _ _ _ _ _ _ hX _ _ _ k => lv_icmp_ge hX.1 hX.2.1 hd ht (fun hn => absurd hn hc) (fun _ => k))
  · cases hg
theorem s_cmpgt {l : Launch} {I : am_I} {pc d : Nat} {f t : am_F} {off : Int} {tgt : Nat} (hd : decode I.2.1 pc = .ok (.if_icmp .gt off, 3)) (ht : (pc : Int) + off = (tgt : Int)) (h1 : am_S l I tgt d t) (hf : am_S l I (pc + 3) d f) : am_S l I pc d (i_cmpgt t f) := by
  intro lo st A r hg
  unfold i_cmpgt at hg
  split at hg
  · split at hg
    · rename_i hc
      exact am_go1 (h1 _ _ _ _ hg) (fun _ _ _ _ _ _ _ _ _ _ _ _ _ _ _ _ _ _ _ hX _ _ _ k => lv_icmp_gt hX.1 hX.2.1 hd ht (fun _ => k) (fun hn => absurd hc hn))
    · rename_i hc
      exact am_go1 (hf _ _ _ _ hg) (fun _ _ _ _ _ _ _ _ _ _ _ _ _ _ _ _ _ _ _ hX _ _ _ k => lv_icmp_gt hX.1 hX.2.1 hd ht (fun hn => absurd hn hc) (fun _ => k))
  · cases hg
theorem s_cmple {l : Launch} {I : am_I} {pc d : Nat} {f t : am_F} {off : Int} {tgt : Nat} (hd : decode I.2.1 pc = .ok (.if_icmp .le off, 3)) (ht : (pc : Int) + off = (tgt : Int)) (h1 : am_S l I tgt d t) (hf : am_S l I (pc + 3) d f) : am_S l I pc d (i_cmple t f) := by
  intro lo st A r hg
  unfold i_cmple at hg
  split at hg
  · split at hg
    · rename_i hc
      exact am_go1 (h1 _ _ _ _ hg) (fun _ _ _ _ _ _ _ _ _ _ _ _ _ _ _ _ _ _ _ hX _ _ _ k => lv_icmp_le hX.1 hX.2.1 hd ht (fun _ => k) (fun hn => absurd hc hn))
    · rename_i hc
      exact am_go1 (hf _ _ _ _ hg) (fun _ _ _ _ _ _ _ _ _ _ _ _ _ _ _ _ _ _ _ hX _ _ _ k => lv_icmp_le hX.1 hX.2.1 hd ht (fun hn => absurd hn hc) (fun _ => k))
  · cases hg
theorem s_ifnull {l : Launch} {I : am_I} {pc d : Nat} {f t : am_F} {off : Int} {tgt : Nat} (hd : decode I.2.1 pc = .ok (.ifnull off, 3)) (ht : (pc : Int) + off = (tgt : Int)) (h1 : am_S l I tgt d t) (hf : am_S l I (pc + 3) d f) : am_S l I pc d (i_ifnull t f) := by
  intro lo st A r hg
  unfold i_ifnull at hg
  split at hg
  · exact am_go1 (h1 _ _ _ _ hg) (fun _ _ _ _ _ _ _ _ _ _ _ _ _ _ _ _ _ _ _ hX _ _ _ k => lv_ifnullN hX.1 hX.2.1 hd ht k)
  · exact am_go1 (hf _ _ _ _ hg) (fun _ _ _ _ _ _ _ _ _ _ _ _ _ _ _ _ _ _ _ hX _ _ _ k => lv_ifnull hX.1 hX.2.1 hd k)
  · cases hg
theorem s_ifnonnull {l : Launch} {I : am_I} {pc d : Nat} {f t : am_F} {off : Int} {tgt : Nat} (hd : decode I.2.1 pc = .ok (.ifnonnull off, 3)) (ht : (pc : Int) + off = (tgt : Int)) (h1 : am_S l I tgt d t) (hf : am_S l I (pc + 3) d f) : am_S l I pc d (i_ifnonnull t f) := by
  intro lo st A r hg
  unfold i_ifnonnull at hg
  split at hg
  · exact am_go1 (h1 _ _ _ _ hg) (fun _ _ _ _ _ _ _ _ _ _ _ _ _ _ _ _ _ _ _ hX _ _ _ k => lv_ifnonnull hX.1 hX.2.1 hd ht k)
  · exact am_go1 (hf _ _ _ _ hg) (fun _ _ _ _ _ _ _ _ _ _ _ _ _ _ _ _ _ _ _ hX _ _ _ k => lv_ifnonnullN hX.1 hX.2.1 hd k)
  · cases hg
theorem s_goto {l : Launch} {I : am_I} {pc d : Nat} {t : am_F} {off : Int} {tgt : Nat} (hd : decode I.2.1 pc = .ok (.goto off, 3)) (ht : (pc : Int) + off = (tgt : Int)) (h1 : am_S l I tgt d t) : am_S l I pc d t :=
  fun lo st A r hg => am_go1 (h1 _ _ _ _ hg) (fun _ _ _ _ _ _ _ _ _ _ _ _ _ _ _ _ _ _ _ hX _ _ _ k => lv_goto hX.1 hX.2.1 hd ht k)
end
section
/-! fields -/
theorem am_one {D : va_G} {cl : List vw_C} {a : Nat} {e : va_E} {H : Heap} (h : va_at D cl (a, e) H) : va_P D cl [(a, e)] H := by
  intro k q hk
  cases k with
  | zero =>
    cases hk
    exact h
  | succ k => simp at hk
/-- what the tables say of a class: its number, its fields -/
def am_Fx (ci : Nat) (C : String) (T : u_T) (N : Nat) (ty : Nat → FieldType) : Prop := am_cl[ci]? = some (C, T, N) ∧ (∀ w ∈ u_ws C T N, w ∈ am_ws) ∧ (∀ k, k < N → parseFieldDescriptor (T k).2.2.1 = some (ty k)) ∧ (∀ a, a < N → ∀ b, b < N → a ≠ b → (T a).2.1 ≠ (T b).2.1)
theorem s_getf {l : Launch} {I : am_I} {pc d : Nat} {f : am_F} {ci k idx N : Nat} {C : String} {T : u_T} {ty : Nat → FieldType} (fx : am_Fx ci C T N ty) (hk : k < N) (hl : Cond.fieldLink I.1 idx (T k).1 (T k).2.1 (T k).2.2.1 ∈ am_ws) (hd : decode I.2.1 pc = .ok (.getfield idx, 3)) (hf : am_S l I (pc + 3) d f) : am_S l I pc d (i_getf ci k f) := by
  intro lo st A r hg
  unfold i_getf at hg
  split at hg
  · rename_i p0 s0
    simp only [Option.bind_eq_some_iff] at hg
    obtain ⟨fs, h1, v, h2, hg⟩ := hg
    have hA := am_obj_at h1
    refine am_go1 (hf _ _ _ _ hg) ?_
    intro dC dI sA z p e R s m args below meth c H locs cells slots ls Q hX hP hz hL k0
    obtain ⟨hx, hb, -, -, -, -, hown, hts, hG⟩ := hX
    exact va_get (D := (dC, dI)) (cl := am_cl) (ci := ci) (ws := [(am_ad sA z p0, .inr (ci, fs.map (am_tr sA z)))]) (v := am_tr sA z v) hx hb hts fx.2.1 hown hG.1 (am_one (hP.2.2 _ _ hA).2) 0 rfl fx.1 k hk (hts _ hl) (fun _ h => h) (by rw [List.getElem?_map, h2]; rfl) hd k0
  · cases hg
theorem am_wr_go {l : Launch} {I : am_I} {pc d : Nat} {f : am_F} {ci k idx N : Nat} {C : String} {T : u_T} {ty : Nat → FieldType} (fx : am_Fx ci C T N ty) (hk : k < N) (hl : Cond.fieldLink I.1 idx (T k).1 (T k).2.1 (T k).2.2.1 ∈ am_ws) (hfin : (T k).2.2.2 = false ∨ ((T k).2.2.2 = true ∧ I.2.2.2.2 = true ∧ (T k).1 = I.1)) (hd : decode I.2.1 pc = .ok (.putfield idx, 3)) {v : Value} (hn : ∀ (sA : Nat → Nat) (z : Nat), narrow (ty k) (am_tr sA z v) = am_tr sA z v ∧ fits (ty k) (am_tr sA z v) = true) (hf : am_S l I (pc + 3) d f)
    {lo : am_L} {st : List Value} {A : am_H} {r : am_R} {p0 : Nat} (hg : am_wr ci k v f p0 lo st A = some r) : am_S1 l I pc d lo (v :: .ref p0 :: st) A r := by
  unfold am_wr at hg
  simp only [Option.bind_eq_some_iff] at hg
  obtain ⟨fs, h1, v0, h2, u, h3, hg⟩ := hg
  have hlen := (List.getElem?_eq_some_iff.mp h2).1
  refine am_goW (hf _ _ _ _ hg) (am_obj_at h1) (am_own_at h3) ?_
  intro dC dI sA z p e R s m args below meth c H locs cells slots ls Q hX hP hat k0
  obtain ⟨hx, hb, -, -, -, hin, hown, hts, hG⟩ := hX
  obtain ⟨hc, hinw, hty, hnm⟩ := fx
  have hap := va_apart (own := I.1) hts hinw ty hty hnm hG.1 hc
  obtain ⟨r0, g1, cell, q1, q2, q3, q4⟩ := hat
  have hr : r0 = (C, T, N) := Option.some.inj (g1.symm.trans hc)
  subst hr
  obtain ⟨hS, hfc, kC, hkC, hkind⟩ := hG.1.1 ci _ hc
  obtain ⟨cf, kf, fi, fd, hi, hsl⟩ := hS k hk
  have hlay := hts _ (hinw _ (u_in_lay hk))
  unfold u_lay at hlay
  have hst := (u_facts hfc hkC (u_lays hts hinw hk) hi).1
  obtain ⟨hn1, hn2⟩ := hn sA z
  have key : ∀ H' : Heap, H'[am_ad sA z p0]? = some (cell.setSlot fd.slot (am_tr sA z v)) → H'.size = H.size → (∀ q, q ≠ am_ad sA z p0 → H'[q]? = H[q]?) → W p l e R s m args below meth c H' (locs ++ [⟨am_ad sA z p0, fd.slot⟩]) cells slots Q (F0 m (pc + 3) ls (st.map (am_tr sA z))) := by
    intro H' e1 e2 e3
    refine k0 H' fd.slot ?_ e2 e3
    rw [hsl] at e1
    refine ⟨_, hc, t_OB.to (V := updV (vp_V (fs.map (am_tr sA z))) k (am_tr sA z v)) ⟨_, e1, q2, q3, t_set q4 hap hk (am_tr sA z v)⟩ (fun j _ => ?_)⟩
    rw [List.map_set]
    exact vp_updV_set (by rw [List.length_map]; exact hlen) _ j
  rcases hfin with hfin | ⟨hfin, hini, hdecl⟩
  · rw [if_neg (by rw [hfin]; decide)] at hlay
    have h6 := u_store hfc hkC hkind hlay hi (hty k hk) hn1 hn2
    exact W.putK hx hb (f := fd) ⟨hown, hts _ hl, ⟨_, _, _, hi⟩, hst⟩ (by rw [q2]; exact h6) q1 q3 (by rw [hsl]; exact k2_hasslot (q4 k hk)) rfl rfl hd key
  · rw [if_pos hfin] at hlay
    have hcf : m.cls = cf := by
      obtain ⟨_, _, c', _, _, _, -, -, hf', -, -, -, hown2, -⟩ := Cond.laysFinal_spec hlay
      have e1 : c' = cf := by have := hi.symm.trans hf'; simp at this; exact this.1.symm
      rw [hdecl] at hown2
      rw [← e1]; exact Option.some.inj (hown.symm.trans hown2)
    have h6 := u_fits hfc hkC hkind (Or.inr hlay) hi (hty k hk) hn1 hn2
    exact W.putFinK hx hb hown (hts _ hl) hi hst hcf (hin hini) (by rw [q2]; exact h6) q1 q3 (by rw [hsl]; exact k2_hasslot (q4 k hk)) rfl rfl hd key
theorem s_putI {l : Launch} {I : am_I} {pc d : Nat} {f : am_F} {ci k idx N : Nat} {C : String} {T : u_T} {ty : Nat → FieldType} (fx : am_Fx ci C T N ty) (hk : k < N) (hl : Cond.fieldLink I.1 idx (T k).1 (T k).2.1 (T k).2.2.1 ∈ am_ws) (hfin : (T k).2.2.2 = false ∨ ((T k).2.2.2 = true ∧ I.2.2.2.2 = true ∧ (T k).1 = I.1)) (hd : decode I.2.1 pc = .ok (.putfield idx, 3)) (ht : ty k = .int) (hf : am_S l I (pc + 3) d f) : am_S l I pc d (i_putI ci k f) := by
  intro lo st A r hg
  unfold i_putI at hg
  split at hg
  · exact am_wr_go fx hk hl hfin hd (fun _ _ => by rw [ht]; exact ⟨rfl, rfl⟩) hf hg
  · cases hg
theorem s_putZ {l : Launch} {I : am_I} {pc d : Nat} {f : am_F} {ci k idx N : Nat} {C : String} {T : u_T} {ty : Nat → FieldType} (fx : am_Fx ci C T N ty) (hk : k < N) (hl : Cond.fieldLink I.1 idx (T k).1 (T k).2.1 (T k).2.2.1 ∈ am_ws) (hfin : (T k).2.2.2 = false ∨ ((T k).2.2.2 = true ∧ I.2.2.2.2 = true ∧ (T k).1 = I.1)) (hd : decode I.2.1 pc = .ok (.putfield idx, 3)) (ht : ty k = .boolean) (hf : am_S l I (pc + 3) d f) : am_S l I pc d (i_putZ ci k f) := by
  intro lo st A r hg
  unfold i_putZ at hg
  split at hg
  · split at hg
    · rename_i hx
      exact am_wr_go fx hk hl hfin hd (fun _ _ => by rw [ht]; rcases hx with rfl | rfl <;> exact ⟨rfl, rfl⟩) hf hg
    · cases hg
  · cases hg
theorem s_putR {l : Launch} {I : am_I} {pc d : Nat} {f : am_F} {ci k idx N : Nat} {C : String} {T : u_T} {ty : Nat → FieldType} (fx : am_Fx ci C T N ty) (hk : k < N) (hl : Cond.fieldLink I.1 idx (T k).1 (T k).2.1 (T k).2.2.1 ∈ am_ws) (hfin : (T k).2.2.2 = false ∨ ((T k).2.2.2 = true ∧ I.2.2.2.2 = true ∧ (T k).1 = I.1)) (hd : decode I.2.1 pc = .ok (.putfield idx, 3)) (ht : ∀ a : Nat, narrow (ty k) (.ref a) = .ref a ∧ fits (ty k) (.ref a) = true) (hf : am_S l I (pc + 3) d f) : am_S l I pc d (i_putR ci k f) := by
  intro lo st A r hg
  unfold i_putR at hg
  split at hg
  · rename_i q1 p1 s1
    exact am_wr_go (v := .ref q1) fx hk hl hfin hd (fun sA z => ht _) hf hg
  · cases hg
/-! statics -/
theorem s_stat {l : Launch} {I : am_I} {pc d : Nat} {f : am_F} {i idx : Nat} (hi : i < 4) (hl : Cond.fieldLink I.1 idx RX5 (am_sn i) "[I" ∈ am_ws) (hd : decode I.2.1 pc = .ok (.getstatic idx, 3)) (hf : am_S l I (pc + 3) d f) : am_S l I pc d (i_stat i f) := by
  intro lo st A r hg
  refine am_go1 (hf lo (.ref i :: st) A r hg) ?_
  intro dC dI sA z p e R s m args below meth c H locs cells slots ls Q hX hP hz hL k0
  obtain ⟨hx, hb, -, -, -, -, hown, hts, hG⟩ := hX
  have e1 : am_tr sA z (.ref i) = .ref (sA i) := by
    show Value.ref (am_ad sA z i) = _
    unfold am_ad
    rw [if_pos (by omega)]
  rw [List.map_cons, e1] at k0
  obtain ⟨cf, kf, fi, fd, a, cell, g1, g2, g3, g4, g5, g6, g7, g8⟩ := hG.2.2.2.2.2 i hi
  exact W.gets hx hb hown (hts _ hl) g1 g2 g3 g4 (by rw [hz a (Nat.not_le.mp g8)]; exact g5) (fun e => by rw [e] at g6; cases g6) g7 rfl hd k0
theorem s_statN {l : Launch} {I : am_I} {pc d : Nat} {f : am_F} {i idx : Nat} {host : String} (hi : i < 4) (hl : (I.1, idx, RX5, am_sn i, "[I", host) ∈ am_nestF) (hd : decode I.2.1 pc = .ok (.getstatic idx, 3)) (hf : am_S l I (pc + 3) d f) : am_S l I pc d (i_stat i f) := by
  intro lo st A r hg
  refine am_go1 (hf lo (.ref i :: st) A r hg) ?_
  intro dC dI sA z p e R s m args below meth c H locs cells slots ls Q hX hP hz hL k0
  obtain ⟨hx, hb, -, -, -, -, hown, hts, hG⟩ := hX
  have e1 : am_tr sA z (.ref i) = .ref (sA i) := by
    show Value.ref (am_ad sA z i) = _
    unfold am_ad
    rw [if_pos (by omega)]
  rw [List.map_cons, e1] at k0
  obtain ⟨cf, kf, fi, fd, a, cell, g1, g2, g3, g4, g5, g6, g7, g8⟩ := hG.2.2.2.2.2 i hi
  exact va_WgetsN hx hb hown (va_Nw.use rfl (hG.2.2.1 _ hl)) g1 g2 g3 g4 (by rw [hz a (Nat.not_le.mp g8)]; exact g5) (fun e => by rw [e] at g6; cases g6) g7 rfl hd k0
/-! rows -/
theorem am_slot_self {cell : Cell} {i : Nat} {v : Value} (h : i < cell.slots.size) : (cell.setSlot i v).slots[i]? = some v := by
  simp [Cell.setSlot, h]
theorem s_iaload {l : Launch} {I : am_I} {pc d : Nat} {f : am_F} (hd : decode I.2.1 pc = .ok (.iaload, 1)) (hf : am_S l I (pc + 1) d f) : am_S l I pc d (i_iald 0 f) := by
  intro lo st A r hg
  unfold i_iald at hg
  split at hg
  · simp only [Option.bind_eq_some_iff] at hg
    obtain ⟨a, h1, j, h2, hg⟩ := hg
    obtain ⟨g0, g1, g2⟩ := am_ix_at h2
    refine am_go1 (hf _ _ _ _ hg) ?_
    intro dC dI sA z p e R s m args below meth c H locs cells slots ls Q hX hP hz hL k0
    obtain ⟨cell, c1, c2, c3, c4, c5, c6⟩ := (hP.2.2 _ _ (am_row_at h1)).2
    exact W.iald (v := .int (a.2 j)) hX.1 hX.2.1 c1 c2 c3 (fun h => by rcases h with h | h; exact g0 h; omega) (by rw [g1]; exact c6 j g2) rfl rfl hd k0
  · cases hg
theorem s_baload {l : Launch} {I : am_I} {pc d : Nat} {f : am_F} (hd : decode I.2.1 pc = .ok (.baload, 1)) (hf : am_S l I (pc + 1) d f) : am_S l I pc d (i_iald 1 f) := by
  intro lo st A r hg
  unfold i_iald at hg
  split at hg
  · simp only [Option.bind_eq_some_iff] at hg
    obtain ⟨a, h1, j, h2, hg⟩ := hg
    obtain ⟨g0, g1, g2⟩ := am_ix_at h2
    refine am_go1 (hf _ _ _ _ hg) ?_
    intro dC dI sA z p e R s m args below meth c H locs cells slots ls Q hX hP hz hL k0
    obtain ⟨cell, c1, c2, c3, c4, c5, c6⟩ := (hP.2.2 _ _ (am_row_at h1)).2
    exact W.bald (v := .int (a.2 j)) hX.1 hX.2.1 c1 c2 c3 (fun h => by rcases h with h | h; exact g0 h; omega) (by rw [g1]; exact c6 j g2) rfl rfl hd k0
  · cases hg
theorem s_iastore {l : Launch} {I : am_I} {pc d : Nat} {f : am_F} (hd : decode I.2.1 pc = .ok (.iastore, 1)) (hf : am_S l I (pc + 1) d f) : am_S l I pc d (i_iast 0 (fun x => x) f) := by
  intro lo st A r hg
  unfold i_iast at hg
  split at hg
  · rename_i x i p0 s0
    simp only [Option.bind_eq_some_iff] at hg
    obtain ⟨a, h1, j, h2, u, h3, hg⟩ := hg
    obtain ⟨g0, g1, g2⟩ := am_ix_at h2
    refine am_goW (hf _ _ _ _ hg) (am_row_at h1) (am_own_at h3) ?_
    intro dC dI sA z p e R s m args below meth c H locs cells slots ls Q hX hP hat k0
    obtain ⟨cell, c1, c2, c3, c4, c5, c6⟩ := hat
    refine W.iast hX.1 hX.2.1 c1 c2 c3 (fun h => by rcases h with h | h; exact g0 h; omega) rfl rfl hd (fun H' e1 e2 e3 => k0 H' i.toNatClampNeg ?_ e2 e3)
    rw [g1] at e1
    refine ⟨_, e1, c2, c3, by rw [k2_slotsz]; exact c4, by rw [k2_slotsz]; exact c5, fun q hq => ?_⟩
    by_cases hqj : q = j
    · subst hqj
      rw [am_slot_self (by omega)]
      simp [upd]
      try rfl
    · rw [slot_ne _ _ (fun e0 => hqj e0.symm), c6 q hq]
      simp [upd, hqj]
  · cases hg
theorem s_bastore {l : Launch} {I : am_I} {pc d : Nat} {f : am_F} (hd : decode I.2.1 pc = .ok (.bastore, 1)) (hf : am_S l I (pc + 1) d f) : am_S l I pc d (i_iast 1 (fun x => x.toInt8.toInt32) f) := by
  intro lo st A r hg
  unfold i_iast at hg
  split at hg
  · rename_i x i p0 s0
    simp only [Option.bind_eq_some_iff] at hg
    obtain ⟨a, h1, j, h2, u, h3, hg⟩ := hg
    obtain ⟨g0, g1, g2⟩ := am_ix_at h2
    refine am_goW (hf _ _ _ _ hg) (am_row_at h1) (am_own_at h3) ?_
    intro dC dI sA z p e R s m args below meth c H locs cells slots ls Q hX hP hat k0
    obtain ⟨cell, c1, c2, c3, c4, c5, c6⟩ := hat
    refine W.bast hX.1 hX.2.1 c1 c2 c3 (fun h => by rcases h with h | h; exact g0 h; omega) rfl rfl hd (fun H' e1 e2 e3 => k0 H' i.toNatClampNeg ?_ e2 e3)
    rw [g1] at e1
    refine ⟨_, e1, c2, c3, by rw [k2_slotsz]; exact c4, by rw [k2_slotsz]; exact c5, fun q hq => ?_⟩
    by_cases hqj : q = j
    · subst hqj
      rw [am_slot_self (by omega)]
      simp [upd]
      try rfl
    · rw [slot_ne _ _ (fun e0 => hqj e0.symm), c6 q hq]
      simp [upd, hqj]
  · cases hg
theorem s_aaload {l : Launch} {I : am_I} {pc d : Nat} {f : am_F} (hd : decode I.2.1 pc = .ok (.aaload, 1)) (hf : am_S l I (pc + 1) d f) : am_S l I pc d (i_aald f) := by
  intro lo st A r hg
  unfold i_aald at hg
  split at hg
  · simp only [Option.bind_eq_some_iff] at hg
    obtain ⟨a, h1, j, h2, hg⟩ := hg
    obtain ⟨g0, g1, g2⟩ := am_ix_at h2
    refine am_go1 (hf _ _ _ _ hg) ?_
    intro dC dI sA z p e R s m args below meth c H locs cells slots ls Q hX hP hz hL k0
    obtain ⟨cell, kA, comp, c1, c2, c3, c4, c5, c6, c7⟩ := (hP.2.2 _ _ (am_refs_at h1)).2
    exact W.aald (v := am_tr sA z (am_rv (a.2 j))) (ty := .object am_el) hX.1 hX.2.1 c1 ⟨fun k h => (by rw [c2] at h; cases h), kA, c3, comp, c4⟩ rfl (fun h => by rw [c2] at h; cases h) (fun h => by rcases h with h | h; exact g0 h; omega) (by rw [g1]; exact c7 j g2) rfl rfl hd k0
  · cases hg
theorem s_aastore {l : Launch} {I : am_I} {pc d : Nat} {f : am_F} (hd : decode I.2.1 pc = .ok (.aastore, 1)) (hf : am_S l I (pc + 1) d f) : am_S l I pc d (i_aast 4 f) := by
  intro lo st A r hg
  unfold i_aast at hg
  split at hg
  · rename_i q0 i p0 s0
    simp only [Option.bind_eq_some_iff] at hg
    obtain ⟨a, h1, fs, h4, j, h2, u, h3, hg⟩ := hg
    obtain ⟨g0, g1, g2⟩ := am_ix_at h2
    refine am_goW (hf _ _ _ _ hg) (am_refs_at h1) (am_own_at h3) ?_
    intro dC dI sA z p e R s m args below meth c H locs cells slots ls Q hX hP hat k0
    obtain ⟨cell, kA, comp, c1, c2, c3, c4, c5, c6, c7⟩ := hat
    obtain ⟨r0, b1, cellV, b2, b3, b4, -⟩ := (hP.2.2 _ _ (am_obj_at h4)).2
    have hcls := (hX.2.2.2.2.2.2.2.2.1.1 4 _ rfl).2
    have hcomp : comp = dC 4 := Option.some.inj (c5.symm.trans hcls.1)
    subst hcomp
    obtain ⟨kC, hkC, -⟩ := hcls.2
    refine W.aast hX.1 hX.2.1 c1 (fun q h => by rw [c2] at h; cases h) (fun h => by rw [c2] at h; cases h) c3 c4 rfl hkC ⟨g0, by omega⟩ b2 (fun q h => by rw [b4] at h; cases h) (by rw [b3]; exact hkC) (by rw [b3]; exact va_assign hcls) rfl rfl hd (fun H' e1 e2 e3 => k0 H' i.toNatClampNeg ?_ e2 e3)
    rw [g1] at e1
    refine ⟨_, kA, dC 4, e1, c2, c3, c4, c5, by rw [k2_slotsz]; exact c6, fun q hq => ?_⟩
    by_cases hqj : q = j
    · subst hqj
      rw [am_slot_self (by omega)]
      simp [va_up, am_rv, am_tr]
    · rw [slot_ne _ _ (fun e0 => hqj e0.symm), c7 q hq]
      simp [va_up, hqj]
  · cases hg
theorem s_alen {l : Launch} {I : am_I} {pc d : Nat} {f : am_F} (hd : decode I.2.1 pc = .ok (.arraylength, 1)) (hf : am_S l I (pc + 1) d f) : am_S l I pc d (i_alen f) := by
  intro lo st A r hg
  unfold i_alen at hg
  split at hg
  · simp only [Option.bind_eq_some_iff] at hg
    obtain ⟨n, h1, hg⟩ := hg
    unfold am_len at h1
    split at h1
    · rename_i hA
      cases h1
      refine am_go1 (hf _ _ _ _ hg) ?_
      intro dC dI sA z p e R s m args below meth c H locs cells slots ls Q hX hP hz hL k0
      obtain ⟨cell, c1, c2, c3, c4, c5, c6⟩ := (hP.2.2 _ _ hA).2
      exact W.alen hX.1 hX.2.1 c1 c2 c5 rfl rfl hd k0
    · rename_i hA
      cases h1
      refine am_go1 (hf _ _ _ _ hg) ?_
      intro dC dI sA z p e R s m args below meth c H locs cells slots ls Q hX hP hz hL k0
      obtain ⟨cell, kA, comp, c1, c2, c3, c4, c5, c6, c7⟩ := (hP.2.2 _ _ hA).2
      exact W.alen (ty := .object am_el) hX.1 hX.2.1 c1 ⟨fun k h => (by rw [c2] at h; cases h), kA, c3, comp, c4⟩ (by rw [c6]) rfl rfl hd k0
    · cases h1
  · cases hg
theorem s_newi {l : Launch} {I : am_I} {pc d : Nat} {f : am_F} (hw : Cond.arrayClass .int ∈ am_ws) (hd : decode I.2.1 pc = .ok (.newarray .int, 2)) (hf : am_S l I (pc + 2) d f) : am_S l I pc d (i_newi 0 f) := by
  intro lo st A r hg
  unfold i_newi at hg
  split at hg
  · simp only [Option.bind_eq_some_iff] at hg
    obtain ⟨N, h2, hg⟩ := hg
    obtain ⟨g0, g1, g2⟩ := am_ix_at h2
    refine am_goN (hf _ _ _ _ hg) ?_
    intro dC dI sA z p e R s m args below meth c H locs cells slots ls Q hX hc1 hc2 k0
    refine va_newaK (atype := .int) hX.1 hX.2.1 (hX.2.2.2.2.2.2.2.1 _ hw) rfl hd rfl g0 g1 (by show N * _ ≤ _; simp only [newarray.typeOf, componentBytes]; omega) hc1 hc2 rfl (fun H' cA e1 e2 e3 hAr _ => k0 H' ?_ e2 e3)
    refine ⟨_, e1, hAr N _, (fun h => by cases h), by rw [arrV_size]; exact Nat.le_refl _, by rw [arrV_size], fun j hj => by rw [arrV_read _ _ hj]; rfl⟩
  · cases hg
theorem s_newb {l : Launch} {I : am_I} {pc d : Nat} {f : am_F} (hw : Cond.arrayClass .byte ∈ am_ws) (hd : decode I.2.1 pc = .ok (.newarray .byte, 2)) (hf : am_S l I (pc + 2) d f) : am_S l I pc d (i_newi 1 f) := by
  intro lo st A r hg
  unfold i_newi at hg
  split at hg
  · simp only [Option.bind_eq_some_iff] at hg
    obtain ⟨N, h2, hg⟩ := hg
    obtain ⟨g0, g1, g2⟩ := am_ix_at h2
    refine am_goN (hf _ _ _ _ hg) ?_
    intro dC dI sA z p e R s m args below meth c H locs cells slots ls Q hX hc1 hc2 k0
    refine va_newaK (atype := .byte) hX.1 hX.2.1 (hX.2.2.2.2.2.2.2.1 _ hw) rfl hd rfl g0 g1 (by show N * _ ≤ _; simp only [newarray.typeOf, componentBytes]; omega) hc1 hc2 rfl (fun H' cA e1 e2 e3 hAr _ => k0 H' ?_ e2 e3)
    refine ⟨_, e1, hAr N _, (fun h => by cases h), by rw [arrV_size]; exact Nat.le_refl _, by rw [arrV_size], fun j hj => by rw [arrV_read _ _ hj]; rfl⟩
  · cases hg
theorem s_newq {l : Launch} {I : am_I} {pc d : Nat} {f : am_F} {idx : Nat} (hw : Cond.classLink I.1 idx am_el ∈ am_ws) (hd : decode I.2.1 pc = .ok (.anewarray idx, 3)) (hf : am_S l I (pc + 3) d f) : am_S l I pc d (i_newq f) := by
  intro lo st A r hg
  unfold i_newq at hg
  split at hg
  · simp only [Option.bind_eq_some_iff] at hg
    obtain ⟨N, h2, hg⟩ := hg
    obtain ⟨g0, g1, g2⟩ := am_ix_at h2
    subst g1
    refine am_goN (hf _ _ _ _ hg) ?_
    intro dC dI sA z p e R s m args below meth c H locs cells slots ls Q hX hc1 hc2 k0
    refine W.anew hX.1 hX.2.1 hX.2.2.2.2.2.2.1 (hX.2.2.2.2.2.2.2.1 _ hw) (va_AO.use hX.2.2.2.2.2.2.2.2.2.2.2.1) rfl hd rfl g0 (by omega) hc1 hc2 (fun cA kA comp f1 f2 f3 f4 => k0 _ ?_ (by rw [Array.size_push]) (fun q hq => by rw [Array.getElem?_push, if_neg (Nat.ne_of_lt hq)]))
    refine ⟨_, kA, comp, Array.getElem?_push_size, rfl, f2, f3, f4, by simp, fun j hj => ?_⟩
    simp [hj, am_rv, am_tr]
  · cases hg
theorem s_new {l : Launch} {I : am_I} {pc d : Nat} {f : am_F} {ci idx N : Nat} {C : String} {T : u_T} {ty : Nat → FieldType} {fs : List Value} (fx : am_Fx ci C T N ty) (hw1 : Cond.classLink I.1 idx C ∈ am_ws) (hw2 : Cond.instantiable C N ∈ am_ws) (hw3 : Cond.initialized C ∈ am_ws) (hN : fs.length = N) (hfs : ∀ (sA : Nat → Nat) (z : Nat) (j : Nat), j < N → defaultValue (ty j) = vp_V (fs.map (am_tr sA z)) j) (hd : decode I.2.1 pc = .ok (.new idx, 3)) (hf : am_S l I (pc + 3) d f) : am_S l I pc d (i_new ci fs f) := by
  intro lo st A r hg
  refine am_goN (hf lo _ _ r hg) ?_
  intro dC dI sA z p e R s m args below meth c H locs cells slots ls Q hX hc1 hc2 k0
  obtain ⟨hx, hb, -, -, -, -, hown, hts, hG⟩ := hX
  subst hN
  have hKn := hG.1.1 ci _ fx.1
  exact W.newcK hx hb hown (hts _ hw1) (hts _ hw2) (hts _ hw3) rfl hd hc1 hc2 hKn.2.1 rfl (fun H1 kC hkC e1 z1 o1 => k0 H1 ⟨_, fx.1, (u_born ty hts fx.2.1 hKn hkC e1 fx.2.2.1).to (hfs sA z)⟩ z1 o1)
theorem s_obj {l : Launch} {I : am_I} {pc d : Nat} {f : am_F} {idx : Nat} (hw1 : Cond.methodLink I.1 idx objectInit ∈ am_ws) (hw2 : Cond.instanceMethod objectInit ∈ am_ws) (hw3 : Cond.code objectInit ⟨#[0xb1]⟩ 1 none ∈ am_ws) (hd : decode I.2.1 pc = .ok (.invokespecial idx, 3)) (hf : am_S l I (pc + 3) d f) : am_S l I pc d (i_obj d f) := by
  intro lo st A r hg
  unfold i_obj at hg
  split at hg
  · cases hg
  · split at hg
    · split at hg
      · rename_i hcat
        refine am_go0 (hf _ _ _ _ hg) rfl (Nat.le_refl _) (Nat.le_refl _) ?_
        intro dC dI sA z p e R s m args below meth c H locs cells slots ls Q hlo hX hP hz hl hL hfr hlc _ _ kk
        obtain ⟨hx, hb, hml, -, -, -, hown, hts, hG⟩ := hX
        have k1 := kk H locs ls hP hz hl hL
        rw [Nat.sub_self, Nat.sub_self, Nat.add_zero, Nat.add_zero] at k1
        refine W.objInit hx hb hown (hts _ hw1) (hts _ hw2) (hts _ hw3) rfl (by rw [hml]; exact hL.1.trans hlo) rfl hd (by omega) ?_ k1
        show 2 * 0 + _ + 12 ≤ R.locals
        rw [am_cats]
        omega
      · cases hg
    · cases hg
/-! ends -/
theorem am_end {l : Launch} {I : am_I} {pc d : Nat} {lo : am_L} {st : List Value} {A : am_H} {v : Option Value} {ins : Instr} (hst : st = v.toList) (hd : decode I.2.1 pc = .ok (ins, 1)) (hr : am_rok I.2.2.2.1 v ins) : am_S1 l I pc d lo st A (v, A) := by
  intro hlo
  refine ⟨Nat.le_refl _, Nat.le_refl _, ?_⟩
  intro dC dI sA z p e R s m args below meth c H locs cells slots ls Q mc ms hX hP hz hl hL _ _ e1 e2 _ _ hE
  have f1 : cells = mc := by rw [← e1]; show cells = cells + (A.1 - A.1); omega
  have f2 : slots = ms := by rw [← e2]; show slots = slots + (A.2.1 - A.2.1); omega
  subst f1; subst f2; subst hst
  exact hE pc ls H locs ins hd hr hP hz hl
theorem s_iret {l : Launch} {I : am_I} {pc d : Nat} (hr : I.2.2.2.1 = some .int) (hd : decode I.2.1 pc = .ok (.ireturn, 1)) : am_S l I pc d i_iret := by
  intro lo st A r hg
  unfold i_iret at hg
  split at hg
  · rename_i x
    cases hg
    exact am_end rfl hd (Or.inr (Or.inl ⟨.int, x, hr, rfl, rfl, rfl⟩))
  · cases hg
theorem s_zret {l : Launch} {I : am_I} {pc d : Nat} (hr : I.2.2.2.1 = some .boolean) (hd : decode I.2.1 pc = .ok (.ireturn, 1)) : am_S l I pc d i_zret := by
  intro lo st A r hg
  unfold i_zret at hg
  split at hg
  · rename_i x
    split at hg
    · rename_i hx
      cases hg
      exact am_end rfl hd (Or.inr (Or.inl ⟨.boolean, x, hr, rfl, by rcases hx with rfl | rfl <;> rfl, rfl⟩))
    · cases hg
  · cases hg
theorem s_lret {l : Launch} {I : am_I} {pc d : Nat} (hr : I.2.2.2.1 = some .long) (hd : decode I.2.1 pc = .ok (.lreturn, 1)) : am_S l I pc d i_lret := by
  intro lo st A r hg
  unfold i_lret at hg
  split at hg
  · rename_i x
    cases hg
    exact am_end rfl hd (Or.inr (Or.inr (Or.inl ⟨x, hr, rfl, rfl⟩)))
  · cases hg
theorem s_aret {l : Launch} {I : am_I} {pc d : Nat} {C : String} (hr : I.2.2.2.1 = some (.object C)) (hd : decode I.2.1 pc = .ok (.areturn, 1)) : am_S l I pc d i_aret := by
  intro lo st A r hg
  unfold i_aret at hg
  split at hg
  · rename_i x
    cases hg
    exact am_end rfl hd (Or.inr (Or.inr (Or.inr ⟨C, hr, Or.inr ⟨x, rfl⟩, rfl⟩)))
  · cases hg
    exact am_end rfl hd (Or.inr (Or.inr (Or.inr ⟨C, hr, Or.inl rfl, rfl⟩)))
  · cases hg
theorem s_vret {l : Launch} {I : am_I} {pc d : Nat} (hr : I.2.2.2.1 = none) (hd : decode I.2.1 pc = .ok (.return_, 1)) : am_S l I pc d i_vret := by
  intro lo st A r hg
  unfold i_vret at hg
  split at hg
  · cases hg
    exact am_end rfl hd (Or.inl ⟨hr, rfl, rfl⟩)
  · cases hg
/-! a method's contract out of its entry -/
def am_rm (d mc ms : Nat) : Room := { frames := d, cells := mc, slots := ms, locals := d * 37 }
def am_Q (dC : Nat → ClassId) (dI : Nat → Nat → Nat) (sA : Nat → Nat) (z : Nat) (r : am_R) : Array Value → State → Outcome → State → Prop := fun _ st o t => o = .returned (r.1.map (am_tr sA z)) ∧ am_P dC dI sA z t r.2 t.heap ∧ ∀ q, q < z → t.heap[q]? = st.heap[q]?
def am_Pc (dC : Nat → ClassId) (dI : Nat → Nat → Nat) (sA : Nat → Nat) (z : Nat) (vs : List Value) (A : am_H) : Array Value → State → Prop := va_Pc (vs.map (am_tr sA z)) (fun U => am_G dC dI sA z U ∧ am_P dC dI sA z U A U.heap)
theorem am_blind {dC : Nat → ClassId} {dI : Nat → Nat → Nat} {sA : Nat → Nat} {z : Nat} {vs : List Value} {A : am_H} : FrameBlind (am_Pc dC dI sA z vs A) := fun a U g mk h => ⟨h.1, h.2.1.calling g mk a, am_P.moved (U := U) (V := U.calling g mk a) (Vm.Alike.refl U.vm) h.2.2⟩
theorem am_ent_len {vs : List Value} {n : Nat} (h : (am_sl vs).length ≤ n) : (am_ent vs n).length = n := by
  unfold am_ent
  rw [List.length_append, List.length_replicate]
  omega
theorem am_sl_len (sA : Nat → Nat) (z : Nat) (vs : List Value) : (lg_sl (vs.map (am_tr sA z))).length = (am_sl vs).length := by
  induction vs with
  | nil => rfl
  | cons v vs ih =>
    show ((if (am_tr sA z v).category = 2 then [Slot.val (am_tr sA z v), Slot.second] else [Slot.val (am_tr sA z v)]) ++ lg_sl (vs.map (am_tr sA z))).length = (if v.category = 2 then some v :: none :: am_sl vs else some v :: am_sl vs).length
    rw [am_tr_cat, List.length_append, ih]
    split
    · simp; omega
    · simp; omega
theorem am_sl_args (sA : Nat → Nat) (z : Nat) (vs : List Value) : ∀ (k i : Nat) (v : Value), (am_sl vs)[i]? = some (some v) → (k + i, am_tr sA z v) ∈ lv_args k (vs.map (am_tr sA z)) := by
  induction vs with
  | nil =>
    intro k i v h
    simp [am_sl] at h
  | cons w vs ih =>
    intro k i v h
    show (k + i, am_tr sA z v) ∈ (k, am_tr sA z w) :: lv_args (if (am_tr sA z w).category = 2 then k + 2 else k + 1) (vs.map (am_tr sA z))
    rw [am_tr_cat]
    unfold am_sl at h
    split at h
    · rename_i hc
      rw [if_pos hc]
      match i, h with
      | 0, h =>
        simp at h
        subst h
        exact List.mem_cons_self
      | 1, h => simp at h
      | j + 2, h =>
        simp at h
        have := ih (k + 2) j v h
        rw [show k + (j + 2) = k + 2 + j by omega]
        exact List.mem_cons_of_mem _ this
    · rename_i hc
      rw [if_neg hc]
      match i, h with
      | 0, h =>
        simp at h
        subst h
        exact List.mem_cons_self
      | j + 1, h =>
        simp at h
        have := ih (k + 1) j v h
        rw [show k + (j + 1) = k + 1 + j by omega]
        exact List.mem_cons_of_mem _ this
theorem am_ent_LR {sA : Nat → Nat} {z : Nat} {vs : List Value} {n : Nat} (h : (am_sl vs).length ≤ n) : am_LR sA z (am_ent vs n) ((lg_sl (vs.map (am_tr sA z)) ++ List.replicate (n - (lg_sl (vs.map (am_tr sA z))).length) Slot.unset).toArray) := by
  obtain ⟨h1, h2, h3⟩ := lv_entry (vs.map (am_tr sA z)) (n := n) (by rw [am_sl_len]; exact h)
  refine ⟨by rw [h1, am_ent_len h], h2, fun i v hi => ?_⟩
  have hi2 : (am_sl vs)[i]? = some (some v) := by
    unfold am_ent at hi
    by_cases hlt : i < (am_sl vs).length
    · rw [List.getElem?_append_left hlt] at hi
      exact hi
    · rw [List.getElem?_append_right (Nat.not_lt.mp hlt)] at hi
      have := List.mem_of_getElem? hi
      have := List.eq_of_mem_replicate this
      cases this
  have := am_sl_args sA z vs 0 i v hi2
  rw [Nat.zero_add] at this
  exact h3 _ this
/-- what a call needs of the tables: n parameters (without the receiver) -/
def am_Cl (J : am_I) (y : MethodName) (n : Nat) : Prop := J.1 = y.cls ∧ plainName y.cls = true ∧ Cond.code y J.2.1 J.2.2.1 J.2.2.2.1 ∈ am_ws ∧ Cond.initialized y.cls ∈ am_ws ∧ (y.cls ≠ "java/lang/invoke/MethodHandle" ∧ y.cls ≠ "java/lang/invoke/VarHandle" ∧ (parseMethodDescriptor y.desc).map (fun d => d.parameters.length) = some n) ∧ J.2.2.1 ≤ 18 ∧ (J.2.2.2.2 = true → y.name = "<init>")
theorem am_met {l : Launch} {J : am_I} {y : MethodName} {n : Nat} (hc : am_Cl J y n) {d : Nat} {f : am_F} (hf : am_S l J 0 d f) {vs : List Value} {A : am_H} {r : am_R} (hsl : (am_sl vs).length ≤ J.2.2.1) (hr : f (am_ent vs J.2.2.1) [] A = some r) (dC : Nat → ClassId) (dI : Nat → Nat → Nat) (sA : Nat → Nat) (z : Nat) :
    Met l y (Cond.code y J.2.1 J.2.2.1 J.2.2.2.1 :: am_ws) (am_rm d (r.2.1 - A.1) (r.2.2.1 - A.2.1)) (am_Pc dC dI sA z vs A) (am_Q dC dI sA z r) (r.2.1 - A.1) (r.2.2.1 - A.2.1) (fun q => z ≤ q) := by
  obtain ⟨j1, j2, j3, j4, j5, j6, j7⟩ := hc
  refine Met.ofW (cc := J.2.1) (maxL := J.2.2.1) (ret := J.2.2.2.1) j2 rfl ?_
  intro p e s m args below meth c s₁ B hml hv
  obtain ⟨rfl, hG, hP⟩ := hv
  have hts := atoms_spec (ws := Cond.code y J.2.1 J.2.2.1 J.2.2.2.1 :: am_ws) B.pre
  have hown : s.vm.findClass J.1 = some m.cls := by rw [j1]; exact findClass_of_methodNamed B.named
  have hlk := B.notSynchronized
  have hrt := B.returns
  have hx := B.exec
  have hb := B.bytes
  rw [lg_entry_eq]
  obtain ⟨-, -, h3⟩ := hf _ [] A r hr (am_ent_len hsl)
  refine h3 dC dI sA z p e _ s m _ below meth c s.heap [] 0 0 _ _ _ _ ⟨hx, hb, hml, hrt, hlk, fun h => (name_of_methodNamed B.named B.method).1.trans (j7 h), hown, fun w hw => hts w (List.mem_cons_of_mem _ hw), hG⟩ hP (fun _ _ => rfl) (fun q hq => by cases hq) (am_ent_LR hsl) (Nat.le_refl _) (Nat.le_refl _) (Nat.zero_add _) (Nat.zero_add _) (Nat.le_refl _) (Nat.le_refl _) ?_
  intro pc ls H locs ins hd hok hP1 hz1 hl1
  rcases hok with ⟨g1, g2, rfl⟩ | ⟨ty, x, g1, g2, g3, rfl⟩ | ⟨x, g1, g2, rfl⟩ | ⟨C, g1, g2, rfl⟩
  · obtain ⟨v, A1⟩ := r
    cases g2
    exact W.vret hx hb (hrt.trans g1) (fun t ht hW => ⟨rfl, by rw [ht]; exact hP1.moved hW.alike, fun q hq => by rw [ht]; exact hz1 q hq⟩) hl1 hd hlk
  · obtain ⟨v, A1⟩ := r
    cases g2
    exact W.zret hx hb (hrt.trans g1) g3 (fun t ht hW => ⟨rfl, by rw [ht]; exact hP1.moved hW.alike, fun q hq => by rw [ht]; exact hz1 q hq⟩) hl1 hd hlk
  · obtain ⟨v, A1⟩ := r
    cases g2
    exact W.lret hx hb (hrt.trans g1) (fun t ht hW => ⟨rfl, by rw [ht]; exact hP1.moved hW.alike, fun q hq => by rw [ht]; exact hz1 q hq⟩) hl1 hd hlk
  · obtain ⟨v, A1⟩ := r
    rcases g2 with g2 | ⟨q0, g2⟩
    · cases g2
      exact W.aret hx hb (hrt.trans g1) (Or.inl ⟨C, rfl⟩) (Or.inl rfl) (fun t ht hW => ⟨rfl, by rw [ht]; exact hP1.moved hW.alike, fun q hq => by rw [ht]; exact hz1 q hq⟩) hl1 hd hlk
    · cases g2
      exact W.aret hx hb (hrt.trans g1) (Or.inl ⟨C, rfl⟩) (Or.inr ⟨am_ad sA z q0, rfl⟩) (fun t ht hW => ⟨rfl, by rw [ht]; exact hP1.moved hW.alike, fun q hq => by rw [ht]; exact hz1 q hq⟩) hl1 hd hlk
/-! calls -/
theorem am_ret {l : Launch} {dC : Nat → ClassId} {dI : Nat → Nat → Nat} {sA : Nat → Nat} {z : Nat} {p : Program} {e : Env} {R : Room} {s : State} {m : MethodId} {args : Array Value} {below : List Frame} {meth : Method} {c : Code} {H : Heap} {locs : List Loc} {cells slots : Nat} {ls : Array Slot} {Q : State → Prop} {pc mc ms : Nat} {st0 rest : List Value} {r : am_R} {a : Array Value}
    (hrun : va_Run p l e R s m args below meth c H locs cells slots mc ms (F0 m pc ls st0) rest (am_Q dC dI sA z r a) (fun q => z ≤ q)) (hz : ∀ q, q < z → H[q]? = s.heap[q]?) (hl : ∀ q ∈ locs, z ≤ q.base)
    (kk : ∀ (H' : Heap) (locs' : List Loc), am_P dC dI sA z s r.2 H' → (∀ q, q < z → H'[q]? = s.heap[q]?) → (∀ q ∈ locs', z ≤ q.base) → W p l e R s m args below meth c H' locs' (cells + mc) (slots + ms) Q (F0 m (pc + 3) ls ((r.1.map (am_tr sA z)).toList ++ rest))) : W p l e R s m args below meth c H locs cells slots Q (F0 m pc ls st0) := by
  intro T hT X
  obtain ⟨v, st₀, t, T', L, h0, X', hL, e1, e2, ⟨hv, hP1, hk1⟩, st⟩ := hrun T hT X
  cases hv
  have hal : t.vm.Alike s.vm := by rw [← e2]; exact X'.warmed.alike.symm
  obtain ⟨t2, a1, b1⟩ := kk T'.heap (locs ++ L) (by rw [e1]; exact hP1.moved hal) (fun q hq => by rw [e1, hk1 q hq, h0]; exact hz q hq) (fun q hq => by
    rcases List.mem_append.mp hq with h | h
    · exact hl q h
    · exact hL q h) T' rfl X'
  exact ⟨t2, st t2 a1, b1⟩
theorem am_mapr (sA : Nat → Nat) (z : Nat) (o : Option Value) (rest : List Value) : (o.map (am_tr sA z)).toList ++ rest.map (am_tr sA z) = (o.toList ++ rest).map (am_tr sA z) := by
  cases o <;> rfl
theorem am_stk (sA : Nat → Nat) (z : Nat) (st : List Value) (n : Nat) : st.map (am_tr sA z) = (((st.take n).reverse).map (am_tr sA z)).reverse ++ (st.drop n).map (am_tr sA z) := by
  rw [List.map_reverse, List.reverse_reverse, ← List.map_append, List.take_append_drop]
theorem s_callS {l : Launch} {I : am_I} {pc d : Nat} {f : am_F} {k : am_K} {lab n idx : Nat} {J : am_I} {y : MethodName} (hc : am_Cl J y n) (hw1 : Cond.methodLink I.1 idx y ∈ am_ws) (hw2 : Cond.static y ∈ am_ws) (hK : ∀ d', am_S l J 0 d' (k d' lab)) (hd : decode I.2.1 pc = .ok (.invokestatic idx, 3)) (hf : am_S l I (pc + 3) d f) : am_S l I pc d (i_call k d lab n J.2.2.1 f) := by
  intro lo st A r hg
  unfold i_call at hg
  cases d with
  | zero => cases hg
  | succ d' =>
    simp only at hg
    split at hg
    · rename_i hh
      obtain ⟨hn, hcat, hsl⟩ := hh
      obtain ⟨r1, hr1, hg⟩ := Option.bind_eq_some_iff.mp hg
      obtain ⟨b1, b2, -⟩ := hK d' _ _ _ _ hr1 (am_ent_len hsl)
      refine am_go0 (hf _ _ _ _ hg) rfl b1 b2 ?_
      intro dC dI sA z p e R s m args below meth c H locs cells slots ls Q hlo hX hP hz hl hL hfr hlc hcs hss kk
      obtain ⟨hx, hb, hml, -, -, -, hown, hts, hG⟩ := hX
      have hM := am_met hc (hK d') hsl hr1 dC dI sA z
      obtain ⟨j1, j2, j3, j4, j5, j6, j7⟩ := hc
      have hpre : ∀ U : State, U.heap = H → s.WarmedH U.vm → am_Pc dC dI sA z (st.take n).reverse A (((st.take n).reverse).map (am_tr sA z)).toArray U := fun U hU hW => ⟨rfl, hG.warm hW (fun q hq => by rw [hU]; exact hz q hq), by rw [hU]; exact hP.moved hW.alike⟩
      have hrm : (am_rm d' (r1.2.1 - A.1) (r1.2.2.1 - A.2.1)).frames + 1 ≤ R.frames ∧ 8 + (J.2.2.1 + 11) + (am_rm d' (r1.2.1 - A.1) (r1.2.2.1 - A.2.1)).locals ≤ R.locals := ⟨hfr, by show 8 + (J.2.2.1 + 11) + d' * 37 ≤ R.locals; omega⟩
      have hrest : 2 * (F0 m pc ls (st.map (am_tr sA z))).monitorRoom + (((st.drop n).map (am_tr sA z)).map fun v => v.category).sum ≤ 8 := by
        show 2 * 0 + _ ≤ 8
        rw [am_cats]
        omega
      have hGd : GoodIn am_ws (va_wsS I.1 idx y (Cond.code y J.2.1 J.2.2.1 J.2.2.2.1 :: am_ws)) := am_good (fun w hw => by
        unfold va_wsS at hw
        rcases List.mem_append.mp hw with h | h
        · simp only [List.mem_cons, List.not_mem_nil, or_false] at h
          rcases h with rfl | rfl | rfl
          · exact hw1
          · exact hw2
          · exact j4
        · rcases List.mem_cons.mp h with rfl | h
          · exact j3
          · exact h)
      refine am_ret (rest := (st.drop n).map (am_tr sA z)) (va_runS (nL := I.2.2.1) (Ts := am_ws) (own := I.1) ⟨hx, hb, hml, hown, hts⟩ hM (va_cwS n hts hGd rfl rfl rfl j5 hrm) ⟨am_blind, hpre⟩ rfl (by rw [List.length_map, List.length_reverse, List.length_take]; omega) (hL.1.trans hlo) (am_stk sA z st n) hrest hd ⟨hcs, hss⟩) hz hl (fun H' locs' hP' hz' hl' => ?_)
      rw [am_mapr]
      exact kk H' locs' ls hP' hz' hl' hL
    · cases hg
theorem s_callSN {l : Launch} {I : am_I} {pc d : Nat} {f : am_F} {k : am_K} {lab n idx : Nat} {J : am_I} {y : MethodName} (hc : am_Cl J y n) {host : String} (hw1 : (I.1, idx, y, host) ∈ am_nestM) (hw2 : Cond.static y ∈ am_ws) (hK : ∀ d', am_S l J 0 d' (k d' lab)) (hd : decode I.2.1 pc = .ok (.invokestatic idx, 3)) (hf : am_S l I (pc + 3) d f) : am_S l I pc d (i_call k d lab n J.2.2.1 f) := by
  intro lo st A r hg
  unfold i_call at hg
  cases d with
  | zero => cases hg
  | succ d' =>
    simp only at hg
    split at hg
    · rename_i hh
      obtain ⟨hn, hcat, hsl⟩ := hh
      obtain ⟨r1, hr1, hg⟩ := Option.bind_eq_some_iff.mp hg
      obtain ⟨b1, b2, -⟩ := hK d' _ _ _ _ hr1 (am_ent_len hsl)
      refine am_go0 (hf _ _ _ _ hg) rfl b1 b2 ?_
      intro dC dI sA z p e R s m args below meth c H locs cells slots ls Q hlo hX hP hz hl hL hfr hlc hcs hss kk
      obtain ⟨hx, hb, hml, -, -, -, hown, hts, hG⟩ := hX
      have hM := am_met hc (hK d') hsl hr1 dC dI sA z
      obtain ⟨j1, j2, j3, j4, j5, j6, j7⟩ := hc
      have hpre : ∀ U : State, U.heap = H → s.WarmedH U.vm → am_Pc dC dI sA z (st.take n).reverse A (((st.take n).reverse).map (am_tr sA z)).toArray U := fun U hU hW => ⟨rfl, hG.warm hW (fun q hq => by rw [hU]; exact hz q hq), by rw [hU]; exact hP.moved hW.alike⟩
      have hrm : (am_rm d' (r1.2.1 - A.1) (r1.2.2.1 - A.2.1)).frames + 1 ≤ R.frames ∧ 8 + (J.2.2.1 + 11) + (am_rm d' (r1.2.1 - A.1) (r1.2.2.1 - A.2.1)).locals ≤ R.locals := ⟨hfr, by show 8 + (J.2.2.1 + 11) + d' * 37 ≤ R.locals; omega⟩
      have hrest : 2 * (F0 m pc ls (st.map (am_tr sA z))).monitorRoom + (((st.drop n).map (am_tr sA z)).map fun v => v.category).sum ≤ 8 := by
        show 2 * 0 + _ ≤ 8
        rw [am_cats]
        omega
      have hGd : GoodIn am_ws (Cond.code y J.2.1 J.2.2.1 J.2.2.2.1 :: am_ws) := am_good (fun w hw => by
        rcases List.mem_cons.mp hw with rfl | h
        · exact j3
        · exact h)
      refine am_ret (rest := (st.drop n).map (am_tr sA z)) (va_runSN (nL := I.2.2.1) (Ts := am_ws) (own := I.1) ⟨hx, hb, hml, hown, hts⟩ hM ⟨va_cnB n hts hGd rfl rfl rfl (hG.2.1 _ hw1) (hts _ j4) j5 hrm, hts _ hw2, trivial⟩ ⟨am_blind, hpre⟩ rfl (by rw [List.length_map, List.length_reverse, List.length_take]; omega) (hL.1.trans hlo) (am_stk sA z st n) hrest hd ⟨hcs, hss⟩) hz hl (fun H' locs' hP' hz' hl' => ?_)
      rw [am_mapr]
      exact kk H' locs' ls hP' hz' hl' hL
    · cases hg
theorem s_callV {l : Launch} {I : am_I} {pc d : Nat} {f : am_F} {k : am_K} {lab n idx ci N : Nat} {C : String} {T : u_T} {ty : Nat → FieldType} {J : am_I} {y : MethodName} (fx : am_Fx ci C T N ty) (hyC : y.cls = C) (hc : am_Cl J y n) (hw1 : Cond.methodLink I.1 idx y ∈ am_ws) (hw2 : Cond.instanceMethod y ∈ am_ws) (hw3 : Cond.selects C y y ∈ am_ws) (hK : ∀ d', am_S l J 0 d' (k d' lab)) (hd : decode I.2.1 pc = .ok (.invokevirtual idx, 3)) (hf : am_S l I (pc + 3) d f) : am_S l I pc d (i_recv ci n (i_call k d lab (n + 1) J.2.2.1 f)) := by
  intro lo st A r hg
  unfold i_recv at hg
  split at hg
  · rename_i p0 hp0
    obtain ⟨fs, hobj, hg⟩ := Option.bind_eq_some_iff.mp hg
    have htk : (st.take (n + 1)).reverse = .ref p0 :: (st.take n).reverse := by
      rw [List.take_add_one, hp0]
      simp
    unfold i_call at hg
    cases d with
    | zero => cases hg
    | succ d' =>
      simp only at hg
      split at hg
      · rename_i hh
        obtain ⟨hn, hcat, hsl⟩ := hh
        obtain ⟨r1, hr1, hg⟩ := Option.bind_eq_some_iff.mp hg
        obtain ⟨b1, b2, -⟩ := hK d' _ _ _ _ hr1 (am_ent_len hsl)
        refine am_go0 (hf _ _ _ _ hg) rfl b1 b2 ?_
        intro dC dI sA z p e R s m args below meth c H locs cells slots ls Q hlo hX hP hz hl hL hfr hlc hcs hss kk
        obtain ⟨hx, hb, hml, -, -, -, hown, hts, hG⟩ := hX
        have hM := am_met hc (hK d') hsl hr1 dC dI sA z
        obtain ⟨j1, j2, j3, j4, j5, j6, j7⟩ := hc
        have hpre : ∀ U : State, U.heap = H → s.WarmedH U.vm → am_Pc dC dI sA z (st.take (n + 1)).reverse A (Value.ref (am_ad sA z p0) :: ((st.take n).reverse).map (am_tr sA z)).toArray U := fun U hU hW => ⟨by rw [htk]; rfl, hG.warm hW (fun q hq => by rw [hU]; exact hz q hq), by rw [hU]; exact hP.moved hW.alike⟩
        have hrm : (am_rm d' (r1.2.1 - A.1) (r1.2.2.1 - A.2.1)).frames + 1 ≤ R.frames ∧ 8 + (J.2.2.1 + 11) + (am_rm d' (r1.2.1 - A.1) (r1.2.2.1 - A.2.1)).locals ≤ R.locals := ⟨hfr, by show 8 + (J.2.2.1 + 11) + d' * 37 ≤ R.locals; omega⟩
        have hrest : 2 * (F0 m pc ls (st.map (am_tr sA z))).monitorRoom + (((st.drop (n + 1)).map (am_tr sA z)).map fun v => v.category).sum ≤ 8 := by
          show 2 * 0 + _ ≤ 8
          rw [am_cats]
          omega
        have hstk : st.map (am_tr sA z) = (((st.take n).reverse).map (am_tr sA z)).reverse ++ .ref (am_ad sA z p0) :: (st.drop (n + 1)).map (am_tr sA z) := by
          rw [am_stk sA z st (n + 1), htk, List.map_cons, List.reverse_cons, List.append_assoc]
          rfl
        have hcell := va_recv (cl := am_cl) (tys := []) hG.1 (am_one (a := am_ad sA z p0) (e := .inr (ci, fs.map (am_tr sA z))) (hP.2.2 _ _ (am_obj_at hobj)).2) fx.1 (q0 := 0) rfl
        have hGd : GoodIn am_ws (wsV I.1 idx C y (Cond.code y J.2.1 J.2.2.1 J.2.2.2.1 :: am_ws)) := am_good (fun w hw => by
          unfold wsV at hw
          rcases List.mem_append.mp hw with h | h
          · simp only [List.mem_cons, List.not_mem_nil, or_false] at h
            rcases h with rfl | rfl | rfl | rfl
            · exact hw1
            · exact hw2
            · exact hw3
            · rw [← hyC]; exact j4
          · rcases List.mem_cons.mp h with rfl | h
            · exact j3
            · exact h)
        refine am_ret (rest := (st.drop (n + 1)).map (am_tr sA z)) (va_runV (C := C) (nL := I.2.2.1) (Ts := am_ws) (own := I.1) ⟨hx, hb, hml, hown, hts⟩ hM (cwV n hts hGd rfl rfl rfl ⟨hyC, j5⟩ hrm) ⟨am_blind, hcell, hpre⟩ rfl (by rw [List.length_map, List.length_reverse, List.length_take]; omega) (hL.1.trans hlo) hstk hrest hd ⟨hcs, hss⟩) hz hl (fun H' locs' hP' hz' hl' => ?_)
        rw [am_mapr]
        exact kk H' locs' ls hP' hz' hl' hL
      · cases hg
  · cases hg
theorem s_callI {l : Launch} {I : am_I} {pc d : Nat} {f : am_F} {k : am_K} {lab n idx ci N : Nat} {C : String} {T : u_T} {ty : Nat → FieldType} {J : am_I} {y : MethodName} (fx : am_Fx ci C T N ty) (hyC : y.cls = C) (hc : am_Cl J y n) (hw1 : Cond.methodLink I.1 idx y ∈ am_ws) (hw2 : Cond.instanceMethod y ∈ am_ws) (hy1 : y.name = "<init>") (hrn : J.2.2.2.1 = none) (hK : ∀ d', am_S l J 0 d' (k d' lab)) (hd : decode I.2.1 pc = .ok (.invokespecial idx, 3)) (hf : am_S l I (pc + 3) d f) : am_S l I pc d (i_recv ci n (i_call k d lab (n + 1) J.2.2.1 f)) := by
  intro lo st A r hg
  unfold i_recv at hg
  split at hg
  · rename_i p0 hp0
    obtain ⟨fs, hobj, hg⟩ := Option.bind_eq_some_iff.mp hg
    have htk : (st.take (n + 1)).reverse = .ref p0 :: (st.take n).reverse := by
      rw [List.take_add_one, hp0]
      simp
    unfold i_call at hg
    cases d with
    | zero => cases hg
    | succ d' =>
      simp only at hg
      split at hg
      · rename_i hh
        obtain ⟨hn, hcat, hsl⟩ := hh
        obtain ⟨r1, hr1, hg⟩ := Option.bind_eq_some_iff.mp hg
        obtain ⟨b1, b2, -⟩ := hK d' _ _ _ _ hr1 (am_ent_len hsl)
        refine am_go0 (hf _ _ _ _ hg) rfl b1 b2 ?_
        intro dC dI sA z p e R s m args below meth c H locs cells slots ls Q hlo hX hP hz hl hL hfr hlc hcs hss kk
        obtain ⟨hx, hb, hml, -, -, -, hown, hts, hG⟩ := hX
        have hM := am_met hc (hK d') hsl hr1 dC dI sA z
        obtain ⟨j1, j2, j3, j4, j5, j6, j7⟩ := hc
        have hpre : ∀ U : State, U.heap = H → s.WarmedH U.vm → am_Pc dC dI sA z (st.take (n + 1)).reverse A (Value.ref (am_ad sA z p0) :: ((st.take n).reverse).map (am_tr sA z)).toArray U := fun U hU hW => ⟨by rw [htk]; rfl, hG.warm hW (fun q hq => by rw [hU]; exact hz q hq), by rw [hU]; exact hP.moved hW.alike⟩
        have hrm : (am_rm d' (r1.2.1 - A.1) (r1.2.2.1 - A.2.1)).frames + 1 ≤ R.frames ∧ 8 + (J.2.2.1 + 11) + (am_rm d' (r1.2.1 - A.1) (r1.2.2.1 - A.2.1)).locals ≤ R.locals := ⟨hfr, by show 8 + (J.2.2.1 + 11) + d' * 37 ≤ R.locals; omega⟩
        have hrest : 2 * (F0 m pc ls (st.map (am_tr sA z))).monitorRoom + (((st.drop (n + 1)).map (am_tr sA z)).map fun v => v.category).sum ≤ 8 := by
          show 2 * 0 + _ ≤ 8
          rw [am_cats]
          omega
        have hstk : st.map (am_tr sA z) = (((st.take n).reverse).map (am_tr sA z)).reverse ++ .ref (am_ad sA z p0) :: (st.drop (n + 1)).map (am_tr sA z) := by
          rw [am_stk sA z st (n + 1), htk, List.map_cons, List.reverse_cons, List.append_assoc]
          rfl
        have hcell := va_recv (cl := am_cl) (tys := []) hG.1 (am_one (a := am_ad sA z p0) (e := .inr (ci, fs.map (am_tr sA z))) (hP.2.2 _ _ (am_obj_at hobj)).2) fx.1 (q0 := 0) rfl
        have hGd : GoodIn am_ws (Cond.code y J.2.1 J.2.2.1 J.2.2.2.1 :: am_ws) := am_good (fun w hw => by
          rcases List.mem_cons.mp hw with rfl | h
          · exact j3
          · exact h)
        refine am_ret (rest := (st.drop (n + 1)).map (am_tr sA z)) (va_runI (nL := I.2.2.1) (Ts := am_ws) (own := I.1) ⟨hx, hb, hml, hown, hts⟩ hM (cwI n hts hGd (by rw [hrn]) rfl rfl (hts _ j4) (hts _ hw1) (hts _ hw2) hy1 j5 hrm) ⟨am_blind, hpre⟩ rfl (by rw [List.length_map, List.length_reverse, List.length_take]; omega) (hL.1.trans hlo) hstk hrest hd ⟨hcs, hss⟩) hz hl (fun H' locs' hP' hz' hl' => ?_)
        rw [am_mapr]
        exact kk H' locs' ls hP' hz' hl' hL
      · cases hg
  · cases hg
/-! the switch over 0 .. n -/
theorem s_switch {l : Launch} {I : am_I} {pc d : Nat} {f : am_F} {ts : List am_F} {df : am_F} {tgs : List Nat} {dflt lo hi : Int} {offs : Array Int} {len tgt : Nat} (hd : decode I.2.1 pc = .ok (.tableswitch dflt lo hi offs, len)) (hlo : lo = 0) (hhi : hi + 1 = (ts.length : Int)) (hlen : ts.length = tgs.length) (hts : ∀ q ∈ ts.zip tgs, am_S l I q.2 d q.1) (hof : offs.toList.map (fun o => (pc : Int) + o) = tgs.map Int.ofNat ∧ (pc : Int) + dflt = (tgt : Int)) (hdf : am_S l I tgt d df) : am_S l I pc d (i_switch ts df) := by
  subst hlo
  intro lo0 st A r hg
  unfold i_switch at hg
  split at hg
  · rename_i x s0
    split at hg
    · rename_i hx
      exact am_go1 (hdf _ _ _ _ hg) (fun _ _ _ _ _ _ _ _ _ _ _ _ _ _ _ _ _ _ _ hX _ _ _ k => lv_tableOut hX.1 hX.2.1 hd (Or.inl (by have := Int32.lt_iff_toInt_lt.mp hx; simpa using this)) hof.2 k)
    · rename_i hx
      have hx0 : 0 ≤ x.toInt := by
        have := fun h => hx (Int32.lt_iff_toInt_lt.mpr h)
        simp at this
        omega
      have hc : ((x.toNatClampNeg : Nat) : Int) = x.toInt := by
        unfold Int32.toNatClampNeg
        omega
      split at hg
      · rename_i t ht
        have hj := (List.getElem?_eq_some_iff.mp ht).1
        have hj2 : x.toNatClampNeg < tgs.length := by omega
        have e1 : tgs[x.toNatClampNeg]? = some tgs[x.toNatClampNeg] := List.getElem?_eq_getElem hj2
        have hz : (ts.zip tgs)[x.toNatClampNeg]? = some (t, tgs[x.toNatClampNeg]) := by
          rw [List.getElem?_zip_eq_some]
          exact ⟨ht, e1⟩
        have hS := hts _ (List.mem_of_getElem? hz)
        have e2 : (offs.toList.map (fun o => (pc : Int) + o))[x.toNatClampNeg]? = some (Int.ofNat tgs[x.toNatClampNeg]) := by
          rw [hof.1, List.getElem?_map, e1]
          rfl
        rw [List.getElem?_map, Option.map_eq_some_iff] at e2
        obtain ⟨off, e3, e4⟩ := e2
        exact am_go1 (hS _ _ _ _ hg) (fun _ _ _ _ _ _ _ _ _ _ _ _ _ _ _ _ _ _ _ hX _ _ _ k => lv_tableIn (off := off) hX.1 hX.2.1 hd (by omega) (by omega) (by rw [show (x.toInt - 0).toNat = x.toNatClampNeg by omega, ← Array.getElem?_toList]; exact e3) e4 k)
      · rename_i ht
        have hj : ts.length ≤ x.toNatClampNeg := List.getElem?_eq_none_iff.mp ht
        exact am_go1 (hdf _ _ _ _ hg) (fun _ _ _ _ _ _ _ _ _ _ _ _ _ _ _ _ _ _ _ hX _ _ _ k => lv_tableOut hX.1 hX.2.1 hd (Or.inr (by omega)) hof.2 k)
  · cases hg
/-! the whole table: every label's block is sound, so every run is -/
def am_OK (l : Launch) (N : Nat → Option (am_I × Nat)) (k : am_K) : Prop := ∀ (lab d : Nat) (J : am_I) (pc : Nat), N lab = some (J, pc) → am_S l J pc d (k d lab)
theorem am_sound {l : Launch} {N : Nat → Option (am_I × Nat)} {T : Nat → am_B} (h : ∀ k, am_OK l N k → ∀ (lab d : Nat) (J : am_I) (pc : Nat), N lab = some (J, pc) → am_S l J pc d (T lab k d)) : ∀ n, am_OK l N (am_run T n) := by
  intro n
  induction n with
  | zero => intro lab d J pc _ lo st A r hg; cases hg
  | succ n ih => exact fun lab d J pc hN => h _ ih lab d J pc hN
/-- a run ends with r, from some number of steps on -/
def am_Ev (T : Nat → am_B) (d lab : Nat) (lo : am_L) (st : List Value) (A : am_H) (r : am_R) : Prop := ∃ n0, ∀ n, n0 ≤ n → am_run T n d lab lo st A = some r
end
section
/-! the program as blocks (printed by my program out of the listing) -/
abbrev dvX0 : List Value := [.int 0, .null, .null, .null, .null]
abbrev dvX1 : List Value := [.null, .int 0, .int 0]
abbrev dvX2 : List Value := [.int 0, .int 0, .int 0]
abbrev dvX3 : List Value := [.int 0, .int 0, .null, .null, .int 0, .null, .null, .null]
abbrev dvX4 : List Value := [.int 0, .int 0, .int 0, .int 0, .int 0, .int 0, .null, .null]
abbrev dvX5 : List Value := [.null, .null, .int 0, .null, .null, .null, .null, .null]
abbrev dvX6 : List Value := [.int 0, .int 0, .null, .null, .null, .null, .null, .null, .null, .null, .null, .null, .null, .null, .null, .null, .null, .null, .null, .null, .null, .int 0, .null, .int 0, .int 0, .int 0]
abbrev I_0 : am_I := ("SlabImage", prog_1_method_1_code, 1, (Option.none : Option FieldType), true)
abbrev I_1 : am_I := ("SlabImage$Store", prog_5_method_1_code, 2, (Option.none : Option FieldType), true)
abbrev I_2 : am_I := ("SlabImage$Variable", prog_6_method_1_code, 1, (Option.none : Option FieldType), true)
abbrev I_3 : am_I := ("SlabImage$AttributeList", prog_2_method_1_code, 1, (Option.none : Option FieldType), true)
abbrev I_4 : am_I := ("SlabImage$Selection", prog_4_method_1_code, 1, (Option.none : Option FieldType), true)
abbrev I_5 : am_I := ("SlabImage$ByteRow", prog_3_method_1_code, 1, (Option.none : Option FieldType), true)
abbrev I_6 : am_I := ("SlabImage", prog_1_method_2_code, 3, (Option.some FieldType.int), false)
abbrev I_7 : am_I := ("SlabImage$Store", prog_5_method_3_code, 3, (Option.some FieldType.int), false)
abbrev I_8 : am_I := ("SlabImage", prog_1_method_23_code, 1, (Option.some FieldType.boolean), false)
abbrev I_9 : am_I := ("SlabImage", prog_1_method_28_code, 4, (Option.some FieldType.int), false)
abbrev I_10 : am_I := ("SlabImage$Store", prog_5_method_4_code, 2, (Option.some FieldType.boolean), false)
abbrev I_11 : am_I := ("SlabImage", prog_1_method_3_code, 5, (Option.some FieldType.int), false)
abbrev I_12 : am_I := ("SlabImage$Store", prog_5_method_5_code, 5, (Option.some FieldType.int), false)
abbrev I_13 : am_I := ("SlabImage", prog_1_method_24_code, 1, (Option.some FieldType.boolean), false)
abbrev I_14 : am_I := ("SlabImage$Store", prog_5_method_7_code, 2, (Option.some FieldType.boolean), false)
abbrev I_15 : am_I := ("SlabImage$Store", prog_5_method_6_code, 2, (Option.some FieldType.boolean), false)
abbrev I_16 : am_I := ("SlabImage$Store", prog_5_method_8_code, 2, (Option.some FieldType.int), false)
abbrev I_17 : am_I := ("SlabImage$Variable", prog_6_method_2_code, 5, (Option.none : Option FieldType), false)
abbrev I_18 : am_I := ("SlabImage$Variable", prog_6_method_3_code, 2, (Option.none : Option FieldType), false)
abbrev I_19 : am_I := ("java/util/Arrays", prog_9_method_103_code, 4, (Option.none : Option FieldType), false)
abbrev I_20 : am_I := ("SlabImage", prog_1_method_4_code, 7, (Option.some FieldType.int), false)
abbrev I_21 : am_I := ("SlabImage$Store", prog_5_method_10_code, 3, (Option.some (FieldType.object "SlabImage$AttributeList")), false)
abbrev I_22 : am_I := ("SlabImage$Store", prog_5_method_9_code, 2, (Option.some (FieldType.object "SlabImage$Variable")), false)
abbrev I_23 : am_I := ("SlabImage$AttributeList", prog_2_method_3_code, 6, (Option.some FieldType.int), false)
abbrev I_24 : am_I := ("SlabImage", prog_1_method_25_code, 2, (Option.some FieldType.boolean), false)
abbrev I_25 : am_I := ("SlabImage", prog_1_method_5_code, 4, (Option.some FieldType.int), false)
abbrev I_26 : am_I := ("SlabImage$AttributeList", prog_2_method_4_code, 4, (Option.some FieldType.int), false)
abbrev I_27 : am_I := ("SlabImage", prog_1_method_6_code, 4, (Option.some FieldType.int), false)
abbrev I_28 : am_I := ("SlabImage$Store", prog_5_method_12_code, 3, (Option.some FieldType.int), false)
abbrev I_29 : am_I := ("SlabImage$Store", prog_5_method_13_code, 5, (Option.some FieldType.int), false)
abbrev I_30 : am_I := ("SlabImage$Store", prog_5_method_11_code, 3, (Option.some FieldType.int), false)
abbrev I_31 : am_I := ("SlabImage", prog_1_method_7_code, 3, (Option.some FieldType.int), false)
abbrev I_32 : am_I := ("SlabImage$Store", prog_5_method_20_code, 3, (Option.some FieldType.long), false)
abbrev I_33 : am_I := ("SlabImage$Store", prog_5_method_17_code, 3, (Option.some FieldType.int), false)
abbrev I_34 : am_I := ("SlabImage$AttributeList", prog_2_method_5_code, 3, (Option.some FieldType.int), false)
abbrev I_35 : am_I := ("SlabImage", prog_1_method_27_code, 1, (Option.some FieldType.int), false)
abbrev I_36 : am_I := ("SlabImage$Variable", prog_6_method_11_code, 1, (Option.some FieldType.int), false)
abbrev I_37 : am_I := ("SlabImage$Variable", prog_6_method_4_code, 1, (Option.some FieldType.int), false)
abbrev I_38 : am_I := ("SlabImage$Store", prog_5_method_18_code, 5, (Option.some FieldType.int), false)
abbrev I_39 : am_I := ("SlabImage$Variable", prog_6_method_10_code, 1, (Option.some FieldType.int), false)
abbrev I_40 : am_I := ("SlabImage$Variable", prog_6_method_9_code, 1, (Option.some FieldType.int), false)
abbrev I_41 : am_I := ("SlabImage$Store", prog_5_method_19_code, 3, (Option.some FieldType.int), false)
abbrev I_42 : am_I := ("SlabImage$Store", prog_5_method_16_code, 3, (Option.some FieldType.int), false)
abbrev I_43 : am_I := ("SlabImage", prog_1_method_8_code, 1, (Option.some FieldType.int), false)
abbrev I_44 : am_I := ("SlabImage", prog_1_method_9_code, 6, (Option.some FieldType.int), false)
abbrev I_45 : am_I := ("SlabImage$Variable", prog_6_method_5_code, 5, (Option.some FieldType.boolean), false)
abbrev I_46 : am_I := ("SlabImage$Store", prog_5_method_15_code, 4, (Option.some FieldType.boolean), false)
abbrev I_47 : am_I := ("SlabImage$Variable", prog_6_method_7_code, 5, (Option.none : Option FieldType), false)
abbrev I_48 : am_I := ("SlabImage", prog_1_method_10_code, 5, (Option.some FieldType.long), false)
abbrev I_49 : am_I := ("SlabImage$Store", prog_5_method_14_code, 6, (Option.some FieldType.boolean), false)
abbrev I_50 : am_I := ("SlabImage$Variable", prog_6_method_6_code, 4, (Option.some FieldType.int), false)
abbrev I_51 : am_I := ("SlabImage", prog_1_method_11_code, 6, (Option.some FieldType.int), false)
abbrev I_52 : am_I := ("SlabImage$Selection", prog_4_method_2_code, 4, (Option.none : Option FieldType), false)
abbrev I_53 : am_I := ("SlabImage", prog_1_method_12_code, 8, (Option.some FieldType.int), false)
abbrev I_54 : am_I := ("SlabImage", prog_1_method_21_code, 2, (Option.some (FieldType.object "SlabImage$Selection")), false)
abbrev I_55 : am_I := ("SlabImage", prog_1_method_22_code, 2, (Option.some (FieldType.object "SlabImage$Selection")), false)
abbrev I_56 : am_I := ("SlabImage$Selection", prog_4_method_3_code, 1, (Option.some FieldType.long), false)
abbrev I_57 : am_I := ("SlabImage", prog_1_method_26_code, 5, (Option.some FieldType.boolean), false)
abbrev I_58 : am_I := ("SlabImage$Variable", prog_6_method_8_code, 8, (Option.none : Option FieldType), false)
abbrev I_59 : am_I := ("SlabImage$Selection", prog_4_method_4_code, 2, (Option.some FieldType.int), false)
abbrev I_60 : am_I := ("SlabImage", prog_1_method_13_code, 6, (Option.some FieldType.long), false)
abbrev I_61 : am_I := ("SlabImage", prog_1_method_14_code, 1, (Option.some FieldType.int), false)
abbrev I_62 : am_I := ("SlabImage", prog_1_method_15_code, 1, (Option.some FieldType.int), false)
abbrev I_63 : am_I := ("SlabImage", prog_1_method_16_code, 2, (Option.some FieldType.int), false)
abbrev I_64 : am_I := ("SlabImage$Store", prog_5_method_21_code, 2, (Option.some FieldType.int), false)
abbrev I_65 : am_I := ("SlabImage", prog_1_method_17_code, 5, (Option.some FieldType.long), false)
abbrev I_66 : am_I := ("SlabImage$Store", prog_5_method_22_code, 3, (Option.none : Option FieldType), false)
abbrev I_67 : am_I := ("SlabImage$ByteRow", prog_3_method_2_code, 1, (Option.none : Option FieldType), false)
abbrev I_68 : am_I := ("SlabImage$ByteRow", prog_3_method_5_code, 2, (Option.none : Option FieldType), false)
abbrev I_69 : am_I := ("SlabImage$ByteRow", prog_3_method_4_code, 4, (Option.none : Option FieldType), false)
abbrev I_70 : am_I := ("SlabImage$ByteRow", prog_3_method_3_code, 2, (Option.none : Option FieldType), false)
abbrev I_71 : am_I := ("SlabImage$ByteRow", prog_3_method_7_code, 3, (Option.none : Option FieldType), false)
abbrev I_72 : am_I := ("SlabImage$ByteRow", prog_3_method_6_code, 2, (Option.none : Option FieldType), false)
abbrev I_73 : am_I := ("SlabImage$AttributeList", prog_2_method_6_code, 3, (Option.none : Option FieldType), false)
abbrev I_74 : am_I := ("SlabImage$ByteRow", prog_3_method_8_code, 3, (Option.none : Option FieldType), false)
abbrev I_75 : am_I := ("SlabImage$Store", prog_5_method_23_code, 5, (Option.none : Option FieldType), false)
abbrev I_76 : am_I := ("SlabImage$Store", prog_5_method_24_code, 4, (Option.none : Option FieldType), false)
abbrev I_77 : am_I := ("SlabImage$Variable", prog_6_method_12_code, 4, (Option.none : Option FieldType), false)
abbrev I_78 : am_I := ("SlabImage$Store", prog_5_method_25_code, 5, (Option.none : Option FieldType), false)
abbrev I_79 : am_I := ("SlabImage$ByteRow", prog_3_method_9_code, 2, (Option.some FieldType.int), false)
abbrev I_80 : am_I := ("SlabImage", prog_1_method_18_code, 5, (Option.some FieldType.boolean), false)
abbrev I_81 : am_I := ("SlabImage", prog_1_method_19_code, 1, (Option.none : Option FieldType), false)
abbrev I_82 : am_I := ("SlabImage", prog_1_method_20_code, 2, (Option.some FieldType.int), false)
abbrev I_83 : am_I := ("SlabImage$Store", prog_5_method_2_code, 2, (Option.none : Option FieldType), false)
abbrev I_84 : am_I := ("SlabImage$AttributeList", prog_2_method_2_code, 1, (Option.none : Option FieldType), false)
abbrev I_85 : am_I := ("SlabImage$Store", prog_5_method_26_code, 3, (Option.some FieldType.boolean), false)
abbrev I_86 : am_I := ("SlabImage$ByteRow", prog_3_method_10_code, 1, (Option.none : Option FieldType), false)
abbrev I_87 : am_I := ("SlabImage$ByteRow", prog_3_method_12_code, 1, (Option.some FieldType.int), false)
abbrev I_88 : am_I := ("SlabImage$ByteRow", prog_3_method_11_code, 4, (Option.some FieldType.int), false)
abbrev I_89 : am_I := ("SlabImage$Store", prog_5_method_27_code, 6, (Option.some FieldType.boolean), false)
abbrev I_90 : am_I := ("SlabImage$ByteRow", prog_3_method_14_code, 1, (Option.some FieldType.int), false)
abbrev I_91 : am_I := ("SlabImage$ByteRow", prog_3_method_13_code, 1, (Option.some FieldType.int), false)
abbrev I_92 : am_I := ("SlabImage$AttributeList", prog_2_method_7_code, 8, (Option.some FieldType.boolean), false)
abbrev I_93 : am_I := ("SlabImage$ByteRow", prog_3_method_15_code, 3, (Option.some FieldType.int), false)
abbrev I_94 : am_I := ("SlabImage$ByteRow", prog_3_method_16_code, 1, (Option.none : Option FieldType), false)
abbrev I_95 : am_I := ("SlabImage$Store", prog_5_method_28_code, 4, (Option.some FieldType.boolean), false)
abbrev I_96 : am_I := ("SlabImage$Store", prog_5_method_29_code, 8, (Option.some FieldType.boolean), false)
abbrev I_97 : am_I := ("SlabImage$Store", prog_5_method_30_code, 4, (Option.none : Option FieldType), false)
abbrev I_98 : am_I := ("SlabImage$Variable", prog_6_method_13_code, 4, (Option.none : Option FieldType), false)
abbrev I_99 : am_I := ("SlabImage$Store", prog_5_method_31_code, 5, (Option.none : Option FieldType), false)
abbrev I_100 : am_I := ("SlabImage$ByteRow", prog_3_method_17_code, 3, (Option.some FieldType.boolean), false)
abbrev I_101 : am_I := ("SlabImageModel", prog_8_method_1_code, 1, (Option.none : Option FieldType), true)
abbrev I_102 : am_I := ("SlabImageModel", prog_8_method_30_code, 4, (Option.some FieldType.int), false)
abbrev I_103 : am_I := ("SlabImageModel", prog_8_method_2_code, 1, (Option.some FieldType.boolean), false)
abbrev I_104 : am_I := ("SlabImageModel", prog_8_method_27_code, 6, (Option.some FieldType.boolean), false)
abbrev I_105 : am_I := ("SlabImageModel", prog_8_method_29_code, 4, (Option.some FieldType.int), false)
abbrev I_106 : am_I := ("SlabImageModel", prog_8_method_32_code, 7, (Option.some FieldType.int), false)
abbrev I_107 : am_I := ("SlabImageModel", prog_8_method_25_code, 2, (Option.some FieldType.boolean), false)
abbrev I_108 : am_I := ("SlabImageModel", prog_8_method_28_code, 6, (Option.some FieldType.boolean), false)
abbrev I_109 : am_I := ("SlabImageModel", prog_8_method_31_code, 4, (Option.none : Option FieldType), false)
abbrev I_110 : am_I := ("SlabImageModel", prog_8_method_4_code, 1, (Option.some FieldType.int), false)
abbrev I_111 : am_I := ("SlabImageModel", prog_8_method_34_code, 8, (Option.some FieldType.int), false)
abbrev I_112 : am_I := ("SlabImageModel", prog_8_method_26_code, 2, (Option.some FieldType.boolean), false)
abbrev I_113 : am_I := ("SlabImageModel", prog_8_method_5_code, 2, (Option.some FieldType.boolean), false)
abbrev I_114 : am_I := ("SlabImageModel", prog_8_method_33_code, 5, (Option.some FieldType.int), false)
abbrev I_115 : am_I := ("SlabImageModel", prog_8_method_35_code, 7, (Option.some FieldType.int), false)
abbrev I_116 : am_I := ("SlabImageModel", prog_8_method_36_code, 4, (Option.some FieldType.int), false)
abbrev I_117 : am_I := ("SlabImageModel", prog_8_method_37_code, 3, (Option.some FieldType.int), false)
abbrev I_118 : am_I := ("SlabImageModel", prog_8_method_15_code, 4, (Option.some FieldType.long), false)
abbrev I_119 : am_I := ("SlabImageModel", prog_8_method_13_code, 7, (Option.some FieldType.int), false)
abbrev I_120 : am_I := ("SlabImageModel", prog_8_method_7_code, 3, (Option.some FieldType.boolean), false)
abbrev I_121 : am_I := ("SlabImageModel", prog_8_method_6_code, 4, (Option.some FieldType.int), false)
abbrev I_122 : am_I := ("SlabImageModel", prog_8_method_12_code, 4, (Option.some FieldType.int), false)
abbrev I_123 : am_I := ("SlabImageModel", prog_8_method_11_code, 5, (Option.some FieldType.int), false)
abbrev I_124 : am_I := ("SlabImageModel", prog_8_method_9_code, 3, (Option.some FieldType.int), false)
abbrev I_125 : am_I := ("SlabImageModel", prog_8_method_8_code, 4, (Option.some FieldType.int), false)
abbrev I_126 : am_I := ("SlabImageModel", prog_8_method_3_code, 1, (Option.some FieldType.int), false)
abbrev I_127 : am_I := ("SlabImageModel", prog_8_method_14_code, 6, (Option.some FieldType.int), false)
abbrev I_128 : am_I := ("SlabImageModel", prog_8_method_10_code, 4, (Option.some FieldType.int), false)
abbrev I_129 : am_I := ("SlabImageModel", prog_8_method_38_code, 1, (Option.some FieldType.int), false)
abbrev I_130 : am_I := ("SlabImageModel", prog_8_method_41_code, 5, (Option.some FieldType.int), false)
abbrev I_131 : am_I := ("SlabImageModel", prog_8_method_39_code, 7, (Option.some FieldType.boolean), false)
abbrev I_132 : am_I := ("SlabImageModel", prog_8_method_42_code, 4, (Option.some FieldType.boolean), false)
abbrev I_133 : am_I := ("SlabImageModel", prog_8_method_40_code, 6, (Option.some FieldType.int), false)
abbrev I_134 : am_I := ("SlabImageModel", prog_8_method_43_code, 4, (Option.some FieldType.long), false)
abbrev I_135 : am_I := ("SlabImageModel", prog_8_method_44_code, 5, (Option.some FieldType.int), false)
abbrev I_136 : am_I := ("SlabImageModel", prog_8_method_48_code, 6, (Option.some FieldType.int), false)
abbrev I_137 : am_I := ("SlabImageModel", prog_8_method_47_code, 5, (Option.some FieldType.boolean), false)
abbrev I_138 : am_I := ("SlabImageModel", prog_8_method_45_code, 3, (Option.some FieldType.int), false)
abbrev I_139 : am_I := ("SlabImageModel", prog_8_method_46_code, 4, (Option.some FieldType.long), false)
abbrev I_140 : am_I := ("SlabImageModel", prog_8_method_49_code, 3, (Option.some FieldType.long), false)
abbrev I_141 : am_I := ("SlabImageModel", prog_8_method_50_code, 1, (Option.some FieldType.int), false)
abbrev I_142 : am_I := ("SlabImageModel", prog_8_method_51_code, 1, (Option.some FieldType.int), false)
abbrev I_143 : am_I := ("SlabImageModel", prog_8_method_52_code, 2, (Option.some FieldType.int), false)
abbrev I_144 : am_I := ("SlabImageModel", prog_8_method_53_code, 7, (Option.some FieldType.long), false)
abbrev I_145 : am_I := ("SlabImageModel", prog_8_method_24_code, 5, (Option.none : Option FieldType), false)
abbrev I_146 : am_I := ("SlabImageModel", prog_8_method_17_code, 4, (Option.none : Option FieldType), false)
abbrev I_147 : am_I := ("SlabImageModel", prog_8_method_16_code, 2, (Option.none : Option FieldType), false)
abbrev I_148 : am_I := ("SlabImageModel", prog_8_method_20_code, 3, (Option.none : Option FieldType), false)
abbrev I_149 : am_I := ("SlabImageModel", prog_8_method_18_code, 2, (Option.none : Option FieldType), false)
abbrev I_150 : am_I := ("SlabImageModel", prog_8_method_21_code, 5, (Option.none : Option FieldType), false)
abbrev I_151 : am_I := ("SlabImageModel", prog_8_method_19_code, 2, (Option.none : Option FieldType), false)
abbrev I_152 : am_I := ("SlabImageModel", prog_8_method_22_code, 6, (Option.none : Option FieldType), false)
abbrev I_153 : am_I := ("SlabImageModel", prog_8_method_23_code, 9, (Option.none : Option FieldType), false)
abbrev I_154 : am_I := ("SlabImageModel", prog_8_method_54_code, 5, (Option.some FieldType.boolean), false)
abbrev I_155 : am_I := ("SlabImageModel", prog_8_method_55_code, 1, (Option.none : Option FieldType), false)
abbrev I_156 : am_I := ("SlabImageModel", prog_8_method_66_code, 3, (Option.some FieldType.int), false)
abbrev I_157 : am_I := ("SlabImageModel", prog_8_method_63_code, 4, (Option.some FieldType.boolean), false)
abbrev I_158 : am_I := ("SlabImageModel", prog_8_method_56_code, 4, (Option.some FieldType.int), false)
abbrev I_159 : am_I := ("SlabImageModel", prog_8_method_61_code, 6, (Option.some FieldType.boolean), false)
abbrev I_160 : am_I := ("SlabImageModel", prog_8_method_59_code, 3, (Option.some FieldType.int), false)
abbrev I_161 : am_I := ("SlabImageModel", prog_8_method_58_code, 1, (Option.some FieldType.int), false)
abbrev I_162 : am_I := ("SlabImageModel", prog_8_method_60_code, 7, (Option.some FieldType.boolean), false)
abbrev I_163 : am_I := ("SlabImageModel", prog_8_method_57_code, 3, (Option.some FieldType.int), false)
abbrev I_164 : am_I := ("SlabImageModel", prog_8_method_62_code, 6, (Option.some FieldType.boolean), false)
abbrev I_165 : am_I := ("SlabImageModel", prog_8_method_65_code, 5, (Option.none : Option FieldType), false)
abbrev I_166 : am_I := ("SlabImageModel", prog_8_method_64_code, 8, (Option.none : Option FieldType), false)
abbrev I_167 : am_I := ("SlabImageLaw", code, 4, (some .boolean), false)
/-- SlabImage.<init> from 0 -/
def b_0 : am_B := fun k d => (i_aload 0 (i_obj d (i_aload 0 (i_new 3 dvX3 (i_dup (i_recv 3 0 (i_call k d 1 1 2 (i_putR 5 0 (i_aload 0 (i_new 3 dvX3 (i_dup (i_recv 3 0 (i_call k d 1 1 2 (i_putR 5 1 (i_aload 0 (i_int 1 (i_putZ 5 2 (i_aload 0 (i_new 2 dvX2 (i_dup (i_recv 2 0 (i_call k d 5 1 1 (i_putR 5 3 (i_aload 0 (i_new 2 dvX2 (i_dup (i_recv 2 0 (i_call k d 5 1 1 (i_putR 5 4 (i_aload 0 (i_new 2 dvX2 (i_dup (i_recv 2 0 (i_call k d 5 1 1 (i_putR 5 5 (i_aload 0 (i_new 1 dvX1 (i_dup (i_recv 1 0 (i_call k d 6 1 1 (i_putR 5 6 (i_aload 0 (i_new 1 dvX1 (i_dup (i_recv 1 0 (i_call k d 6 1 1 (i_putR 5 7 i_vret)))))))))))))))))))))))))))))))))))))))))))))))
/-- SlabImage$Store.<init> from 0 -/
def b_1 : am_B := fun k d => (i_aload 0 (i_obj d (i_aload 0 (i_int 0 (i_putI 3 0 (i_aload 0 (i_int 0 (i_putI 3 1 (i_aload 0 (i_int 4 (i_newi 0 (i_putR 3 2 (i_aload 0 (i_int 4 (i_newi 0 (i_putR 3 3 (i_aload 0 (i_int 0 (i_putI 3 4 (i_aload 0 (i_int 5 (i_newi 0 (i_putR 3 5 (i_aload 0 (i_int 5 (i_newq (i_putR 3 6 (i_int 0 (i_istore 1 (k d 2))))))))))))))))))))))))))))))
/-- SlabImage$Store.<init> from 50 -/
def b_2 : am_B := fun k d => (i_iload 1 (i_int 5 (i_cmpge (i_aload 0 (i_new 0 dvX0 (i_dup (i_recv 0 0 (i_call k d 4 1 1 (i_putR 3 7 i_vret)))))) (i_aload 0 (i_getf 3 6 (i_iload 1 (i_new 4 dvX4 (i_dup (i_recv 4 0 (i_call k d 3 1 1 (i_aast 4 (i_iinc 1 1 (k d 2)))))))))))))
/-- SlabImage$Variable.<init> from 0 -/
def b_3 : am_B := fun k d => (i_aload 0 (i_obj d (i_aload 0 (i_int 1 (i_putI 4 0 (i_aload 0 (i_int (-1) (i_putI 4 1 (i_aload 0 (i_int (-1) (i_putI 4 2 (i_aload 0 (i_int 0 (i_putZ 4 3 (i_aload 0 (i_int 1 (i_putI 4 4 (i_aload 0 (i_int 1 (i_putI 4 5 (i_aload 0 (i_new 0 dvX0 (i_dup (i_recv 0 0 (i_call k d 4 1 1 (i_putR 4 6 (i_aload 0 (i_int 800 (i_newi 0 (i_putR 4 7 i_vret))))))))))))))))))))))))))))))
/-- SlabImage$AttributeList.<init> from 0 -/
def b_4 : am_B := fun k d => (i_aload 0 (i_obj d (i_aload 0 (i_int 0 (i_putI 0 0 (i_aload 0 (i_int 3 (i_newi 0 (i_putR 0 1 (i_aload 0 (i_int 3 (i_newi 0 (i_putR 0 2 (i_aload 0 (i_int 3 (i_newi 0 (i_putR 0 3 (i_aload 0 (i_int 3 (i_newi 0 (i_putR 0 4 i_vret)))))))))))))))))))))
/-- SlabImage$Selection.<init> from 0 -/
def b_5 : am_B := fun k d => (i_aload 0 (i_obj d (i_aload 0 (i_int 0 (i_putI 2 0 (i_aload 0 (i_int 1 (i_putI 2 1 (i_aload 0 (i_int 1 (i_putI 2 2 i_vret)))))))))))
/-- SlabImage$ByteRow.<init> from 0 -/
def b_6 : am_B := fun k d => (i_aload 0 (i_obj d (i_aload 0 (i_int 800 (i_newi 1 (i_putR 1 0 (i_aload 0 (i_int 0 (i_putI 1 1 (i_aload 0 (i_int 0 (i_putI 1 2 i_vret))))))))))))
/-- SlabImage.dimension from 0 -/
def b_7 : am_B := fun k d => (i_aload 0 (i_getf 5 2 (i_ifeq (i_int (-1) (k d 8)) (i_aload 0 (i_getf 5 0 (i_iload 1 (i_iload 2 (i_recv 3 2 (i_call k d 9 3 3 (k d 8))))))))))
/-- SlabImage.dimension from 20 -/
def b_8 : am_B := fun k d => i_iret
/-- SlabImage$Store.defineDimension from 0 -/
def b_9 : am_B := fun k d => (i_iload 1 (i_call k d 13 1 1 (i_ifeq (k d 10) (i_iload 2 (i_iflt (k d 10) (i_iload 2 (i_int 8 (i_cmple (i_iload 1 (i_aload 0 (i_getf 3 2 (i_aload 0 (i_getf 3 1 (i_call k d 16 3 4 (i_iflt (i_aload 0 (i_getf 3 1 (i_int 4 (i_cmpge (k d 11) (i_iload 2 (i_ifne (k d 12) (i_aload 0 (i_recv 3 0 (i_call k d 19 1 2 (i_ifeq (k d 12) (k d 11))))))))))) (i_int (-4) i_iret)))))))) (k d 10)))))))))
/-- SlabImage$Store.defineDimension from 17 -/
def b_10 : am_B := fun k d => (i_int (-2) i_iret)
/-- SlabImage$Store.defineDimension from 57 -/
def b_11 : am_B := fun k d => (i_int (-5) i_iret)
/-- SlabImage$Store.defineDimension from 60 -/
def b_12 : am_B := fun k d => (i_aload 0 (i_getf 3 2 (i_aload 0 (i_getf 3 1 (i_iload 1 (i_iast 0 (fun x => x) (i_aload 0 (i_getf 3 3 (i_aload 0 (i_getf 3 1 (i_iload 2 (i_iast 0 (fun x => x) (i_aload 0 (i_dup (i_getf 3 1 (i_int 1 (i_ii (fun x y => x + y) (i_putI 3 1 (i_aload 0 (i_getf 3 1 (i_int 1 (i_ii (fun x y => x - y) i_iret))))))))))))))))))))))
/-- SlabImage.isName from 0 -/
def b_13 : am_B := fun k d => (i_iload 0 (i_int 33 (i_cmplt (k d 14) (i_iload 0 (i_int 126 (i_cmpgt (k d 14) (i_int 1 (k d 15))))))))
/-- SlabImage.isName from 16 -/
def b_14 : am_B := fun k d => (i_int 0 (k d 15))
/-- SlabImage.isName from 17 -/
def b_15 : am_B := fun k d => i_zret
/-- SlabImage.placeOf from 0 -/
def b_16 : am_B := fun k d => (i_int 0 (i_istore 3 (k d 17)))
/-- SlabImage.placeOf from 2 -/
def b_17 : am_B := fun k d => (i_iload 3 (i_iload 2 (i_cmpge (k d 18) (i_iload 3 (i_aload 1 (i_alen (i_cmpge (k d 18) (i_aload 1 (i_iload 3 (i_iald 0 (i_iload 0 (i_cmpne (i_iinc 3 1 (k d 17)) (i_iload 3 i_iret)))))))))))))
/-- SlabImage.placeOf from 28 -/
def b_18 : am_B := fun k d => (i_int (-1) i_iret)
/-- SlabImage$Store.hasGrowingDimension from 0 -/
def b_19 : am_B := fun k d => (i_int 0 (i_istore 1 (k d 20)))
/-- SlabImage$Store.hasGrowingDimension from 2 -/
def b_20 : am_B := fun k d => (i_iload 1 (i_aload 0 (i_getf 3 1 (i_cmpge (i_int 0 i_zret) (i_aload 0 (i_getf 3 3 (i_iload 1 (i_iald 0 (i_ifne (i_iinc 1 1 (k d 20)) (i_int 1 i_zret))))))))))
/-- SlabImage.variable from 0 -/
def b_21 : am_B := fun k d => (i_aload 0 (i_getf 5 2 (i_ifeq (i_int (-1) (k d 22)) (i_aload 0 (i_getf 5 0 (i_iload 1 (i_iload 2 (i_iload 3 (i_iload 4 (i_recv 3 4 (i_call k d 23 5 5 (k d 22))))))))))))
/-- SlabImage.variable from 23 -/
def b_22 : am_B := fun k d => i_iret
/-- SlabImage$Store.defineVariable from 0 -/
def b_23 : am_B := fun k d => (i_iload 1 (i_call k d 13 1 1 (i_ifeq (k d 24) (i_iload 2 (i_call k d 27 1 1 (i_ifne (i_aload 0 (i_iload 3 (i_recv 3 1 (i_call k d 30 2 2 (i_ifeq (k d 25) (i_aload 0 (i_iload 4 (i_recv 3 1 (i_call k d 30 2 2 (i_ifeq (k d 25) (i_iload 3 (i_int (-1) (i_cmpne (k d 26) (i_iload 4 (i_int (-1) (i_cmpeq (k d 26) (k d 25))))))))))))))))) (k d 24)))))))
/-- SlabImage$Store.defineVariable from 14 -/
def b_24 : am_B := fun k d => (i_int (-2) i_iret)
/-- SlabImage$Store.defineVariable from 45 -/
def b_25 : am_B := fun k d => (i_int (-3) i_iret)
/-- SlabImage$Store.defineVariable from 48 -/
def b_26 : am_B := fun k d => (i_aload 0 (i_iload 4 (i_recv 3 1 (i_call k d 36 2 2 (i_ifne (i_iload 1 (i_aload 0 (i_getf 3 5 (i_aload 0 (i_getf 3 4 (i_call k d 16 3 4 (i_iflt (i_aload 0 (i_getf 3 4 (i_int 5 (i_cmplt (i_aload 0 (i_getf 3 5 (i_aload 0 (i_getf 3 4 (i_iload 1 (i_iast 0 (fun x => x) (i_aload 0 (i_getf 3 6 (i_aload 0 (i_getf 3 4 (i_aald (i_iload 3 (i_aload 0 (i_iload 3 (i_recv 3 1 (i_call k d 36 2 2 (i_iload 4 (i_aload 0 (i_iload 4 (i_recv 3 1 (i_call k d 36 2 2 (i_recv 4 4 (i_call k d 38 5 5 (i_aload 0 (i_getf 3 6 (i_aload 0 (i_getf 3 4 (i_aald (i_iload 2 (i_recv 4 1 (i_call k d 40 2 2 (i_aload 0 (i_dup (i_getf 3 4 (i_int 1 (i_ii (fun x y => x + y) (i_putI 3 4 (i_aload 0 (i_getf 3 4 (i_int 1 (i_ii (fun x y => x - y) i_iret))))))))))))))))))))))))))))))))))))))))) (i_int (-5) i_iret))))) (i_int (-4) i_iret)))))))) (i_int (-2) i_iret))))))
/-- SlabImage.isType from 0 -/
def b_27 : am_B := fun k d => (i_iload 0 (i_int 1 (i_cmplt (k d 28) (i_iload 0 (i_int 4 (i_cmpgt (k d 28) (i_int 1 (k d 29))))))))
/-- SlabImage.isType from 14 -/
def b_28 : am_B := fun k d => (i_int 0 (k d 29))
/-- SlabImage.isType from 15 -/
def b_29 : am_B := fun k d => i_zret
/-- SlabImage$Store.mayBeAxis from 0 -/
def b_30 : am_B := fun k d => (i_iload 1 (i_int (-1) (i_cmpeq (k d 31) (i_aload 0 (i_iload 1 (i_recv 3 1 (i_call k d 33 2 2 (i_ifeq (i_int 0 (k d 32)) (k d 31)))))))))
/-- SlabImage$Store.mayBeAxis from 13 -/
def b_31 : am_B := fun k d => (i_int 1 (k d 32))
/-- SlabImage$Store.mayBeAxis from 18 -/
def b_32 : am_B := fun k d => i_zret
/-- SlabImage$Store.isDimension from 0 -/
def b_33 : am_B := fun k d => (i_iload 1 (i_iflt (k d 34) (i_iload 1 (i_aload 0 (i_getf 3 1 (i_cmpge (k d 34) (i_int 1 (k d 35))))))))
/-- SlabImage$Store.isDimension from 16 -/
def b_34 : am_B := fun k d => (i_int 0 (k d 35))
/-- SlabImage$Store.isDimension from 17 -/
def b_35 : am_B := fun k d => i_zret
/-- SlabImage$Store.lengthOf from 0 -/
def b_36 : am_B := fun k d => (i_aload 0 (i_iload 1 (i_recv 3 1 (i_call k d 33 2 2 (i_ifeq (i_int 1 (k d 37)) (i_aload 0 (i_getf 3 3 (i_iload 1 (i_iald 0 (k d 37))))))))))
/-- SlabImage$Store.lengthOf from 18 -/
def b_37 : am_B := fun k d => i_iret
/-- SlabImage$Variable.shape from 0 -/
def b_38 : am_B := fun k d => (i_aload 0 (i_iload 1 (i_putI 4 1 (i_aload 0 (i_iload 3 (i_putI 4 2 (i_aload 0 (i_iload 2 (i_ifne (i_int 0 (k d 39)) (i_int 1 (k d 39)))))))))))
/-- SlabImage$Variable.shape from 20 -/
def b_39 : am_B := fun k d => (i_putZ 4 3 (i_aload 0 (i_iload 2 (i_putI 4 4 (i_aload 0 (i_iload 4 (i_putI 4 5 i_vret)))))))
/-- SlabImage$Variable.fill from 0 -/
def b_40 : am_B := fun k d => (i_aload 0 (i_iload 1 (i_putI 4 0 (i_aload 0 (i_getf 4 7 (i_stat 1 (i_iload 1 (i_iald 0 (i_call k d 41 2 4 i_vret)))))))))
/-- java/util/Arrays.fill from 0 -/
def b_41 : am_B := fun k d => (i_int 0 (i_istore 2 (i_aload 0 (i_alen (i_istore 3 (k d 42))))))
/-- java/util/Arrays.fill from 5 -/
def b_42 : am_B := fun k d => (i_iload 2 (i_iload 3 (i_cmpge i_vret (i_aload 0 (i_iload 2 (i_iload 1 (i_iast 0 (fun x => x) (i_iinc 2 1 (k d 42)))))))))
/-- SlabImage.attribute from 0 -/
def b_43 : am_B := fun k d => (i_aload 0 (i_getf 5 2 (i_ifne (i_aload 0 (i_getf 5 0 (i_iload 1 (i_recv 3 1 (i_call k d 45 2 3 (i_astore 6 (i_aload 6 (i_ifnonnull (i_aload 6 (i_iload 2 (i_iload 3 (i_iload 4 (i_iload 5 (i_recv 0 4 (i_call k d 50 5 6 (k d 44)))))))) (i_int (-3) (k d 44)))))))))) (i_int (-1) i_iret))))
/-- SlabImage.attribute from 40 -/
def b_44 : am_B := fun k d => i_iret
/-- SlabImage$Store.attributesOf from 0 -/
def b_45 : am_B := fun k d => (i_iload 1 (i_int (-1) (i_cmpne (i_aload 0 (i_iload 1 (i_recv 3 1 (i_call k d 47 2 2 (i_astore 2 (i_aload 2 (i_ifnonnull (i_aload 2 (i_getf 4 6 (k d 46))) (i_null (k d 46))))))))) (i_aload 0 (i_getf 3 7 i_aret)))))
/-- SlabImage$Store.attributesOf from 28 -/
def b_46 : am_B := fun k d => i_aret
/-- SlabImage$Store.variableAt from 0 -/
def b_47 : am_B := fun k d => (i_iload 1 (i_iflt (k d 48) (i_iload 1 (i_aload 0 (i_getf 3 4 (i_cmpge (k d 48) (i_aload 0 (i_getf 3 6 (i_iload 1 (i_aald (k d 49)))))))))))
/-- SlabImage$Store.variableAt from 21 -/
def b_48 : am_B := fun k d => (i_null (k d 49))
/-- SlabImage$Store.variableAt from 22 -/
def b_49 : am_B := fun k d => i_aret
/-- SlabImage$AttributeList.assign from 0 -/
def b_50 : am_B := fun k d => (i_iload 1 (i_call k d 13 1 1 (i_ifeq (k d 51) (i_iload 2 (i_call k d 27 1 1 (i_ifne (i_iload 2 (i_iload 3 (i_call k d 54 2 2 (i_ifeq (k d 52) (i_iload 2 (i_iload 4 (i_call k d 54 2 2 (i_ifne (i_iload 1 (i_aload 0 (i_getf 0 1 (i_aload 0 (i_getf 0 0 (i_call k d 16 3 4 (i_istore 5 (i_iload 5 (i_ifge (k d 53) (i_aload 0 (i_getf 0 0 (i_int 3 (i_cmplt (i_aload 0 (i_getf 0 0 (i_istore 5 (i_aload 0 (i_dup (i_getf 0 0 (i_int 1 (i_ii (fun x y => x + y) (i_putI 0 0 (k d 53)))))))))) (i_int (-5) i_iret)))))))))))))) (k d 52))))))))) (k d 51)))))))
/-- SlabImage$AttributeList.assign from 14 -/
def b_51 : am_B := fun k d => (i_int (-2) i_iret)
/-- SlabImage$AttributeList.assign from 34 -/
def b_52 : am_B := fun k d => (i_int (-6) i_iret)
/-- SlabImage$AttributeList.assign from 83 -/
def b_53 : am_B := fun k d => (i_aload 0 (i_getf 0 1 (i_iload 5 (i_iload 1 (i_iast 0 (fun x => x) (i_aload 0 (i_getf 0 2 (i_iload 5 (i_iload 2 (i_iast 0 (fun x => x) (i_aload 0 (i_getf 0 3 (i_iload 5 (i_iload 3 (i_iast 0 (fun x => x) (i_aload 0 (i_getf 0 4 (i_iload 5 (i_iload 4 (i_iast 0 (fun x => x) (i_int 0 i_iret)))))))))))))))))))))
/-- SlabImage.isValue from 0 -/
def b_54 : am_B := fun k d => (i_iload 1 (i_stat 2 (i_iload 0 (i_iald 0 (i_cmplt (k d 55) (i_iload 1 (i_stat 3 (i_iload 0 (i_iald 0 (i_cmpgt (k d 55) (i_int 1 (k d 56))))))))))))
/-- SlabImage.isValue from 22 -/
def b_55 : am_B := fun k d => (i_int 0 (k d 56))
/-- SlabImage.isValue from 23 -/
def b_56 : am_B := fun k d => i_zret
/-- SlabImage.drop from 0 -/
def b_57 : am_B := fun k d => (i_aload 0 (i_getf 5 2 (i_ifne (i_aload 0 (i_getf 5 0 (i_iload 1 (i_recv 3 1 (i_call k d 45 2 3 (i_astore 3 (i_aload 3 (i_ifnonnull (i_aload 3 (i_iload 2 (i_recv 0 1 (i_call k d 59 2 4 (k d 58))))) (i_int (-3) (k d 58)))))))))) (i_int (-1) i_iret))))
/-- SlabImage.drop from 32 -/
def b_58 : am_B := fun k d => i_iret
/-- SlabImage$AttributeList.takeOff from 0 -/
def b_59 : am_B := fun k d => (i_iload 1 (i_aload 0 (i_getf 0 1 (i_aload 0 (i_getf 0 0 (i_call k d 16 3 4 (i_istore 2 (i_iload 2 (i_ifge (i_iload 2 (i_int 1 (i_ii (fun x y => x + y) (i_istore 3 (k d 60))))) (i_int (-3) i_iret))))))))))
/-- SlabImage$AttributeList.takeOff from 24 -/
def b_60 : am_B := fun k d => (i_iload 3 (i_aload 0 (i_getf 0 0 (i_cmpge (i_aload 0 (i_dup (i_getf 0 0 (i_int 1 (i_ii (fun x y => x - y) (i_putI 0 0 (i_int 0 i_iret))))))) (i_aload 0 (i_getf 0 1 (i_iload 3 (i_int 1 (i_ii (fun x y => x - y) (i_aload 0 (i_getf 0 1 (i_iload 3 (i_iald 0 (i_iast 0 (fun x => x) (i_aload 0 (i_getf 0 2 (i_iload 3 (i_int 1 (i_ii (fun x y => x - y) (i_aload 0 (i_getf 0 2 (i_iload 3 (i_iald 0 (i_iast 0 (fun x => x) (i_aload 0 (i_getf 0 3 (i_iload 3 (i_int 1 (i_ii (fun x y => x - y) (i_aload 0 (i_getf 0 3 (i_iload 3 (i_iald 0 (i_iast 0 (fun x => x) (i_aload 0 (i_getf 0 4 (i_iload 3 (i_int 1 (i_ii (fun x y => x - y) (i_aload 0 (i_getf 0 4 (i_iload 3 (i_iald 0 (i_iast 0 (fun x => x) (i_iinc 3 1 (k d 60))))))))))))))))))))))))))))))))))))))))))))))
/-- SlabImage.rename from 0 -/
def b_61 : am_B := fun k d => (i_aload 0 (i_getf 5 2 (i_ifne (i_iload 1 (i_ifeq (i_aload 0 (i_getf 5 0 (i_iload 2 (i_iload 3 (i_recv 3 2 (i_call k d 67 3 3 (k d 62))))))) (i_aload 0 (i_getf 5 0 (i_iload 2 (i_iload 3 (i_recv 3 2 (i_call k d 63 3 3 (k d 62))))))))) (i_int (-1) i_iret))))
/-- SlabImage.rename from 34 -/
def b_62 : am_B := fun k d => i_iret
/-- SlabImage$Store.renameVariable from 0 -/
def b_63 : am_B := fun k d => (i_aload 0 (i_getf 3 5 (i_aload 0 (i_getf 3 4 (i_iload 1 (i_iload 2 (i_call k d 64 4 5 i_iret)))))))
/-- SlabImage$Store.changeName from 0 -/
def b_64 : am_B := fun k d => (i_iload 2 (i_iflt (k d 65) (i_iload 2 (i_iload 1 (i_cmplt (i_iload 3 (i_call k d 13 1 1 (i_ifne (i_iload 3 (i_aload 0 (i_iload 1 (i_call k d 16 3 4 (i_istore 4 (i_iload 4 (i_iflt (k d 66) (i_iload 4 (i_iload 2 (i_cmpeq (k d 66) (i_int (-4) i_iret))))))))))) (i_int (-2) i_iret)))) (k d 65))))))
/-- SlabImage$Store.changeName from 9 -/
def b_65 : am_B := fun k d => (i_int (-3) i_iret)
/-- SlabImage$Store.changeName from 44 -/
def b_66 : am_B := fun k d => (i_aload 0 (i_iload 2 (i_iload 3 (i_iast 0 (fun x => x) (i_int 0 i_iret)))))
/-- SlabImage$Store.renameDimension from 0 -/
def b_67 : am_B := fun k d => (i_aload 0 (i_getf 3 2 (i_aload 0 (i_getf 3 1 (i_iload 1 (i_iload 2 (i_call k d 64 4 5 i_iret)))))))
/-- SlabImage.seal from 0 -/
def b_68 : am_B := fun k d => (i_aload 0 (i_getf 5 2 (i_ifne (i_aload 0 (i_getf 5 0 (i_aload 0 (i_getf 5 0 (i_getf 3 0 (i_i2l (i_recv 3 1 (i_call k d 69 2 3 (i_lstore 1 (i_lload 1 (i_long 800 (i_lcmp (i_ifle (i_aload 0 (i_int 0 (i_putZ 5 2 (i_lload 1 (i_l2i i_iret))))) (i_int (-8) i_iret)))))))))))))) (i_int (-1) i_iret))))
/-- SlabImage$Store.imageBytes from 0 -/
def b_69 : am_B := fun k d => (i_aload 0 (i_recv 3 0 (i_call k d 70 1 3 (i_aload 0 (i_aload 0 (i_getf 3 4 (i_int 0 (i_recv 3 2 (i_call k d 78 3 5 (i_ii (fun x y => x + y) (i_i2l (i_lload 1 (i_aload 0 (i_recv 3 0 (i_call k d 85 1 3 (i_i2l (i_ll (fun x y => x * y) (i_ll (fun x y => x + y) i_lret))))))))))))))))))
/-- SlabImage$Store.headerBytes from 0 -/
def b_70 : am_B := fun k d => (i_int 24 (i_aload 0 (i_getf 3 7 (i_recv 0 0 (i_call k d 72 1 3 (i_ii (fun x y => x + y) (i_istore 1 (i_iload 1 (i_aload 0 (i_getf 3 1 (i_int 12 (i_ii (fun x y => x * y) (i_ii (fun x y => x + y) (i_istore 1 (i_int 0 (i_istore 2 (k d 71)))))))))))))))))
/-- SlabImage$Store.headerBytes from 23 -/
def b_71 : am_B := fun k d => (i_iload 2 (i_aload 0 (i_getf 3 4 (i_cmpge (i_iload 1 i_iret) (i_iload 1 (i_aload 0 (i_getf 3 6 (i_iload 2 (i_aald (i_recv 4 0 (i_call k d 75 1 1 (i_ii (fun x y => x + y) (i_istore 1 (i_iinc 2 1 (k d 71)))))))))))))))
/-- SlabImage$AttributeList.headerBytes from 0 -/
def b_72 : am_B := fun k d => (i_int 8 (i_istore 1 (i_int 0 (i_istore 2 (k d 73)))))
/-- SlabImage$AttributeList.headerBytes from 5 -/
def b_73 : am_B := fun k d => (i_iload 2 (i_aload 0 (i_getf 0 0 (i_cmpge (i_iload 1 i_iret) (i_iload 1 (i_int 16 (i_int 2 (i_stat 0 (i_aload 0 (i_getf 0 2 (i_iload 2 (i_iald 0 (i_iald 0 (i_ii (fun x y => x * y) (i_call k d 74 1 1 (i_ii (fun x y => x + y) (i_ii (fun x y => x + y) (i_istore 1 (i_iinc 2 1 (k d 73))))))))))))))))))))
/-- SlabImage.padded from 0 -/
def b_74 : am_B := fun k d => (i_iload 0 (i_int 4 (i_ii (fun x y => x + y) (i_int 1 (i_ii (fun x y => x - y) (i_int 4 (i_idz (fun x y => x / y) (i_int 4 (i_ii (fun x y => x * y) i_iret)))))))))
/-- SlabImage$Variable.headerBytes from 0 -/
def b_75 : am_B := fun k d => (i_int 12 (i_aload 0 (i_recv 4 0 (i_call k d 76 1 1 (i_int 4 (i_ii (fun x y => x * y) (i_ii (fun x y => x + y) (i_aload 0 (i_getf 4 6 (i_recv 0 0 (i_call k d 72 1 3 (i_ii (fun x y => x + y) (i_int 12 (i_ii (fun x y => x + y) i_iret))))))))))))))
/-- SlabImage$Variable.axisCount from 0 -/
def b_76 : am_B := fun k d => (i_aload 0 (i_getf 4 1 (i_int (-1) (i_cmpne (i_aload 0 (i_getf 4 2 (i_int (-1) (i_cmpne (i_int 2 (k d 77)) (i_int 1 (k d 77)))))) (i_int 0 i_iret)))))
/-- SlabImage$Variable.axisCount from 23 -/
def b_77 : am_B := fun k d => i_iret
/-- SlabImage$Store.paddedBytes from 0 -/
def b_78 : am_B := fun k d => (i_int 0 (i_istore 3 (i_int 0 (i_istore 4 (k d 79)))))
/-- SlabImage$Store.paddedBytes from 5 -/
def b_79 : am_B := fun k d => (i_iload 4 (i_iload 1 (i_cmpge (k d 81) (i_iload 4 (i_aload 0 (i_getf 3 4 (i_cmpge (k d 81) (i_aload 0 (i_getf 3 6 (i_iload 4 (i_aald (i_getf 4 3 (i_iload 2 (i_cmpne (k d 80) (i_iload 3 (i_aload 0 (i_getf 3 6 (i_iload 4 (i_aald (i_recv 4 0 (i_call k d 82 1 1 (i_ii (fun x y => x + y) (i_istore 3 (k d 80))))))))))))))))))))))))
/-- SlabImage$Store.paddedBytes from 47 -/
def b_80 : am_B := fun k d => (i_iinc 4 1 (k d 79))
/-- SlabImage$Store.paddedBytes from 53 -/
def b_81 : am_B := fun k d => (i_iload 3 i_iret)
/-- SlabImage$Variable.paddedSize from 0 -/
def b_82 : am_B := fun k d => (i_aload 0 (i_getf 4 3 (i_ifeq (i_aload 0 (i_getf 4 4 (i_aload 0 (i_recv 4 0 (i_call k d 84 1 1 (i_ii (fun x y => x * y) (k d 83))))))) (i_aload 0 (i_recv 4 0 (i_call k d 84 1 1 (k d 83)))))))
/-- SlabImage$Variable.paddedSize from 23 -/
def b_83 : am_B := fun k d => (i_call k d 74 1 1 i_iret)
/-- SlabImage$Variable.bytesOfRow from 0 -/
def b_84 : am_B := fun k d => (i_aload 0 (i_getf 4 5 (i_stat 0 (i_aload 0 (i_getf 4 0 (i_iald 0 (i_ii (fun x y => x * y) i_iret)))))))
/-- SlabImage$Store.recordBytes from 0 -/
def b_85 : am_B := fun k d => (i_aload 0 (i_recv 3 0 (i_call k d 88 1 3 (i_int 1 (i_cmpeq (i_int 0 (i_istore 1 (i_int 0 (i_istore 2 (k d 86))))) (i_aload 0 (i_aload 0 (i_getf 3 4 (i_int 1 (i_recv 3 2 (i_call k d 78 3 5 i_iret)))))))))))
/-- SlabImage$Store.recordBytes from 22 -/
def b_86 : am_B := fun k d => (i_iload 2 (i_aload 0 (i_getf 3 4 (i_cmpge (i_iload 1 i_iret) (i_aload 0 (i_getf 3 6 (i_iload 2 (i_aald (i_getf 4 3 (i_ifeq (k d 87) (i_aload 0 (i_getf 3 6 (i_iload 2 (i_aald (i_recv 4 0 (i_call k d 84 1 1 (i_istore 1 (k d 87))))))))))))))))))
/-- SlabImage$Store.recordBytes from 52 -/
def b_87 : am_B := fun k d => (i_iinc 2 1 (k d 86))
/-- SlabImage$Store.recordVariables from 0 -/
def b_88 : am_B := fun k d => (i_int 0 (i_istore 1 (i_int 0 (i_istore 2 (k d 89)))))
/-- SlabImage$Store.recordVariables from 4 -/
def b_89 : am_B := fun k d => (i_iload 2 (i_aload 0 (i_getf 3 4 (i_cmpge (i_iload 1 i_iret) (i_aload 0 (i_getf 3 6 (i_iload 2 (i_aald (i_getf 4 3 (i_ifeq (k d 90) (i_iinc 1 1 (k d 90))))))))))))
/-- SlabImage$Store.recordVariables from 27 -/
def b_90 : am_B := fun k d => (i_iinc 2 1 (k d 89))
/-- SlabImage.redefine from 0 -/
def b_91 : am_B := fun k d => (i_aload 0 (i_getf 5 2 (i_ifeq (i_aload 0 (i_int 1 (i_putZ 5 2 (i_int 0 i_iret)))) (i_int (-1) i_iret))))
/-- SlabImage.put from 0 -/
def b_92 : am_B := fun k d => (i_aload 0 (i_getf 5 2 (i_ifeq (i_aload 0 (i_getf 5 0 (i_iload 1 (i_recv 3 1 (i_call k d 47 2 2 (i_astore 5 (i_aload 5 (i_ifnonnull (i_aload 5 (i_iload 2 (i_i2l (i_iload 3 (i_i2l (i_recv 4 2 (i_call k d 93 3 5 (i_ifne (i_aload 5 (i_getf 4 0 (i_iload 4 (i_call k d 54 2 2 (i_ifne (i_aload 0 (i_getf 5 0 (i_aload 5 (i_iload 2 (i_i2l (i_recv 3 2 (i_call k d 97 3 4 (i_ifne (i_aload 5 (i_iload 2 (i_iload 3 (i_iload 4 (i_recv 4 3 (i_call k d 99 4 5 (i_int 0 i_iret))))))) (i_int (-8) i_iret))))))))) (i_int (-6) i_iret)))))) (i_int (-7) i_iret))))))))) (i_int (-3) i_iret))))))))) (i_int (-1) i_iret))))
/-- SlabImage$Variable.admits from 0 -/
def b_93 : am_B := fun k d => (i_lload 1 (i_long 0 (i_lcmp (i_iflt (k d 95) (i_aload 0 (i_getf 4 3 (i_ifne (k d 94) (i_lload 1 (i_aload 0 (i_getf 4 4 (i_i2l (i_lcmp (i_ifge (k d 95) (k d 94))))))))))))))
/-- SlabImage$Variable.admits from 23 -/
def b_94 : am_B := fun k d => (i_lload 3 (i_long 0 (i_lcmp (i_iflt (k d 95) (i_lload 3 (i_aload 0 (i_getf 4 5 (i_i2l (i_lcmp (i_ifge (k d 95) (i_int 1 (k d 96))))))))))))
/-- SlabImage$Variable.admits from 43 -/
def b_95 : am_B := fun k d => (i_int 0 (k d 96))
/-- SlabImage$Variable.admits from 44 -/
def b_96 : am_B := fun k d => i_zret
/-- SlabImage$Store.growToHold from 0 -/
def b_97 : am_B := fun k d => (i_aload 1 (i_getf 4 3 (i_ifeq (k d 98) (i_lload 2 (i_aload 0 (i_getf 3 0 (i_i2l (i_lcmp (i_ifge (i_aload 0 (i_lload 2 (i_long 1 (i_ll (fun x y => x + y) (i_recv 3 1 (i_call k d 69 2 3 (i_long 800 (i_lcmp (i_ifle (i_aload 0 (i_lload 2 (i_long 1 (i_ll (fun x y => x + y) (i_l2i (i_putI 3 0 (i_int 1 i_zret))))))) (i_int 0 i_zret)))))))))) (k d 98))))))))))
/-- SlabImage$Store.growToHold from 17 -/
def b_98 : am_B := fun k d => (i_int 1 i_zret)
/-- SlabImage$Variable.setCell from 0 -/
def b_99 : am_B := fun k d => (i_iload 1 (i_aload 0 (i_getf 4 5 (i_ii (fun x y => x * y) (i_iload 2 (i_ii (fun x y => x + y) (i_istore 4 (i_iload 4 (i_iflt (k d 100) (i_iload 4 (i_aload 0 (i_getf 4 7 (i_alen (i_cmpge (k d 100) (i_aload 0 (i_getf 4 7 (i_iload 4 (i_iload 3 (i_iast 0 (fun x => x) (k d 100))))))))))))))))))))
/-- SlabImage$Variable.setCell from 33 -/
def b_100 : am_B := fun k d => i_vret
/-- SlabImage.get from 0 -/
def b_101 : am_B := fun k d => (i_aload 0 (i_getf 5 2 (i_ifeq (i_aload 0 (i_getf 5 0 (i_iload 1 (i_recv 3 1 (i_call k d 47 2 2 (i_astore 4 (i_aload 4 (i_ifnull (k d 102) (i_aload 0 (i_getf 5 0 (i_aload 4 (i_iload 2 (i_i2l (i_iload 3 (i_i2l (i_recv 3 3 (i_call k d 103 4 6 (i_ifne (i_aload 4 (i_iload 2 (i_iload 3 (i_recv 4 2 (i_call k d 107 3 4 (i_i2l i_lret)))))) (k d 102))))))))))))))))))) (i_long 1099511627776 i_lret))))
/-- SlabImage.get from 42 -/
def b_102 : am_B := fun k d => (i_long 1099511627776 i_lret)
/-- SlabImage$Store.holds from 0 -/
def b_103 : am_B := fun k d => (i_aload 1 (i_lload 2 (i_lload 4 (i_recv 4 2 (i_call k d 93 3 5 (i_ifeq (k d 105) (i_aload 1 (i_getf 4 3 (i_ifeq (k d 104) (i_lload 2 (i_aload 0 (i_getf 3 0 (i_i2l (i_lcmp (i_ifge (k d 105) (k d 104))))))))))))))))
/-- SlabImage$Store.holds from 27 -/
def b_104 : am_B := fun k d => (i_int 1 (k d 106))
/-- SlabImage$Store.holds from 31 -/
def b_105 : am_B := fun k d => (i_int 0 (k d 106))
/-- SlabImage$Store.holds from 32 -/
def b_106 : am_B := fun k d => i_zret
/-- SlabImage$Variable.cell from 0 -/
def b_107 : am_B := fun k d => (i_iload 1 (i_aload 0 (i_getf 4 5 (i_ii (fun x y => x * y) (i_iload 2 (i_ii (fun x y => x + y) (i_istore 3 (i_iload 3 (i_iflt (k d 108) (i_iload 3 (i_aload 0 (i_getf 4 7 (i_alen (i_cmpge (k d 108) (i_aload 0 (i_getf 4 7 (i_iload 3 (i_iald 0 (k d 109)))))))))))))))))))
/-- SlabImage$Variable.cell from 31 -/
def b_108 : am_B := fun k d => (i_stat 1 (i_aload 0 (i_getf 4 0 (i_iald 0 (k d 109)))))
/-- SlabImage$Variable.cell from 39 -/
def b_109 : am_B := fun k d => i_iret
/-- SlabImage.select from 0 -/
def b_110 : am_B := fun k d => (i_iload 1 (i_ifeq (k d 111) (i_iload 1 (i_int 1 (i_cmpeq (k d 111) (i_int (-3) i_iret))))))
/-- SlabImage.select from 12 -/
def b_111 : am_B := fun k d => (i_iload 2 (i_iflt (k d 112) (i_iload 3 (i_int 1 (i_cmplt (k d 112) (i_iload 3 (i_int 8 (i_cmpgt (k d 112) (i_iload 4 (i_int 1 (i_cmplt (k d 112) (i_iload 4 (i_int 8 (i_cmple (i_iload 1 (i_ifne (i_aload 0 (i_getf 5 4 (k d 113))) (i_aload 0 (i_getf 5 3 (k d 113))))) (k d 112)))))))))))))))
/-- SlabImage.select from 40 -/
def b_112 : am_B := fun k d => (i_int (-2) i_iret)
/-- SlabImage.select from 58 -/
def b_113 : am_B := fun k d => (i_astore 5 (i_aload 5 (i_iload 2 (i_iload 3 (i_iload 4 (i_recv 2 3 (i_call k d 114 4 4 (i_int 0 i_iret))))))))
/-- SlabImage$Selection.become from 0 -/
def b_114 : am_B := fun k d => (i_aload 0 (i_iload 1 (i_putI 2 0 (i_aload 0 (i_iload 2 (i_putI 2 1 (i_aload 0 (i_iload 3 (i_putI 2 2 i_vret)))))))))
/-- SlabImage.putSlab from 0 -/
def b_115 : am_B := fun k d => (i_aload 0 (i_getf 5 2 (i_ifeq (i_aload 0 (i_getf 5 0 (i_iload 1 (i_recv 3 1 (i_call k d 47 2 2 (i_astore 4 (i_aload 4 (i_ifnonnull (i_aload 0 (i_aload 4 (i_recv 5 1 (i_call k d 116 2 2 (i_astore 5 (i_aload 0 (i_aload 4 (i_recv 5 1 (i_call k d 118 2 2 (i_astore 6 (i_aload 4 (i_aload 5 (i_recv 2 0 (i_call k d 120 1 1 (i_aload 6 (i_recv 2 0 (i_call k d 120 1 1 (i_recv 4 2 (i_call k d 93 3 5 (i_ifne (i_aload 5 (i_getf 2 1 (i_aload 6 (i_getf 2 1 (i_ii (fun x y => x * y) (i_istore 7 (i_aload 4 (i_getf 4 0 (i_iload 7 (i_iload 2 (i_iload 3 (i_call k d 121 4 5 (i_ifne (i_aload 0 (i_getf 5 0 (i_aload 4 (i_aload 5 (i_recv 2 0 (i_call k d 120 1 1 (i_recv 3 2 (i_call k d 97 3 4 (i_ifne (i_aload 4 (i_aload 5 (i_aload 6 (i_iload 2 (i_iload 3 (i_recv 4 4 (i_call k d 123 5 8 (i_iload 7 i_iret)))))))) (i_int (-8) i_iret)))))))))) (i_int (-6) i_iret)))))))))))))) (i_int (-7) i_iret))))))))))))))))))))) (i_int (-3) i_iret))))))))) (i_int (-1) i_iret))))
/-- SlabImage.rowsOf from 0 -/
def b_116 : am_B := fun k d => (i_aload 1 (i_recv 4 0 (i_call k d 76 1 1 (i_ifle (i_aload 0 (i_getf 5 5 (k d 117))) (i_aload 0 (i_getf 5 3 (k d 117)))))))
/-- SlabImage.rowsOf from 18 -/
def b_117 : am_B := fun k d => i_aret
/-- SlabImage.columnsOf from 0 -/
def b_118 : am_B := fun k d => (i_aload 1 (i_recv 4 0 (i_call k d 76 1 1 (i_int 1 (i_cmple (i_aload 0 (i_getf 5 5 (k d 119))) (i_aload 0 (i_getf 5 4 (k d 119))))))))
/-- SlabImage.columnsOf from 19 -/
def b_119 : am_B := fun k d => i_aret
/-- SlabImage$Selection.last from 0 -/
def b_120 : am_B := fun k d => (i_aload 0 (i_getf 2 0 (i_i2l (i_aload 0 (i_getf 2 1 (i_i2l (i_long 1 (i_ll (fun x y => x - y) (i_aload 0 (i_getf 2 2 (i_i2l (i_ll (fun x y => x * y) (i_ll (fun x y => x + y) i_lret)))))))))))))
/-- SlabImage.areValues from 0 -/
def b_121 : am_B := fun k d => (i_int 0 (i_istore 4 (k d 122)))
/-- SlabImage.areValues from 3 -/
def b_122 : am_B := fun k d => (i_iload 4 (i_iload 1 (i_cmpge (i_int 1 i_zret) (i_iload 0 (i_iload 2 (i_iload 4 (i_iload 3 (i_ii (fun x y => x * y) (i_ii (fun x y => x + y) (i_call k d 54 2 2 (i_ifne (i_iinc 4 1 (k d 122)) (i_int 0 i_zret))))))))))))
/-- SlabImage$Variable.setSlab from 0 -/
def b_123 : am_B := fun k d => (i_iload 3 (i_istore 5 (i_int 0 (i_istore 6 (k d 124)))))
/-- SlabImage$Variable.setSlab from 6 -/
def b_124 : am_B := fun k d => (i_iload 6 (i_aload 1 (i_getf 2 1 (i_cmpge i_vret (i_int 0 (i_istore 7 (k d 125)))))))
/-- SlabImage$Variable.setSlab from 18 -/
def b_125 : am_B := fun k d => (i_iload 7 (i_aload 2 (i_getf 2 1 (i_cmpge (i_iinc 6 1 (k d 124)) (i_aload 0 (i_aload 1 (i_iload 6 (i_recv 2 1 (i_call k d 126 2 2 (i_aload 2 (i_iload 7 (i_recv 2 1 (i_call k d 126 2 2 (i_iload 5 (i_recv 4 3 (i_call k d 99 4 5 (i_iload 5 (i_iload 4 (i_ii (fun x y => x + y) (i_istore 5 (i_iinc 7 1 (k d 125))))))))))))))))))))))
/-- SlabImage$Selection.at from 0 -/
def b_126 : am_B := fun k d => (i_aload 0 (i_getf 2 0 (i_iload 1 (i_aload 0 (i_getf 2 2 (i_ii (fun x y => x * y) (i_ii (fun x y => x + y) i_iret)))))))
/-- SlabImage.getSlab from 0 -/
def b_127 : am_B := fun k d => (i_aload 0 (i_getf 5 2 (i_ifeq (i_aload 0 (i_getf 5 0 (i_iload 1 (i_recv 3 1 (i_call k d 47 2 2 (i_astore 3 (i_aload 3 (i_ifnonnull (i_aload 0 (i_aload 3 (i_recv 5 1 (i_call k d 116 2 2 (i_astore 4 (i_aload 0 (i_aload 3 (i_recv 5 1 (i_call k d 118 2 2 (i_astore 5 (i_aload 0 (i_getf 5 0 (i_aload 3 (i_aload 4 (i_recv 2 0 (i_call k d 120 1 1 (i_aload 5 (i_recv 2 0 (i_call k d 120 1 1 (i_recv 3 3 (i_call k d 103 4 6 (i_ifne (i_iload 2 (i_iflt (k d 128) (i_iload 2 (i_aload 4 (i_getf 2 1 (i_aload 5 (i_getf 2 1 (i_ii (fun x y => x * y) (i_cmplt (i_aload 3 (i_aload 4 (i_iload 2 (i_aload 5 (i_getf 2 1 (i_idz (fun x y => x / y) (i_recv 2 1 (i_call k d 126 2 2 (i_aload 5 (i_iload 2 (i_aload 5 (i_getf 2 1 (i_idz (fun x y => x - x / y * y) (i_recv 2 1 (i_call k d 126 2 2 (i_recv 4 2 (i_call k d 107 3 4 (i_i2l i_lret)))))))))))))))))) (k d 128)))))))))) (i_long 1099511627776 i_lret))))))))))))))))))))))) (i_long 1099511627776 i_lret))))))))) (i_long 1099511627776 i_lret))))
/-- SlabImage.getSlab from 86 -/
def b_128 : am_B := fun k d => (i_long 1099511627776 i_lret)
/-- SlabImage.records from 0 -/
def b_129 : am_B := fun k d => (i_aload 0 (i_getf 5 0 (i_getf 3 0 i_iret)))
/-- SlabImage.size from 0 -/
def b_130 : am_B := fun k d => (i_aload 0 (i_getf 5 2 (i_ifeq (i_aload 0 (i_getf 5 0 (i_aload 0 (i_getf 5 0 (i_getf 3 0 (i_i2l (i_recv 3 1 (i_call k d 69 2 3 (i_l2i (k d 131)))))))))) (i_int (-1) (k d 131)))))
/-- SlabImage.size from 27 -/
def b_131 : am_B := fun k d => i_iret
/-- SlabImage.begin from 0 -/
def b_132 : am_B := fun k d => (i_aload 0 (i_getf 5 2 (i_ifeq (i_aload 0 (i_getf 5 0 (i_iload 1 (i_recv 3 1 (i_call k d 47 2 2 (i_ifnonnull (i_aload 0 (i_getf 5 0 (i_iload 1 (i_recv 3 1 (i_call k d 134 2 2 (k d 133)))))) (i_int (-3) (k d 133)))))))) (i_int (-1) i_iret))))
/-- SlabImage.begin from 33 -/
def b_133 : am_B := fun k d => i_iret
/-- SlabImage$Store.beginOf from 0 -/
def b_134 : am_B := fun k d => (i_aload 0 (i_getf 3 6 (i_iload 1 (i_aald (i_getf 4 3 (i_ifne (i_aload 0 (i_recv 3 0 (i_call k d 70 1 3 (i_aload 0 (i_aload 0 (i_getf 3 4 (i_int 0 (i_recv 3 2 (i_call k d 78 3 5 (i_ii (fun x y => x + y) (i_aload 0 (i_iload 1 (i_int 1 (i_recv 3 2 (i_call k d 78 3 5 (i_ii (fun x y => x + y) i_iret)))))))))))))))) (i_aload 0 (i_recv 3 0 (i_call k d 70 1 3 (i_aload 0 (i_iload 1 (i_int 0 (i_recv 3 2 (i_call k d 78 3 5 (i_ii (fun x y => x + y) i_iret)))))))))))))))
/-- SlabImage.eight from 0 -/
def b_135 : am_B := fun k d => (i_aload 0 (i_getf 5 2 (i_ifne (k d 136) (i_iload 1 (i_iflt (k d 136) (i_iload 1 (i_int 100 (i_cmplt (i_aload 0 (i_getf 5 0 (i_aload 0 (i_getf 5 7 (i_recv 3 1 (i_call k d 138 2 3 (i_long 0 (i_lstore 2 (i_int 0 (i_istore 4 (k d 137))))))))))) (k d 136)))))))))
/-- SlabImage.eight from 17 -/
def b_136 : am_B := fun k d => (i_long 0 i_lret)
/-- SlabImage.eight from 35 -/
def b_137 : am_B := fun k d => (i_iload 4 (i_int 8 (i_cmpge (i_lload 2 i_lret) (i_lload 2 (i_int 8 (i_lsh (fun x y => x <<< (y.toInt64 &&& 63)) (i_aload 0 (i_getf 5 7 (i_int 8 (i_iload 1 (i_ii (fun x y => x * y) (i_iload 4 (i_ii (fun x y => x + y) (i_recv 1 1 (i_call k d 168 2 2 (i_i2l (i_ll (fun x y => x ||| y) (i_lstore 2 (i_iinc 4 1 (k d 137))))))))))))))))))))
/-- SlabImage$Store.writeTo from 0 -/
def b_138 : am_B := fun k d => (i_aload 1 (i_recv 1 0 (i_call k d 141 1 1 (i_aload 1 (i_int 1196573697 (i_recv 1 1 (i_call k d 142 2 2 (i_aload 1 (i_aload 0 (i_getf 3 0 (i_recv 1 1 (i_call k d 142 2 2 (i_aload 1 (i_int 10 (i_aload 0 (i_getf 3 1 (i_recv 1 2 (i_call k d 147 3 3 (i_int 0 (i_istore 2 (k d 139)))))))))))))))))))))
/-- SlabImage$Store.writeTo from 30 -/
def b_139 : am_B := fun k d => (i_iload 2 (i_aload 0 (i_getf 3 1 (i_cmpge (i_aload 0 (i_getf 3 7 (i_aload 1 (i_recv 0 1 (i_call k d 150 2 3 (i_aload 1 (i_int 11 (i_aload 0 (i_getf 3 4 (i_recv 1 2 (i_call k d 147 3 3 (i_int 0 (i_istore 2 (k d 140)))))))))))))) (i_aload 1 (i_aload 0 (i_getf 3 2 (i_iload 2 (i_iald 0 (i_recv 1 1 (i_call k d 149 2 2 (i_aload 1 (i_aload 0 (i_getf 3 3 (i_iload 2 (i_iald 0 (i_recv 1 1 (i_call k d 142 2 2 (i_iinc 2 1 (k d 139))))))))))))))))))))
/-- SlabImage$Store.writeTo from 84 -/
def b_140 : am_B := fun k d => (i_iload 2 (i_aload 0 (i_getf 3 4 (i_cmpge (i_aload 0 (i_aload 1 (i_recv 3 1 (i_call k d 157 2 4 i_vret)))) (i_aload 0 (i_aload 1 (i_iload 2 (i_aload 0 (i_iload 2 (i_recv 3 1 (i_call k d 134 2 2 (i_recv 3 3 (i_call k d 154 4 5 (i_iinc 2 1 (k d 140)))))))))))))))
/-- SlabImage$ByteRow.clear from 0 -/
def b_141 : am_B := fun k d => (i_aload 0 (i_int 0 (i_putI 1 1 (i_aload 0 (i_int 0 (i_putI 1 2 i_vret))))))
/-- SlabImage$ByteRow.appendWord from 0 -/
def b_142 : am_B := fun k d => (i_aload 0 (i_iload 1 (i_int 4 (i_recv 1 2 (i_call k d 143 3 4 i_vret)))))
/-- SlabImage$ByteRow.appendNumber from 0 -/
def b_143 : am_B := fun k d => (i_iload 2 (i_int 1 (i_ii (fun x y => x - y) (i_istore 3 (k d 144)))))
/-- SlabImage$ByteRow.appendNumber from 4 -/
def b_144 : am_B := fun k d => (i_iload 3 (i_iflt i_vret (i_aload 0 (i_iload 1 (i_int 8 (i_iload 3 (i_ii (fun x y => x * y) (i_ii (fun x y => x >>> (y &&& 31)) (i_recv 1 1 (i_call k d 145 2 2 (i_iinc 3 (-1) (k d 144))))))))))))
/-- SlabImage$ByteRow.append from 0 -/
def b_145 : am_B := fun k d => (i_aload 0 (i_getf 1 1 (i_aload 0 (i_getf 1 0 (i_alen (i_cmpge (k d 146) (i_aload 0 (i_getf 1 0 (i_aload 0 (i_getf 1 1 (i_iload 1 (i_i (fun x => x.toInt8.toInt32) (i_iast 1 (fun x => x.toInt8.toInt32) (i_aload 0 (i_dup (i_getf 1 1 (i_int 1 (i_ii (fun x y => x + y) (i_putI 1 1 (k d 146))))))))))))))))))))
/-- SlabImage$ByteRow.append from 33 -/
def b_146 : am_B := fun k d => i_vret
/-- SlabImage$ByteRow.appendListHead from 0 -/
def b_147 : am_B := fun k d => (i_aload 0 (i_iload 2 (i_ifne (i_iload 1 (k d 148)) (i_int 0 (k d 148)))))
/-- SlabImage$ByteRow.appendListHead from 10 -/
def b_148 : am_B := fun k d => (i_int 4 (i_recv 1 2 (i_call k d 143 3 4 (i_aload 0 (i_iload 2 (i_int 4 (i_recv 1 2 (i_call k d 143 3 4 i_vret))))))))
/-- SlabImage$ByteRow.appendName from 0 -/
def b_149 : am_B := fun k d => (i_aload 0 (i_int 1 (i_int 4 (i_recv 1 2 (i_call k d 143 3 4 (i_aload 0 (i_iload 1 (i_int 24 (i_ii (fun x y => x <<< (y &&& 31)) (i_int 4 (i_recv 1 2 (i_call k d 143 3 4 i_vret))))))))))))
/-- SlabImage$AttributeList.writeTo from 0 -/
def b_150 : am_B := fun k d => (i_aload 1 (i_int 12 (i_aload 0 (i_getf 0 0 (i_recv 1 2 (i_call k d 147 3 3 (i_int 0 (i_istore 2 (k d 151)))))))))
/-- SlabImage$AttributeList.writeTo from 12 -/
def b_151 : am_B := fun k d => (i_iload 2 (i_aload 0 (i_getf 0 0 (i_cmpge i_vret (i_aload 1 (i_aload 0 (i_getf 0 1 (i_iload 2 (i_iald 0 (i_recv 1 1 (i_call k d 149 2 2 (i_aload 1 (i_aload 0 (i_getf 0 2 (i_iload 2 (i_iald 0 (i_recv 1 1 (i_call k d 142 2 2 (i_aload 1 (i_int 2 (i_recv 1 1 (i_call k d 142 2 2 (i_aload 1 (i_aload 0 (i_getf 0 3 (i_iload 2 (i_iald 0 (i_stat 0 (i_aload 0 (i_getf 0 2 (i_iload 2 (i_iald 0 (i_iald 0 (i_recv 1 2 (i_call k d 143 3 4 (i_aload 1 (i_aload 0 (i_getf 0 4 (i_iload 2 (i_iald 0 (i_stat 0 (i_aload 0 (i_getf 0 2 (i_iload 2 (i_iald 0 (i_iald 0 (i_recv 1 2 (i_call k d 143 3 4 (i_aload 1 (i_recv 1 0 (i_call k d 152 1 3 (i_iinc 2 1 (k d 151)))))))))))))))))))))))))))))))))))))))))))))))))))))
/-- SlabImage$ByteRow.appendPadding from 0 -/
def b_152 : am_B := fun k d => (i_aload 0 (i_getf 1 1 (i_call k d 74 1 1 (i_aload 0 (i_getf 1 1 (i_ii (fun x y => x - y) (i_istore 1 (i_int 0 (i_istore 2 (k d 153))))))))))
/-- SlabImage$ByteRow.appendPadding from 15 -/
def b_153 : am_B := fun k d => (i_iload 2 (i_iload 1 (i_cmpge i_vret (i_aload 0 (i_int 0 (i_recv 1 1 (i_call k d 145 2 2 (i_iinc 2 1 (k d 153)))))))))
/-- SlabImage$Store.writeVariable from 0 -/
def b_154 : am_B := fun k d => (i_aload 0 (i_getf 3 6 (i_iload 2 (i_aald (i_astore 4 (i_aload 1 (i_aload 0 (i_getf 3 5 (i_iload 2 (i_iald 0 (i_recv 1 1 (i_call k d 149 2 2 (i_aload 1 (i_aload 4 (i_recv 4 0 (i_call k d 76 1 1 (i_recv 1 1 (i_call k d 142 2 2 (i_aload 4 (i_recv 4 0 (i_call k d 76 1 1 (i_ifle (k d 155) (i_aload 1 (i_aload 4 (i_getf 4 1 (i_recv 1 1 (i_call k d 142 2 2 (k d 155))))))))))))))))))))))))))))
/-- SlabImage$Store.writeVariable from 44 -/
def b_155 : am_B := fun k d => (i_aload 4 (i_recv 4 0 (i_call k d 76 1 1 (i_int 1 (i_cmple (k d 156) (i_aload 1 (i_aload 4 (i_getf 4 2 (i_recv 1 1 (i_call k d 142 2 2 (k d 156)))))))))))
/-- SlabImage$Store.writeVariable from 62 -/
def b_156 : am_B := fun k d => (i_aload 4 (i_getf 4 6 (i_aload 1 (i_recv 0 1 (i_call k d 150 2 3 (i_aload 1 (i_aload 4 (i_getf 4 0 (i_recv 1 1 (i_call k d 142 2 2 (i_aload 1 (i_aload 4 (i_recv 4 0 (i_call k d 82 1 1 (i_recv 1 1 (i_call k d 142 2 2 (i_aload 1 (i_iload 3 (i_recv 1 1 (i_call k d 142 2 2 i_vret))))))))))))))))))))
/-- SlabImage$Store.writeCells from 0 -/
def b_157 : am_B := fun k d => (i_int 0 (i_istore 2 (k d 158)))
/-- SlabImage$Store.writeCells from 2 -/
def b_158 : am_B := fun k d => (i_iload 2 (i_aload 0 (i_getf 3 4 (i_cmpge (i_aload 0 (i_recv 3 0 (i_call k d 88 1 3 (i_int 1 (i_cmple (i_int 0 (k d 161)) (i_int 1 (k d 161))))))) (i_aload 0 (i_getf 3 6 (i_iload 2 (i_aald (i_getf 4 3 (i_ifne (k d 160) (i_int 0 (i_istore 3 (k d 159)))))))))))))
/-- SlabImage$Store.writeCells from 24 -/
def b_159 : am_B := fun k d => (i_iload 3 (i_aload 0 (i_getf 3 6 (i_iload 2 (i_aald (i_getf 4 4 (i_cmpge (i_aload 1 (i_recv 1 0 (i_call k d 152 1 3 (k d 160)))) (i_aload 0 (i_getf 3 6 (i_iload 2 (i_aald (i_aload 1 (i_iload 3 (i_recv 4 2 (i_call k d 163 3 4 (i_iinc 3 1 (k d 159)))))))))))))))))
/-- SlabImage$Store.writeCells from 58 -/
def b_160 : am_B := fun k d => (i_iinc 2 1 (k d 158))
/-- SlabImage$Store.writeCells from 77 -/
def b_161 : am_B := fun k d => (i_istore 2 (i_int 0 (i_istore 3 (k d 162))))
/-- SlabImage$Store.writeCells from 80 -/
def b_162 : am_B := fun k d => (i_iload 3 (i_aload 0 (i_getf 3 0 (i_cmpge i_vret (i_aload 0 (i_aload 1 (i_iload 3 (i_iload 2 (i_recv 3 3 (i_call k d 165 4 5 (i_iinc 3 1 (k d 162))))))))))))
/-- SlabImage$Variable.writeRow from 0 -/
def b_163 : am_B := fun k d => (i_int 0 (i_istore 3 (k d 164)))
/-- SlabImage$Variable.writeRow from 2 -/
def b_164 : am_B := fun k d => (i_iload 3 (i_aload 0 (i_getf 4 5 (i_cmpge i_vret (i_aload 1 (i_aload 0 (i_iload 2 (i_iload 3 (i_recv 4 2 (i_call k d 107 3 4 (i_stat 0 (i_aload 0 (i_getf 4 0 (i_iald 0 (i_recv 1 2 (i_call k d 143 3 4 (i_iinc 3 1 (k d 164))))))))))))))))))
/-- SlabImage$Store.writeRecord from 0 -/
def b_165 : am_B := fun k d => (i_int 0 (i_istore 4 (k d 166)))
/-- SlabImage$Store.writeRecord from 3 -/
def b_166 : am_B := fun k d => (i_iload 4 (i_aload 0 (i_getf 3 4 (i_cmpge i_vret (i_aload 0 (i_getf 3 6 (i_iload 4 (i_aald (i_getf 4 3 (i_ifeq (k d 167) (i_aload 0 (i_getf 3 6 (i_iload 4 (i_aald (i_aload 1 (i_iload 2 (i_recv 4 2 (i_call k d 163 3 4 (i_iload 3 (i_ifeq (k d 167) (i_aload 1 (i_recv 1 0 (i_call k d 152 1 3 (k d 167))))))))))))))))))))))))
/-- SlabImage$Store.writeRecord from 45 -/
def b_167 : am_B := fun k d => (i_iinc 4 1 (k d 166))
/-- SlabImage$ByteRow.at from 0 -/
def b_168 : am_B := fun k d => (i_iload 1 (i_iflt (k d 169) (i_iload 1 (i_aload 0 (i_getf 1 1 (i_cmpge (k d 169) (i_aload 0 (i_getf 1 0 (i_iload 1 (i_iald 1 (i_int 255 (i_ii (fun x y => x &&& y) (k d 170)))))))))))))
/-- SlabImage$ByteRow.at from 25 -/
def b_169 : am_B := fun k d => (i_int 0 (k d 170))
/-- SlabImage$ByteRow.at from 26 -/
def b_170 : am_B := fun k d => i_iret
/-- SlabImage.add from 0 -/
def b_171 : am_B := fun k d => (i_iload 3 (i_int 1 (i_cmplt (k d 172) (i_iload 3 (i_int 8 (i_cmpgt (k d 172) (i_aload 0 (i_getf 5 6 (i_getf 1 1 (i_iload 3 (i_ii (fun x y => x + y) (i_int 800 (i_cmple (i_int 0 (i_istore 4 (k d 173))) (k d 172))))))))))))))
/-- SlabImage.add from 26 -/
def b_172 : am_B := fun k d => (i_int 0 i_zret)
/-- SlabImage.add from 31 -/
def b_173 : am_B := fun k d => (i_iload 4 (i_iload 3 (i_cmpge (i_int 1 i_zret) (i_aload 0 (i_getf 5 6 (i_lload 1 (i_int 56 (i_int 8 (i_iload 4 (i_ii (fun x y => x * y) (i_ii (fun x y => x - y) (i_lsh (fun x y => (x.toUInt64 >>> (y.toInt64.toUInt64 &&& Int64.toUInt64 63)).toInt64) (i_l2i (i_recv 1 1 (i_call k d 145 2 2 (i_iinc 4 1 (k d 173)))))))))))))))))
/-- SlabImage.erase from 0 -/
def b_174 : am_B := fun k d => (i_aload 0 (i_getf 5 6 (i_recv 1 0 (i_call k d 141 1 1 i_vret))))
/-- SlabImage.open from 0 -/
def b_175 : am_B := fun k d => (i_aload 0 (i_getf 5 1 (i_recv 3 0 (i_call k d 176 1 2 (i_aload 0 (i_getf 5 1 (i_aload 0 (i_getf 5 6 (i_recv 3 1 (i_call k d 179 2 3 (i_ifne (i_aload 0 (i_getf 5 1 (i_aload 0 (i_getf 5 7 (i_recv 3 1 (i_call k d 138 2 3 (i_aload 0 (i_getf 5 7 (i_aload 0 (i_getf 5 6 (i_recv 1 1 (i_call k d 218 2 3 (i_ifne (i_aload 0 (i_getf 5 0 (i_astore 1 (i_aload 0 (i_aload 0 (i_getf 5 1 (i_putR 5 0 (i_aload 0 (i_aload 1 (i_putR 5 1 (i_aload 0 (i_int 0 (i_putZ 5 2 (i_aload 0 (i_getf 5 6 (i_getf 1 1 i_iret)))))))))))))))) (i_int (-9) i_iret)))))))))))))) (i_int (-9) i_iret))))))))))))
/-- SlabImage$Store.clear from 0 -/
def b_176 : am_B := fun k d => (i_aload 0 (i_int 0 (i_putI 3 0 (i_aload 0 (i_int 0 (i_putI 3 1 (i_aload 0 (i_int 0 (i_putI 3 4 (i_aload 0 (i_getf 3 7 (i_recv 0 0 (i_call k d 178 1 1 (i_int 0 (i_istore 1 (k d 177))))))))))))))))
/-- SlabImage$Store.clear from 24 -/
def b_177 : am_B := fun k d => (i_iload 1 (i_int 5 (i_cmpge i_vret (i_aload 0 (i_getf 3 6 (i_iload 1 (i_aald (i_getf 4 6 (i_recv 0 0 (i_call k d 178 1 1 (i_iinc 1 1 (k d 177))))))))))))
/-- SlabImage$AttributeList.clear from 0 -/
def b_178 : am_B := fun k d => (i_aload 0 (i_int 0 (i_putI 0 0 i_vret)))
/-- SlabImage$Store.readFrom from 0 -/
def b_179 : am_B := fun k d => (i_aload 1 (i_recv 1 0 (i_call k d 183 1 1 (i_aload 1 (i_recv 1 0 (i_call k d 184 1 1 (i_pop (i_aload 1 (i_recv 1 0 (i_call k d 184 1 1 (i_istore 2 (i_aload 0 (i_aload 1 (i_recv 3 1 (i_call k d 188 2 6 (i_ifeq (k d 180) (i_aload 0 (i_getf 3 7 (i_aload 1 (i_recv 0 1 (i_call k d 193 2 8 (i_ifeq (k d 180) (i_aload 0 (i_aload 1 (i_recv 3 1 (i_call k d 199 2 4 (i_ifne (i_iload 2 (i_iflt (k d 181) (i_iload 2 (i_ifle (k d 182) (i_aload 0 (i_recv 3 0 (i_call k d 88 1 3 (i_ifne (k d 182) (k d 181))))))))) (k d 180))))))))))))))))))))))))))))
/-- SlabImage$Store.readFrom from 41 -/
def b_180 : am_B := fun k d => (i_int 0 i_zret)
/-- SlabImage$Store.readFrom from 58 -/
def b_181 : am_B := fun k d => (i_int 0 i_zret)
/-- SlabImage$Store.readFrom from 60 -/
def b_182 : am_B := fun k d => (i_aload 0 (i_iload 2 (i_i2l (i_recv 3 1 (i_call k d 69 2 3 (i_aload 1 (i_getf 1 1 (i_i2l (i_lcmp (i_ifeq (i_aload 0 (i_iload 2 (i_putI 3 0 (i_aload 0 (i_aload 1 (i_recv 3 1 (i_call k d 207 2 4 (i_int 1 i_zret)))))))) (i_int 0 i_zret)))))))))))
/-- SlabImage$ByteRow.rewind from 0 -/
def b_183 : am_B := fun k d => (i_aload 0 (i_int 0 (i_putI 1 2 i_vret)))
/-- SlabImage$ByteRow.takeWord from 0 -/
def b_184 : am_B := fun k d => (i_aload 0 (i_int 4 (i_recv 1 1 (i_call k d 185 2 4 i_iret))))
/-- SlabImage$ByteRow.takeNumber from 0 -/
def b_185 : am_B := fun k d => (i_int 0 (i_istore 2 (i_int 0 (i_istore 3 (k d 186)))))
/-- SlabImage$ByteRow.takeNumber from 4 -/
def b_186 : am_B := fun k d => (i_iload 3 (i_iload 1 (i_cmpge (i_iload 2 i_iret) (i_iload 2 (i_int 8 (i_ii (fun x y => x <<< (y &&& 31)) (i_aload 0 (i_getf 1 2 (i_aload 0 (i_getf 1 1 (i_cmpge (i_int 0 (k d 187)) (i_aload 0 (i_getf 1 0 (i_aload 0 (i_getf 1 2 (i_iald 1 (i_int 255 (i_ii (fun x y => x &&& y) (k d 187)))))))))))))))))))
/-- SlabImage$ByteRow.takeNumber from 41 -/
def b_187 : am_B := fun k d => (i_ii (fun x y => x ||| y) (i_istore 2 (i_aload 0 (i_dup (i_getf 1 2 (i_int 1 (i_ii (fun x y => x + y) (i_putI 1 2 (i_iinc 3 1 (k d 186))))))))))
/-- SlabImage$Store.readDimensions from 0 -/
def b_188 : am_B := fun k d => (i_aload 1 (i_recv 1 0 (i_call k d 191 1 1 (i_istore 2 (i_iload 2 (i_iflt (k d 189) (i_iload 2 (i_int 4 (i_cmple (i_int 0 (i_istore 3 (k d 190))) (k d 189))))))))))
/-- SlabImage$Store.readDimensions from 14 -/
def b_189 : am_B := fun k d => (i_int 0 i_zret)
/-- SlabImage$Store.readDimensions from 18 -/
def b_190 : am_B := fun k d => (i_iload 3 (i_iload 2 (i_cmpge (i_int 1 i_zret) (i_aload 1 (i_recv 1 0 (i_call k d 192 1 1 (i_istore 4 (i_aload 1 (i_recv 1 0 (i_call k d 184 1 1 (i_istore 5 (i_aload 0 (i_iload 4 (i_iload 5 (i_recv 3 2 (i_call k d 9 3 3 (i_ifge (i_iinc 3 1 (k d 190)) (i_int 0 i_zret))))))))))))))))))
/-- SlabImage$ByteRow.takeCount from 0 -/
def b_191 : am_B := fun k d => (i_aload 0 (i_int 4 (i_recv 1 1 (i_call k d 185 2 4 (i_pop (i_aload 0 (i_int 4 (i_recv 1 1 (i_call k d 185 2 4 i_iret)))))))))
/-- SlabImage$ByteRow.takeName from 0 -/
def b_192 : am_B := fun k d => (i_aload 0 (i_int 4 (i_recv 1 1 (i_call k d 185 2 4 (i_pop (i_aload 0 (i_int 4 (i_recv 1 1 (i_call k d 185 2 4 (i_int 24 (i_ii (fun x y => (x.toUInt32 >>> (y.toUInt32 &&& Int32.toUInt32 31)).toInt32) i_iret)))))))))))
/-- SlabImage$AttributeList.readFrom from 0 -/
def b_193 : am_B := fun k d => (i_aload 1 (i_recv 1 0 (i_call k d 191 1 1 (i_istore 2 (i_iload 2 (i_iflt (k d 194) (i_iload 2 (i_int 3 (i_cmple (i_int 0 (i_istore 3 (k d 195))) (k d 194))))))))))
/-- SlabImage$AttributeList.readFrom from 14 -/
def b_194 : am_B := fun k d => (i_int 0 i_zret)
/-- SlabImage$AttributeList.readFrom from 18 -/
def b_195 : am_B := fun k d => (i_iload 3 (i_iload 2 (i_cmpge (i_int 1 i_zret) (i_aload 1 (i_recv 1 0 (i_call k d 192 1 1 (i_istore 4 (i_aload 1 (i_recv 1 0 (i_call k d 184 1 1 (i_istore 5 (i_aload 1 (i_recv 1 0 (i_call k d 184 1 1 (i_pop (i_iload 5 (i_call k d 27 1 1 (i_ifne (i_aload 1 (i_iload 5 (i_recv 1 1 (i_call k d 196 2 3 (i_istore 6 (i_aload 1 (i_iload 5 (i_recv 1 1 (i_call k d 196 2 3 (i_istore 7 (i_aload 1 (i_recv 1 0 (i_call k d 198 1 1 (i_aload 0 (i_iload 4 (i_iload 5 (i_iload 6 (i_iload 7 (i_recv 0 4 (i_call k d 50 5 6 (i_ifge (i_iinc 3 1 (k d 195)) (i_int 0 i_zret)))))))))))))))))))))) (i_int 0 i_zret)))))))))))))))))))
/-- SlabImage$ByteRow.takeValue from 0 -/
def b_196 : am_B := fun k d => (i_aload 0 (i_stat 0 (i_iload 1 (i_iald 0 (i_recv 1 1 (i_call k d 185 2 4 (i_istore 2 (i_iload 1 (i_int 1 (i_cmpne (i_iload 1 (i_int 3 (i_cmpne (i_iload 2 (k d 197)) (i_iload 2 (i_i (fun x => x.toInt16.toInt32) (k d 197)))))) (i_iload 2 (i_i (fun x => x.toInt8.toInt32) i_iret))))))))))))
/-- SlabImage$ByteRow.takeValue from 29 -/
def b_197 : am_B := fun k d => i_iret
/-- SlabImage$ByteRow.takePadding from 0 -/
def b_198 : am_B := fun k d => (i_aload 0 (i_aload 0 (i_getf 1 2 (i_call k d 74 1 1 (i_putI 1 2 i_vret)))))
/-- SlabImage$Store.readVariables from 0 -/
def b_199 : am_B := fun k d => (i_aload 1 (i_recv 1 0 (i_call k d 191 1 1 (i_istore 2 (i_iload 2 (i_iflt (k d 200) (i_iload 2 (i_int 5 (i_cmple (i_int 0 (i_istore 3 (k d 201))) (k d 200))))))))))
/-- SlabImage$Store.readVariables from 14 -/
def b_200 : am_B := fun k d => (i_int 0 i_zret)
/-- SlabImage$Store.readVariables from 18 -/
def b_201 : am_B := fun k d => (i_iload 3 (i_iload 2 (i_cmpge (i_int 1 i_zret) (i_aload 0 (i_aload 1 (i_aload 0 (i_getf 3 6 (i_iload 3 (i_aald (i_getf 4 6 (i_recv 3 2 (i_call k d 202 3 8 (i_ifne (i_iinc 3 1 (k d 201)) (i_int 0 i_zret))))))))))))))
/-- SlabImage$Store.readVariable from 0 -/
def b_202 : am_B := fun k d => (i_aload 1 (i_recv 1 0 (i_call k d 192 1 1 (i_istore 3 (i_aload 1 (i_recv 1 0 (i_call k d 184 1 1 (i_istore 4 (i_iload 4 (i_iflt (k d 203) (i_iload 4 (i_int 2 (i_cmple (i_iload 4 (i_ifle (i_int (-1) (k d 204)) (i_aload 1 (i_recv 1 0 (i_call k d 184 1 1 (k d 204)))))) (k d 203))))))))))))))
/-- SlabImage$Store.readVariable from 22 -/
def b_203 : am_B := fun k d => (i_int 0 i_zret)
/-- SlabImage$Store.readVariable from 37 -/
def b_204 : am_B := fun k d => (i_istore 5 (i_iload 4 (i_int 1 (i_cmple (i_int (-1) (k d 205)) (i_aload 1 (i_recv 1 0 (i_call k d 184 1 1 (k d 205))))))))
/-- SlabImage$Store.readVariable from 53 -/
def b_205 : am_B := fun k d => (i_istore 6 (i_aload 2 (i_aload 1 (i_recv 0 1 (i_call k d 193 2 8 (i_ifne (i_aload 1 (i_recv 1 0 (i_call k d 184 1 1 (i_istore 7 (i_aload 1 (i_recv 1 0 (i_call k d 184 1 1 (i_pop (i_aload 1 (i_recv 1 0 (i_call k d 184 1 1 (i_pop (i_aload 0 (i_iload 3 (i_iload 7 (i_iload 5 (i_iload 6 (i_recv 3 4 (i_call k d 23 5 5 (i_iflt (i_int 0 (k d 206)) (i_int 1 (k d 206)))))))))))))))))))))) (i_int 0 i_zret)))))))
/-- SlabImage$Store.readVariable from 100 -/
def b_206 : am_B := fun k d => i_zret
/-- SlabImage$Store.readCells from 0 -/
def b_207 : am_B := fun k d => (i_int 0 (i_istore 2 (k d 208)))
/-- SlabImage$Store.readCells from 2 -/
def b_208 : am_B := fun k d => (i_iload 2 (i_aload 0 (i_getf 3 4 (i_cmpge (i_aload 0 (i_recv 3 0 (i_call k d 88 1 3 (i_int 1 (i_cmple (i_int 0 (k d 211)) (i_int 1 (k d 211))))))) (i_aload 0 (i_getf 3 6 (i_iload 2 (i_aald (i_getf 4 3 (i_ifne (k d 210) (i_int 0 (i_istore 3 (k d 209)))))))))))))
/-- SlabImage$Store.readCells from 24 -/
def b_209 : am_B := fun k d => (i_iload 3 (i_aload 0 (i_getf 3 6 (i_iload 2 (i_aald (i_getf 4 4 (i_cmpge (i_aload 1 (i_recv 1 0 (i_call k d 198 1 1 (k d 210)))) (i_aload 0 (i_getf 3 6 (i_iload 2 (i_aald (i_aload 1 (i_iload 3 (i_recv 4 2 (i_call k d 213 3 4 (i_iinc 3 1 (k d 209)))))))))))))))))
/-- SlabImage$Store.readCells from 58 -/
def b_210 : am_B := fun k d => (i_iinc 2 1 (k d 208))
/-- SlabImage$Store.readCells from 77 -/
def b_211 : am_B := fun k d => (i_istore 2 (i_int 0 (i_istore 3 (k d 212))))
/-- SlabImage$Store.readCells from 80 -/
def b_212 : am_B := fun k d => (i_iload 3 (i_aload 0 (i_getf 3 0 (i_cmpge i_vret (i_aload 0 (i_aload 1 (i_iload 3 (i_iload 2 (i_recv 3 3 (i_call k d 215 4 5 (i_iinc 3 1 (k d 212))))))))))))
/-- SlabImage$Variable.readRow from 0 -/
def b_213 : am_B := fun k d => (i_int 0 (i_istore 3 (k d 214)))
/-- SlabImage$Variable.readRow from 2 -/
def b_214 : am_B := fun k d => (i_iload 3 (i_aload 0 (i_getf 4 5 (i_cmpge i_vret (i_aload 0 (i_iload 2 (i_iload 3 (i_aload 1 (i_aload 0 (i_getf 4 0 (i_recv 1 1 (i_call k d 196 2 3 (i_recv 4 3 (i_call k d 99 4 5 (i_iinc 3 1 (k d 214))))))))))))))))
/-- SlabImage$Store.readRecord from 0 -/
def b_215 : am_B := fun k d => (i_int 0 (i_istore 4 (k d 216)))
/-- SlabImage$Store.readRecord from 3 -/
def b_216 : am_B := fun k d => (i_iload 4 (i_aload 0 (i_getf 3 4 (i_cmpge i_vret (i_aload 0 (i_getf 3 6 (i_iload 4 (i_aald (i_getf 4 3 (i_ifeq (k d 217) (i_aload 0 (i_getf 3 6 (i_iload 4 (i_aald (i_aload 1 (i_iload 2 (i_recv 4 2 (i_call k d 213 3 4 (i_iload 3 (i_ifeq (k d 217) (i_aload 1 (i_recv 1 0 (i_call k d 198 1 1 (k d 217))))))))))))))))))))))))
/-- SlabImage$Store.readRecord from 45 -/
def b_217 : am_B := fun k d => (i_iinc 4 1 (k d 216))
/-- SlabImage$ByteRow.matches from 0 -/
def b_218 : am_B := fun k d => (i_aload 0 (i_getf 1 1 (i_aload 1 (i_getf 1 1 (i_cmpeq (i_int 0 (i_istore 2 (k d 219))) (i_int 0 i_zret))))))
/-- SlabImage$ByteRow.matches from 15 -/
def b_219 : am_B := fun k d => (i_iload 2 (i_aload 0 (i_getf 1 1 (i_cmpge (i_int 1 i_zret) (i_aload 0 (i_getf 1 0 (i_iload 2 (i_iald 1 (i_aload 1 (i_getf 1 0 (i_iload 2 (i_iald 1 (i_cmpeq (i_iinc 2 1 (k d 219)) (i_int 0 i_zret))))))))))))))
/-- SlabImageModel.<init> from 0 -/
def b_220 : am_B := fun k d => (i_aload 0 (i_obj d (i_aload 0 (i_int 2 (i_newi 0 (i_putR 6 2 (i_aload 0 (i_int 8 (i_newi 0 (i_putR 6 3 (i_aload 0 (i_int 8 (i_newi 0 (i_putR 6 4 (i_aload 0 (i_int 2 (i_newi 0 (i_putR 6 5 (i_aload 0 (i_int 10 (i_newi 0 (i_putR 6 6 (i_aload 0 (i_int 10 (i_newi 0 (i_putR 6 7 (i_aload 0 (i_int 10 (i_newi 0 (i_putR 6 8 (i_aload 0 (i_int 20 (i_newi 0 (i_putR 6 9 (i_aload 0 (i_int 12 (i_newi 0 (i_putR 6 10 (i_aload 0 (i_int 36 (i_newi 0 (i_putR 6 11 (i_aload 0 (i_int 36 (i_newi 0 (i_putR 6 12 (i_aload 0 (i_int 36 (i_newi 0 (i_putR 6 13 (i_aload 0 (i_int 36 (i_newi 0 (i_putR 6 14 (i_aload 0 (i_int 2 (i_newi 0 (i_putR 6 15 (i_aload 0 (i_int 8000 (i_newi 0 (i_putR 6 16 (i_aload 0 (i_int 2 (i_newi 0 (i_putR 6 17 (i_aload 0 (i_int 2 (i_newi 0 (i_dup (i_int 0 (i_int 1 (i_iast 0 (fun x => x) (i_dup (i_int 1 (i_int 1 (i_iast 0 (fun x => x) (i_putR 6 18 (i_aload 0 (i_int 2 (i_newi 0 (i_dup (i_int 0 (i_int 1 (i_iast 0 (fun x => x) (i_dup (i_int 1 (i_int 1 (i_iast 0 (fun x => x) (i_putR 6 19 (i_aload 0 (i_int 800 (i_newi 0 (i_putR 6 20 (i_aload 0 (i_int 800 (i_newi 0 (i_putR 6 22 i_vret))))))))))))))))))))))))))))))))))))))))))))))))))))))))))))))))))))))))))))))))))))))))))))))))))
/-- SlabImageModel.dimension from 0 -/
def b_221 : am_B := fun k d => (i_aload 0 (i_getf 6 1 (i_ifeq (i_iload 1 (i_call k d 225 1 1 (i_ifeq (k d 222) (i_iload 2 (i_iflt (k d 222) (i_iload 2 (i_int 8 (i_cmple (i_aload 0 (i_aload 0 (i_getf 6 0 (i_iload 1 (i_int (-1) (i_recv 6 3 (i_call k d 228 4 6 (i_ifeq (i_aload 0 (i_getf 6 2 (i_aload 0 (i_getf 6 0 (i_iald 0 (i_int 4 (i_cmpeq (k d 223) (i_iload 2 (i_ifne (k d 224) (i_aload 0 (i_aload 0 (i_getf 6 0 (i_recv 6 1 (i_call k d 233 2 4 (i_ifle (k d 224) (k d 223)))))))))))))))) (i_int (-4) i_iret))))))))) (k d 222))))))))) (i_int (-1) i_iret))))
/-- SlabImageModel.dimension from 26 -/
def b_222 : am_B := fun k d => (i_int (-2) i_iret)
/-- SlabImageModel.dimension from 73 -/
def b_223 : am_B := fun k d => (i_int (-5) i_iret)
/-- SlabImageModel.dimension from 76 -/
def b_224 : am_B := fun k d => (i_aload 0 (i_getf 6 2 (i_aload 0 (i_getf 6 0 (i_iald 0 (i_istore 3 (i_aload 0 (i_getf 6 3 (i_int 4 (i_aload 0 (i_getf 6 0 (i_ii (fun x y => x * y) (i_iload 3 (i_ii (fun x y => x + y) (i_iload 1 (i_iast 0 (fun x => x) (i_aload 0 (i_getf 6 4 (i_int 4 (i_aload 0 (i_getf 6 0 (i_ii (fun x y => x * y) (i_iload 3 (i_ii (fun x y => x + y) (i_iload 2 (i_iast 0 (fun x => x) (i_aload 0 (i_getf 6 2 (i_aload 0 (i_getf 6 0 (i_iload 3 (i_int 1 (i_ii (fun x y => x + y) (i_iast 0 (fun x => x) (i_iload 3 i_iret)))))))))))))))))))))))))))))))))))
/-- SlabImageModel.isName from 0 -/
def b_225 : am_B := fun k d => (i_iload 0 (i_int 33 (i_cmplt (k d 226) (i_iload 0 (i_int 126 (i_cmpgt (k d 226) (i_int 1 (k d 227))))))))
/-- SlabImageModel.isName from 16 -/
def b_226 : am_B := fun k d => (i_int 0 (k d 227))
/-- SlabImageModel.isName from 17 -/
def b_227 : am_B := fun k d => i_zret
/-- SlabImageModel.dimNamed from 0 -/
def b_228 : am_B := fun k d => (i_int 0 (i_istore 4 (i_int 0 (i_istore 5 (k d 229)))))
/-- SlabImageModel.dimNamed from 6 -/
def b_229 : am_B := fun k d => (i_iload 5 (i_aload 0 (i_getf 6 2 (i_iload 1 (i_iald 0 (i_cmpge (i_iload 4 i_zret) (i_iload 4 (i_ifne (k d 230) (i_iload 5 (i_iload 3 (i_cmpeq (k d 231) (i_aload 0 (i_getf 6 3 (i_int 4 (i_iload 1 (i_ii (fun x y => x * y) (i_iload 5 (i_ii (fun x y => x + y) (i_iald 0 (i_iload 2 (i_cmpne (k d 231) (k d 230))))))))))))))))))))))
/-- SlabImageModel.dimNamed from 43 -/
def b_230 : am_B := fun k d => (i_int 1 (k d 232))
/-- SlabImageModel.dimNamed from 47 -/
def b_231 : am_B := fun k d => (i_int 0 (k d 232))
/-- SlabImageModel.dimNamed from 48 -/
def b_232 : am_B := fun k d => (i_istore 4 (i_iinc 5 1 (k d 229)))
/-- SlabImageModel.growing from 0 -/
def b_233 : am_B := fun k d => (i_int 0 (i_istore 2 (i_int 0 (i_istore 3 (k d 234)))))
/-- SlabImageModel.growing from 4 -/
def b_234 : am_B := fun k d => (i_iload 3 (i_aload 0 (i_getf 6 2 (i_iload 1 (i_iald 0 (i_cmpge (i_iload 2 i_iret) (i_aload 0 (i_getf 6 4 (i_int 4 (i_iload 1 (i_ii (fun x y => x * y) (i_iload 3 (i_ii (fun x y => x + y) (i_iald 0 (i_ifne (i_iload 2 (k d 235)) (i_iload 2 (i_int 1 (i_ii (fun x y => x + y) (k d 235)))))))))))))))))))
/-- SlabImageModel.growing from 34 -/
def b_235 : am_B := fun k d => (i_istore 2 (i_iinc 3 1 (k d 234)))
/-- SlabImageModel.variable from 0 -/
def b_236 : am_B := fun k d => (i_aload 0 (i_getf 6 1 (i_ifeq (i_iload 1 (i_call k d 225 1 1 (i_ifeq (k d 237) (i_iload 2 (i_int 1 (i_cmplt (k d 237) (i_iload 2 (i_int 4 (i_cmple (i_iload 3 (i_int (-1) (i_cmpeq (k d 238) (i_aload 0 (i_iload 3 (i_recv 6 1 (i_call k d 244 2 2 (i_ifeq (k d 240) (k d 238))))))))) (k d 237)))))))))) (i_int (-1) i_iret))))
/-- SlabImageModel.variable from 26 -/
def b_237 : am_B := fun k d => (i_int (-2) i_iret)
/-- SlabImageModel.variable from 42 -/
def b_238 : am_B := fun k d => (i_iload 4 (i_int (-1) (i_cmpeq (k d 239) (i_aload 0 (i_iload 4 (i_recv 6 1 (i_call k d 244 2 2 (i_ifeq (k d 240) (k d 239)))))))))
/-- SlabImageModel.variable from 57 -/
def b_239 : am_B := fun k d => (i_iload 3 (i_int (-1) (i_cmpne (k d 241) (i_iload 4 (i_int (-1) (i_cmpeq (k d 241) (k d 240)))))))
/-- SlabImageModel.variable from 68 -/
def b_240 : am_B := fun k d => (i_int (-3) i_iret)
/-- SlabImageModel.variable from 71 -/
def b_241 : am_B := fun k d => (i_iload 4 (i_int (-1) (i_cmpeq (k d 242) (i_aload 0 (i_getf 6 4 (i_int 4 (i_aload 0 (i_getf 6 0 (i_ii (fun x y => x * y) (i_iload 4 (i_ii (fun x y => x + y) (i_iald 0 (i_ifne (k d 242) (i_int (-2) i_iret))))))))))))))
/-- SlabImageModel.variable from 97 -/
def b_242 : am_B := fun k d => (i_aload 0 (i_aload 0 (i_getf 6 0 (i_iload 1 (i_int (-1) (i_recv 6 3 (i_call k d 247 4 6 (i_ifeq (i_aload 0 (i_getf 6 5 (i_aload 0 (i_getf 6 0 (i_iald 0 (i_int 5 (i_cmpne (i_aload 0 (i_getf 6 5 (i_aload 0 (i_getf 6 0 (i_iald 0 (i_istore 5 (i_int 5 (i_aload 0 (i_getf 6 0 (i_ii (fun x y => x * y) (i_iload 5 (i_ii (fun x y => x + y) (i_istore 6 (i_aload 0 (i_getf 6 6 (i_iload 6 (i_iload 1 (i_iast 0 (fun x => x) (i_aload 0 (i_getf 6 7 (i_iload 6 (i_iload 2 (i_iast 0 (fun x => x) (i_aload 0 (i_getf 6 8 (i_iload 6 (i_iload 3 (i_int (-1) (i_cmpne (i_iload 4 (i_int (-1) (i_cmpne (i_int 2 (k d 243)) (i_int 1 (k d 243))))) (i_int 0 (k d 243))))))))))))))))))))))))))))))) (i_int (-5) i_iret)))))))) (i_int (-4) i_iret)))))))))
/-- SlabImageModel.variable from 193 -/
def b_243 : am_B := fun k d => (i_iast 0 (fun x => x) (i_aload 0 (i_getf 6 9 (i_int 2 (i_iload 6 (i_ii (fun x y => x * y) (i_iload 3 (i_iast 0 (fun x => x) (i_aload 0 (i_getf 6 9 (i_int 2 (i_iload 6 (i_ii (fun x y => x * y) (i_int 1 (i_ii (fun x y => x + y) (i_iload 4 (i_iast 0 (fun x => x) (i_aload 0 (i_getf 6 10 (i_int 6 (i_aload 0 (i_getf 6 0 (i_ii (fun x y => x * y) (i_iload 5 (i_ii (fun x y => x + y) (i_int 1 (i_ii (fun x y => x + y) (i_int 0 (i_iast 0 (fun x => x) (i_aload 0 (i_aload 0 (i_getf 6 0 (i_iload 5 (i_recv 6 2 (i_call k d 252 3 4 (i_aload 0 (i_getf 6 5 (i_aload 0 (i_getf 6 0 (i_iload 5 (i_int 1 (i_ii (fun x y => x + y) (i_iast 0 (fun x => x) (i_iload 5 i_iret))))))))))))))))))))))))))))))))))))))))))))
/-- SlabImageModel.isDimension from 0 -/
def b_244 : am_B := fun k d => (i_iload 1 (i_iflt (k d 245) (i_iload 1 (i_aload 0 (i_getf 6 2 (i_aload 0 (i_getf 6 0 (i_iald 0 (i_cmpge (k d 245) (i_int 1 (k d 246)))))))))))
/-- SlabImageModel.isDimension from 21 -/
def b_245 : am_B := fun k d => (i_int 0 (k d 246))
/-- SlabImageModel.isDimension from 22 -/
def b_246 : am_B := fun k d => i_zret
/-- SlabImageModel.varNamed from 0 -/
def b_247 : am_B := fun k d => (i_int 0 (i_istore 4 (i_int 0 (i_istore 5 (k d 248)))))
/-- SlabImageModel.varNamed from 6 -/
def b_248 : am_B := fun k d => (i_iload 5 (i_aload 0 (i_getf 6 5 (i_iload 1 (i_iald 0 (i_cmpge (i_iload 4 i_zret) (i_iload 4 (i_ifne (k d 249) (i_iload 5 (i_iload 3 (i_cmpeq (k d 250) (i_aload 0 (i_getf 6 6 (i_int 5 (i_iload 1 (i_ii (fun x y => x * y) (i_iload 5 (i_ii (fun x y => x + y) (i_iald 0 (i_iload 2 (i_cmpne (k d 250) (k d 249))))))))))))))))))))))
/-- SlabImageModel.varNamed from 43 -/
def b_249 : am_B := fun k d => (i_int 1 (k d 251))
/-- SlabImageModel.varNamed from 47 -/
def b_250 : am_B := fun k d => (i_int 0 (k d 251))
/-- SlabImageModel.varNamed from 48 -/
def b_251 : am_B := fun k d => (i_istore 4 (i_iinc 5 1 (k d 248)))
/-- SlabImageModel.blank from 0 -/
def b_252 : am_B := fun k d => (i_int 0 (i_istore 3 (k d 253)))
/-- SlabImageModel.blank from 2 -/
def b_253 : am_B := fun k d => (i_iload 3 (i_int 800 (i_cmpge i_vret (i_aload 0 (i_getf 6 16 (i_int 800 (i_int 5 (i_iload 1 (i_ii (fun x y => x * y) (i_iload 2 (i_ii (fun x y => x + y) (i_ii (fun x y => x * y) (i_iload 3 (i_ii (fun x y => x + y) (i_aload 0 (i_getf 6 7 (i_int 5 (i_iload 1 (i_ii (fun x y => x * y) (i_iload 2 (i_ii (fun x y => x + y) (i_iald 0 (i_call k d 254 1 1 (i_iast 0 (fun x => x) (i_iinc 3 1 (k d 253))))))))))))))))))))))))))
/-- SlabImageModel.fill from 0 -/
def b_254 : am_B := fun k d => (i_iload 0 (i_int 1 (i_cmpne (i_iload 0 (i_int 2 (i_cmpne (i_iload 0 (i_int 3 (i_cmpne (i_int (-2147483647) (k d 255)) (i_int (-32767) (k d 255))))) (i_int 0 (k d 255))))) (i_int (-127) (k d 255)))))
/-- SlabImageModel.fill from 32 -/
def b_255 : am_B := fun k d => i_iret
/-- SlabImageModel.attribute from 0 -/
def b_256 : am_B := fun k d => (i_aload 0 (i_getf 6 1 (i_ifeq (i_iload 1 (i_int (-1) (i_cmpeq (k d 257) (i_aload 0 (i_iload 1 (i_recv 6 1 (i_call k d 261 2 2 (i_ifne (k d 257) (i_int (-3) i_iret))))))))) (i_int (-1) i_iret))))
/-- SlabImageModel.attribute from 25 -/
def b_257 : am_B := fun k d => (i_iload 2 (i_call k d 225 1 1 (i_ifeq (k d 258) (i_iload 3 (i_int 1 (i_cmplt (k d 258) (i_iload 3 (i_int 4 (i_cmple (i_iload 3 (i_iload 4 (i_call k d 264 2 2 (i_ifeq (k d 259) (i_iload 3 (i_iload 5 (i_call k d 264 2 2 (i_ifne (i_aload 0 (i_iload 1 (i_int 1 (i_ii (fun x y => x + y) (i_iload 2 (i_recv 6 2 (i_call k d 270 3 5 (i_istore 6 (i_int 6 (i_aload 0 (i_getf 6 0 (i_ii (fun x y => x * y) (i_iload 1 (i_ii (fun x y => x + y) (i_int 1 (i_ii (fun x y => x + y) (i_istore 7 (i_iload 6 (i_int 3 (i_iload 7 (i_ii (fun x y => x * y) (i_aload 0 (i_getf 6 10 (i_iload 7 (i_iald 0 (i_ii (fun x y => x + y) (i_cmpne (k d 260) (i_aload 0 (i_getf 6 10 (i_iload 7 (i_iald 0 (i_int 3 (i_cmpne (i_aload 0 (i_getf 6 10 (i_iload 7 (i_dup2 (i_iald 0 (i_int 1 (i_ii (fun x y => x + y) (i_iast 0 (fun x => x) (k d 260))))))))) (i_int (-5) i_iret)))))))))))))))))))))))))))))))))) (k d 259))))))))) (k d 258))))))))))
/-- SlabImageModel.attribute from 42 -/
def b_258 : am_B := fun k d => (i_int (-2) i_iret)
/-- SlabImageModel.attribute from 63 -/
def b_259 : am_B := fun k d => (i_int (-6) i_iret)
/-- SlabImageModel.attribute from 131 -/
def b_260 : am_B := fun k d => (i_aload 0 (i_getf 6 11 (i_iload 6 (i_iload 2 (i_iast 0 (fun x => x) (i_aload 0 (i_getf 6 12 (i_iload 6 (i_iload 3 (i_iast 0 (fun x => x) (i_aload 0 (i_getf 6 13 (i_iload 6 (i_iload 4 (i_iast 0 (fun x => x) (i_aload 0 (i_getf 6 14 (i_iload 6 (i_iload 5 (i_iast 0 (fun x => x) (i_int 0 i_iret)))))))))))))))))))))
/-- SlabImageModel.isVariable from 0 -/
def b_261 : am_B := fun k d => (i_iload 1 (i_iflt (k d 262) (i_iload 1 (i_aload 0 (i_getf 6 5 (i_aload 0 (i_getf 6 0 (i_iald 0 (i_cmpge (k d 262) (i_int 1 (k d 263)))))))))))
/-- SlabImageModel.isVariable from 21 -/
def b_262 : am_B := fun k d => (i_int 0 (k d 263))
/-- SlabImageModel.isVariable from 22 -/
def b_263 : am_B := fun k d => i_zret
/-- SlabImageModel.fits from 0 -/
def b_264 : am_B := fun k d => (i_iload 0 (i_int 4 (i_cmpeq (k d 267) (i_iload 0 (i_int 3 (i_cmpne (k d 265) (i_iload 1 (i_int (-32768) (i_cmplt (k d 265) (i_iload 1 (i_int 32767 (i_cmple (k d 267) (k d 265)))))))))))))
/-- SlabImageModel.fits from 24 -/
def b_265 : am_B := fun k d => (i_iload 0 (i_int 2 (i_cmpne (k d 266) (i_iload 1 (i_iflt (k d 266) (i_iload 1 (i_int 255 (i_cmple (k d 267) (k d 266)))))))))
/-- SlabImageModel.fits from 40 -/
def b_266 : am_B := fun k d => (i_iload 0 (i_int 1 (i_cmpne (k d 268) (i_iload 1 (i_int (-128) (i_cmplt (k d 268) (i_iload 1 (i_int 127 (i_cmpgt (k d 268) (k d 267))))))))))
/-- SlabImageModel.fits from 57 -/
def b_267 : am_B := fun k d => (i_int 1 (k d 269))
/-- SlabImageModel.fits from 61 -/
def b_268 : am_B := fun k d => (i_int 0 (k d 269))
/-- SlabImageModel.fits from 62 -/
def b_269 : am_B := fun k d => i_zret
/-- SlabImageModel.find from 0 -/
def b_270 : am_B := fun k d => (i_int 18 (i_aload 0 (i_getf 6 0 (i_ii (fun x y => x * y) (i_int 3 (i_iload 1 (i_ii (fun x y => x * y) (i_ii (fun x y => x + y) (i_istore 3 (i_iload 3 (i_aload 0 (i_getf 6 10 (i_int 6 (i_aload 0 (i_getf 6 0 (i_ii (fun x y => x * y) (i_iload 1 (i_ii (fun x y => x + y) (i_iald 0 (i_ii (fun x y => x + y) (i_istore 4 (k d 271))))))))))))))))))))))
/-- SlabImageModel.find from 30 -/
def b_271 : am_B := fun k d => (i_iload 3 (i_iload 4 (i_cmpge (k d 272) (i_aload 0 (i_getf 6 11 (i_iload 3 (i_iald 0 (i_iload 2 (i_cmpeq (k d 272) (i_iinc 3 1 (k d 271)))))))))))
/-- SlabImageModel.find from 52 -/
def b_272 : am_B := fun k d => (i_iload 3 i_iret)
/-- SlabImageModel.drop from 0 -/
def b_273 : am_B := fun k d => (i_aload 0 (i_getf 6 1 (i_ifeq (i_iload 1 (i_int (-1) (i_cmpeq (k d 274) (i_aload 0 (i_iload 1 (i_recv 6 1 (i_call k d 261 2 2 (i_ifne (k d 274) (i_int (-3) i_iret))))))))) (i_int (-1) i_iret))))
/-- SlabImageModel.drop from 25 -/
def b_274 : am_B := fun k d => (i_aload 0 (i_iload 1 (i_int 1 (i_ii (fun x y => x + y) (i_iload 2 (i_recv 6 2 (i_call k d 270 3 5 (i_istore 3 (i_int 6 (i_aload 0 (i_getf 6 0 (i_ii (fun x y => x * y) (i_iload 1 (i_ii (fun x y => x + y) (i_int 1 (i_ii (fun x y => x + y) (i_istore 4 (i_int 3 (i_iload 4 (i_ii (fun x y => x * y) (i_aload 0 (i_getf 6 10 (i_iload 4 (i_iald 0 (i_ii (fun x y => x + y) (i_int 1 (i_ii (fun x y => x - y) (i_istore 5 (i_iload 3 (i_iload 5 (i_cmple (i_iload 3 (i_istore 6 (k d 275))) (i_int (-3) i_iret))))))))))))))))))))))))))))))))
/-- SlabImageModel.drop from 75 -/
def b_275 : am_B := fun k d => (i_iload 6 (i_iload 5 (i_cmpge (i_aload 0 (i_getf 6 10 (i_iload 4 (i_dup2 (i_iald 0 (i_int 1 (i_ii (fun x y => x - y) (i_iast 0 (fun x => x) (i_int 0 i_iret))))))))) (i_aload 0 (i_getf 6 11 (i_iload 6 (i_aload 0 (i_getf 6 11 (i_iload 6 (i_int 1 (i_ii (fun x y => x + y) (i_iald 0 (i_iast 0 (fun x => x) (i_aload 0 (i_getf 6 12 (i_iload 6 (i_aload 0 (i_getf 6 12 (i_iload 6 (i_int 1 (i_ii (fun x y => x + y) (i_iald 0 (i_iast 0 (fun x => x) (i_aload 0 (i_getf 6 13 (i_iload 6 (i_aload 0 (i_getf 6 13 (i_iload 6 (i_int 1 (i_ii (fun x y => x + y) (i_iald 0 (i_iast 0 (fun x => x) (i_aload 0 (i_getf 6 14 (i_iload 6 (i_aload 0 (i_getf 6 14 (i_iload 6 (i_int 1 (i_ii (fun x y => x + y) (i_iald 0 (i_iast 0 (fun x => x) (i_iinc 6 1 (k d 275)))))))))))))))))))))))))))))))))))))))))))))
/-- SlabImageModel.rename from 0 -/
def b_276 : am_B := fun k d => (i_aload 0 (i_getf 6 1 (i_ifeq (i_iload 1 (i_ifeq (i_aload 0 (i_iload 2 (i_recv 6 1 (i_call k d 244 2 2 (i_ifne (k d 278) (k d 277)))))) (i_aload 0 (i_iload 2 (i_recv 6 1 (i_call k d 261 2 2 (i_ifeq (k d 277) (k d 278)))))))) (i_int (-1) i_iret))))
/-- SlabImageModel.rename from 32 -/
def b_277 : am_B := fun k d => (i_int (-3) i_iret)
/-- SlabImageModel.rename from 35 -/
def b_278 : am_B := fun k d => (i_iload 3 (i_call k d 225 1 1 (i_ifne (i_iload 1 (i_ifeq (i_aload 0 (i_aload 0 (i_getf 6 0 (i_iload 3 (i_iload 2 (i_recv 6 3 (i_call k d 228 4 6 (i_ifeq (k d 280) (k d 279))))))))) (i_aload 0 (i_aload 0 (i_getf 6 0 (i_iload 3 (i_iload 2 (i_recv 6 3 (i_call k d 247 4 6 (i_ifeq (k d 280) (k d 279))))))))))) (i_int (-2) i_iret))))
/-- SlabImageModel.rename from 78 -/
def b_279 : am_B := fun k d => (i_int (-4) i_iret)
/-- SlabImageModel.rename from 81 -/
def b_280 : am_B := fun k d => (i_iload 1 (i_ifeq (i_aload 0 (i_getf 6 3 (i_int 4 (i_aload 0 (i_getf 6 0 (i_ii (fun x y => x * y) (i_iload 2 (i_ii (fun x y => x + y) (i_iload 3 (i_iast 0 (fun x => x) (k d 281))))))))))) (i_aload 0 (i_getf 6 6 (i_int 5 (i_aload 0 (i_getf 6 0 (i_ii (fun x y => x * y) (i_iload 2 (i_ii (fun x y => x + y) (i_iload 3 (i_iast 0 (fun x => x) (k d 281)))))))))))))
/-- SlabImageModel.rename from 116 -/
def b_281 : am_B := fun k d => (i_int 0 i_iret)
/-- SlabImageModel.seal from 0 -/
def b_282 : am_B := fun k d => (i_aload 0 (i_getf 6 1 (i_ifeq (i_aload 0 (i_aload 0 (i_getf 6 0 (i_aload 0 (i_getf 6 15 (i_aload 0 (i_getf 6 0 (i_iald 0 (i_i2l (i_recv 6 2 (i_call k d 283 3 4 (i_lstore 1 (i_lload 1 (i_long 800 (i_lcmp (i_ifle (i_aload 0 (i_int 1 (i_putZ 6 1 (i_lload 1 (i_l2i i_iret))))) (i_int (-8) i_iret))))))))))))))))) (i_int (-1) i_iret))))
/-- SlabImageModel.total from 0 -/
def b_283 : am_B := fun k d => (i_aload 0 (i_iload 1 (i_aload 0 (i_getf 6 5 (i_iload 1 (i_iald 0 (i_recv 6 2 (i_call k d 284 3 7 (i_i2l (i_lload 2 (i_aload 0 (i_iload 1 (i_recv 6 1 (i_call k d 306 2 6 (i_i2l (i_ll (fun x y => x * y) (i_ll (fun x y => x + y) i_lret)))))))))))))))))
/-- SlabImageModel.beginOf from 0 -/
def b_284 : am_B := fun k d => (i_iload 2 (i_aload 0 (i_getf 6 5 (i_iload 1 (i_iald 0 (i_cmpeq (k d 285) (i_aload 0 (i_iload 1 (i_iload 2 (i_recv 6 2 (i_call k d 292 3 3 (i_ifeq (i_int 0 (k d 286)) (k d 285)))))))))))))
/-- SlabImageModel.beginOf from 19 -/
def b_285 : am_B := fun k d => (i_int 1 (k d 286))
/-- SlabImageModel.beginOf from 24 -/
def b_286 : am_B := fun k d => (i_istore 3 (i_aload 0 (i_iload 1 (i_recv 6 1 (i_call k d 296 2 4 (i_istore 4 (i_int 0 (i_istore 5 (k d 287)))))))))
/-- SlabImageModel.beginOf from 35 -/
def b_287 : am_B := fun k d => (i_iload 5 (i_aload 0 (i_getf 6 5 (i_iload 1 (i_iald 0 (i_cmpge (i_iload 4 i_iret) (i_aload 0 (i_iload 1 (i_iload 5 (i_recv 6 2 (i_call k d 292 3 3 (i_ifeq (i_iload 3 (i_ifne (k d 289) (i_iload 5 (i_iload 2 (i_cmpge (i_int 0 (k d 290)) (k d 289)))))) (i_iload 3 (i_ifeq (k d 288) (i_iload 2 (i_aload 0 (i_getf 6 5 (i_iload 1 (i_iald 0 (i_cmpge (k d 288) (i_iload 5 (i_iload 2 (i_cmpge (k d 288) (i_int 1 (k d 290)))))))))))))))))))))))))
/-- SlabImageModel.beginOf from 80 -/
def b_288 : am_B := fun k d => (i_int 0 (k d 290))
/-- SlabImageModel.beginOf from 94 -/
def b_289 : am_B := fun k d => (i_int 1 (k d 290))
/-- SlabImageModel.beginOf from 99 -/
def b_290 : am_B := fun k d => (i_istore 6 (i_iload 6 (i_ifeq (i_iload 4 (k d 291)) (i_iload 4 (i_aload 0 (i_iload 1 (i_iload 5 (i_recv 6 2 (i_call k d 301 3 3 (i_ii (fun x y => x + y) (k d 291)))))))))))
/-- SlabImageModel.beginOf from 121 -/
def b_291 : am_B := fun k d => (i_istore 4 (i_iinc 5 1 (k d 287)))
/-- SlabImageModel.isRecord from 0 -/
def b_292 : am_B := fun k d => (i_aload 0 (i_iload 1 (i_iload 2 (i_int 0 (i_recv 6 3 (i_call k d 294 4 4 (i_ifne (i_int 0 (k d 293)) (i_int 1 (k d 293)))))))))
/-- SlabImageModel.isRecord from 15 -/
def b_293 : am_B := fun k d => i_zret
/-- SlabImageModel.lengthOf from 0 -/
def b_294 : am_B := fun k d => (i_iload 3 (i_aload 0 (i_getf 6 8 (i_int 5 (i_iload 1 (i_ii (fun x y => x * y) (i_iload 2 (i_ii (fun x y => x + y) (i_iald 0 (i_cmpge (i_int 1 (k d 295)) (i_aload 0 (i_getf 6 4 (i_int 4 (i_iload 1 (i_ii (fun x y => x * y) (i_aload 0 (i_getf 6 9 (i_int 10 (i_iload 1 (i_ii (fun x y => x * y) (i_int 2 (i_iload 2 (i_ii (fun x y => x * y) (i_ii (fun x y => x + y) (i_iload 3 (i_ii (fun x y => x + y) (i_iald 0 (i_ii (fun x y => x + y) (i_iald 0 (k d 295))))))))))))))))))))))))))))))
/-- SlabImageModel.lengthOf from 42 -/
def b_295 : am_B := fun k d => i_iret
/-- SlabImageModel.headerSize from 0 -/
def b_296 : am_B := fun k d => (i_int 16 (i_int 12 (i_aload 0 (i_getf 6 2 (i_iload 1 (i_iald 0 (i_ii (fun x y => x * y) (i_ii (fun x y => x + y) (i_aload 0 (i_iload 1 (i_int 0 (i_recv 6 2 (i_call k d 298 3 5 (i_ii (fun x y => x + y) (i_int 8 (i_ii (fun x y => x + y) (i_istore 2 (i_int 0 (i_istore 3 (k d 297))))))))))))))))))))
/-- SlabImageModel.headerSize from 25 -/
def b_297 : am_B := fun k d => (i_iload 3 (i_aload 0 (i_getf 6 5 (i_iload 1 (i_iald 0 (i_cmpge (i_iload 2 i_iret) (i_iload 2 (i_int 24 (i_ii (fun x y => x + y) (i_int 4 (i_aload 0 (i_getf 6 8 (i_int 5 (i_iload 1 (i_ii (fun x y => x * y) (i_iload 3 (i_ii (fun x y => x + y) (i_iald 0 (i_ii (fun x y => x * y) (i_ii (fun x y => x + y) (i_aload 0 (i_iload 1 (i_iload 3 (i_int 1 (i_ii (fun x y => x + y) (i_recv 6 2 (i_call k d 298 3 5 (i_ii (fun x y => x + y) (i_istore 2 (i_iinc 3 1 (k d 297)))))))))))))))))))))))))))))))
/-- SlabImageModel.listSize from 0 -/
def b_298 : am_B := fun k d => (i_int 8 (i_istore 3 (i_int 0 (i_istore 4 (k d 299)))))
/-- SlabImageModel.listSize from 6 -/
def b_299 : am_B := fun k d => (i_iload 4 (i_aload 0 (i_getf 6 10 (i_int 6 (i_iload 1 (i_ii (fun x y => x * y) (i_iload 2 (i_ii (fun x y => x + y) (i_iald 0 (i_cmpge (i_iload 3 i_iret) (i_iload 3 (i_int 16 (i_ii (fun x y => x + y) (i_aload 0 (i_getf 6 12 (i_int 18 (i_iload 1 (i_ii (fun x y => x * y) (i_int 3 (i_iload 2 (i_ii (fun x y => x * y) (i_ii (fun x y => x + y) (i_iload 4 (i_ii (fun x y => x + y) (i_iald 0 (i_int 4 (i_cmpne (i_int 4 (k d 300)) (i_int 8 (k d 300)))))))))))))))))))))))))))))
/-- SlabImageModel.listSize from 52 -/
def b_300 : am_B := fun k d => (i_ii (fun x y => x + y) (i_istore 3 (i_iinc 4 1 (k d 299))))
/-- SlabImageModel.padded from 0 -/
def b_301 : am_B := fun k d => (i_aload 0 (i_iload 1 (i_iload 2 (i_recv 6 2 (i_call k d 302 3 4 (i_aload 0 (i_getf 6 7 (i_int 5 (i_iload 1 (i_ii (fun x y => x * y) (i_iload 2 (i_ii (fun x y => x + y) (i_iald 0 (i_call k d 304 1 1 (i_ii (fun x y => x * y) (i_int 3 (i_ii (fun x y => x + y) (i_int 4 (i_idz (fun x y => x / y) (i_int 4 (i_ii (fun x y => x * y) i_iret)))))))))))))))))))))
/-- SlabImageModel.cells from 0 -/
def b_302 : am_B := fun k d => (i_aload 0 (i_iload 1 (i_iload 2 (i_int 0 (i_recv 6 3 (i_call k d 294 4 4 (i_istore 3 (i_iload 3 (i_ifne (i_iload 3 (k d 303)) (i_int 1 (k d 303)))))))))))
/-- SlabImageModel.cells from 17 -/
def b_303 : am_B := fun k d => (i_aload 0 (i_iload 1 (i_iload 2 (i_int 1 (i_recv 6 3 (i_call k d 294 4 4 (i_ii (fun x y => x * y) i_iret)))))))
/-- SlabImageModel.bytes from 0 -/
def b_304 : am_B := fun k d => (i_iload 0 (i_int 2 (i_cmpgt (i_iload 0 (i_int 3 (i_cmpne (i_int 4 (k d 305)) (i_int 2 (k d 305))))) (i_int 1 (k d 305)))))
/-- SlabImageModel.bytes from 19 -/
def b_305 : am_B := fun k d => i_iret
/-- SlabImageModel.recordSize from 0 -/
def b_306 : am_B := fun k d => (i_int 0 (i_istore 2 (i_aload 0 (i_iload 1 (i_recv 6 1 (i_call k d 311 2 4 (i_int 1 (i_cmpne (i_int 0 (k d 307)) (i_int 1 (k d 307))))))))))
/-- SlabImageModel.recordSize from 16 -/
def b_307 : am_B := fun k d => (i_istore 3 (i_int 0 (i_istore 4 (k d 308))))
/-- SlabImageModel.recordSize from 20 -/
def b_308 : am_B := fun k d => (i_iload 4 (i_aload 0 (i_getf 6 5 (i_iload 1 (i_iald 0 (i_cmpge (i_iload 2 i_iret) (i_iload 3 (i_ifeq (i_aload 0 (i_iload 1 (i_iload 4 (i_recv 6 2 (i_call k d 301 3 3 (k d 309)))))) (i_aload 0 (i_iload 1 (i_iload 4 (i_recv 6 2 (i_call k d 302 3 4 (i_aload 0 (i_getf 6 7 (i_int 5 (i_iload 1 (i_ii (fun x y => x * y) (i_iload 4 (i_ii (fun x y => x + y) (i_iald 0 (i_call k d 304 1 1 (i_ii (fun x y => x * y) (k d 309))))))))))))))))))))))))
/-- SlabImageModel.recordSize from 67 -/
def b_309 : am_B := fun k d => (i_istore 5 (i_aload 0 (i_iload 1 (i_iload 4 (i_recv 6 2 (i_call k d 292 3 3 (i_ifeq (i_iload 2 (k d 310)) (i_iload 2 (i_iload 5 (i_ii (fun x y => x + y) (k d 310)))))))))))
/-- SlabImageModel.recordSize from 87 -/
def b_310 : am_B := fun k d => (i_istore 2 (i_iinc 4 1 (k d 308)))
/-- SlabImageModel.recordVariables from 0 -/
def b_311 : am_B := fun k d => (i_int 0 (i_istore 2 (i_int 0 (i_istore 3 (k d 312)))))
/-- SlabImageModel.recordVariables from 4 -/
def b_312 : am_B := fun k d => (i_iload 3 (i_aload 0 (i_getf 6 5 (i_iload 1 (i_iald 0 (i_cmpge (i_iload 2 i_iret) (i_aload 0 (i_iload 1 (i_iload 3 (i_recv 6 2 (i_call k d 292 3 3 (i_ifeq (i_iload 2 (k d 313)) (i_iload 2 (i_int 1 (i_ii (fun x y => x + y) (k d 313))))))))))))))))
/-- SlabImageModel.recordVariables from 30 -/
def b_313 : am_B := fun k d => (i_istore 2 (i_iinc 3 1 (k d 312)))
/-- SlabImageModel.redefine from 0 -/
def b_314 : am_B := fun k d => (i_aload 0 (i_getf 6 1 (i_ifne (i_aload 0 (i_int 0 (i_putZ 6 1 (i_int 0 i_iret)))) (i_int (-1) i_iret))))
/-- SlabImageModel.put from 0 -/
def b_315 : am_B := fun k d => (i_aload 0 (i_getf 6 1 (i_ifne (i_aload 0 (i_iload 1 (i_recv 6 1 (i_call k d 261 2 2 (i_ifne (i_aload 0 (i_iload 1 (i_iload 2 (i_i2l (i_iload 3 (i_i2l (i_int 1 (i_recv 6 4 (i_call k d 316 5 7 (i_ifne (i_aload 0 (i_getf 6 7 (i_int 5 (i_aload 0 (i_getf 6 0 (i_ii (fun x y => x * y) (i_iload 1 (i_ii (fun x y => x + y) (i_iald 0 (i_iload 4 (i_call k d 264 2 2 (i_ifne (i_aload 0 (i_iload 1 (i_iload 2 (i_i2l (i_recv 6 2 (i_call k d 320 3 4 (i_ifne (i_aload 0 (i_getf 6 16 (i_aload 0 (i_iload 1 (i_iload 2 (i_i2l (i_iload 3 (i_i2l (i_recv 6 3 (i_call k d 322 4 6 (i_iload 4 (i_iast 0 (fun x => x) (i_int 0 i_iret))))))))))))) (i_int (-8) i_iret)))))))) (i_int (-6) i_iret))))))))))))) (i_int (-7) i_iret))))))))))) (i_int (-3) i_iret)))))) (i_int (-1) i_iret))))
/-- SlabImageModel.there from 0 -/
def b_316 : am_B := fun k d => (i_lload 2 (i_long 0 (i_lcmp (i_iflt (k d 317) (i_lload 4 (i_long 0 (i_lcmp (i_iflt (k d 317) (i_lload 4 (i_aload 0 (i_aload 0 (i_getf 6 0 (i_iload 1 (i_int 1 (i_recv 6 3 (i_call k d 294 4 4 (i_i2l (i_lcmp (i_iflt (i_aload 0 (i_aload 0 (i_getf 6 0 (i_iload 1 (i_recv 6 2 (i_call k d 292 3 3 (i_ifeq (i_lload 2 (i_aload 0 (i_aload 0 (i_getf 6 0 (i_iload 1 (i_int 0 (i_recv 6 3 (i_call k d 294 4 4 (i_i2l (i_lcmp (i_ifge (i_int 0 (k d 319)) (i_int 1 (k d 319))))))))))))) (i_iload 6 (i_ifne (k d 318) (i_lload 2 (i_aload 0 (i_getf 6 15 (i_aload 0 (i_getf 6 0 (i_iald 0 (i_i2l (i_lcmp (i_ifge (i_int 0 (k d 319)) (k d 318))))))))))))))))))) (k d 317))))))))))))))))))))
/-- SlabImageModel.there from 30 -/
def b_317 : am_B := fun k d => (i_int 0 i_zret)
/-- SlabImageModel.there from 64 -/
def b_318 : am_B := fun k d => (i_int 1 (k d 319))
/-- SlabImageModel.there from 93 -/
def b_319 : am_B := fun k d => i_zret
/-- SlabImageModel.grow from 0 -/
def b_320 : am_B := fun k d => (i_aload 0 (i_aload 0 (i_getf 6 0 (i_iload 1 (i_recv 6 2 (i_call k d 292 3 3 (i_ifeq (k d 321) (i_lload 2 (i_aload 0 (i_getf 6 15 (i_aload 0 (i_getf 6 0 (i_iald 0 (i_i2l (i_lcmp (i_ifge (i_aload 0 (i_aload 0 (i_getf 6 0 (i_lload 2 (i_long 1 (i_ll (fun x y => x + y) (i_recv 6 2 (i_call k d 283 3 4 (i_long 800 (i_lcmp (i_ifle (i_aload 0 (i_getf 6 15 (i_aload 0 (i_getf 6 0 (i_lload 2 (i_l2i (i_int 1 (i_ii (fun x y => x + y) (i_iast 0 (fun x => x) (i_int 1 i_zret)))))))))) (i_int 0 i_zret)))))))))))) (k d 321)))))))))))))))))
/-- SlabImageModel.grow from 27 -/
def b_321 : am_B := fun k d => (i_int 1 i_zret)
/-- SlabImageModel.cellAt from 0 -/
def b_322 : am_B := fun k d => (i_int 800 (i_int 5 (i_aload 0 (i_getf 6 0 (i_ii (fun x y => x * y) (i_iload 1 (i_ii (fun x y => x + y) (i_ii (fun x y => x * y) (i_lload 2 (i_l2i (i_aload 0 (i_aload 0 (i_getf 6 0 (i_iload 1 (i_int 1 (i_recv 6 3 (i_call k d 294 4 4 (i_ii (fun x y => x * y) (i_ii (fun x y => x + y) (i_lload 4 (i_l2i (i_ii (fun x y => x + y) i_iret))))))))))))))))))))))
/-- SlabImageModel.get from 0 -/
def b_323 : am_B := fun k d => (i_aload 0 (i_getf 6 1 (i_ifeq (k d 324) (i_aload 0 (i_iload 1 (i_recv 6 1 (i_call k d 261 2 2 (i_ifeq (k d 324) (i_aload 0 (i_iload 1 (i_iload 2 (i_i2l (i_iload 3 (i_i2l (i_int 0 (i_recv 6 4 (i_call k d 316 5 7 (i_ifne (i_aload 0 (i_getf 6 16 (i_aload 0 (i_iload 1 (i_iload 2 (i_i2l (i_iload 3 (i_i2l (i_recv 6 3 (i_call k d 322 4 6 (i_iald 0 (i_i2l i_lret)))))))))))) (k d 324)))))))))))))))))))
/-- SlabImageModel.get from 28 -/
def b_324 : am_B := fun k d => (i_long 1099511627776 i_lret)
/-- SlabImageModel.select from 0 -/
def b_325 : am_B := fun k d => (i_iload 1 (i_ifeq (k d 326) (i_iload 1 (i_int 1 (i_cmpeq (k d 326) (i_int (-3) i_iret))))))
/-- SlabImageModel.select from 12 -/
def b_326 : am_B := fun k d => (i_iload 2 (i_iflt (k d 327) (i_iload 3 (i_int 1 (i_cmplt (k d 327) (i_iload 3 (i_int 8 (i_cmpgt (k d 327) (i_iload 4 (i_int 1 (i_cmplt (k d 327) (i_iload 4 (i_int 8 (i_cmple (i_aload 0 (i_getf 6 17 (i_iload 1 (i_iload 2 (i_iast 0 (fun x => x) (i_aload 0 (i_getf 6 18 (i_iload 1 (i_iload 3 (i_iast 0 (fun x => x) (i_aload 0 (i_getf 6 19 (i_iload 1 (i_iload 4 (i_iast 0 (fun x => x) (i_int 0 i_iret)))))))))))))))) (k d 327)))))))))))))))
/-- SlabImageModel.select from 40 -/
def b_327 : am_B := fun k d => (i_int (-2) i_iret)
/-- SlabImageModel.putSlab from 0 -/
def b_328 : am_B := fun k d => (i_aload 0 (i_getf 6 1 (i_ifne (i_aload 0 (i_iload 1 (i_recv 6 1 (i_call k d 261 2 2 (i_ifne (i_aload 0 (i_iload 1 (i_int 1 (i_recv 6 2 (i_call k d 331 3 5 (i_ifne (i_aload 0 (i_iload 1 (i_int 0 (i_recv 6 2 (i_call k d 334 3 3 (i_aload 0 (i_iload 1 (i_int 1 (i_recv 6 2 (i_call k d 334 3 3 (i_ii (fun x y => x * y) (i_istore 4 (i_int 0 (i_istore 5 (k d 329))))))))))))))) (i_int (-7) i_iret))))))) (i_int (-3) i_iret)))))) (i_int (-1) i_iret))))
/-- SlabImageModel.putSlab from 50 -/
def b_329 : am_B := fun k d => (i_iload 5 (i_iload 4 (i_cmpge (i_aload 0 (i_iload 1 (i_aload 0 (i_iload 1 (i_int 0 (i_aload 0 (i_iload 1 (i_int 0 (i_recv 6 2 (i_call k d 334 3 3 (i_int 1 (i_ii (fun x y => x - y) (i_recv 6 3 (i_call k d 336 4 4 (i_recv 6 2 (i_call k d 320 3 4 (i_ifne (i_int 0 (i_istore 5 (k d 330))) (i_int (-8) i_iret)))))))))))))))))) (i_aload 0 (i_getf 6 7 (i_int 5 (i_aload 0 (i_getf 6 0 (i_ii (fun x y => x * y) (i_iload 1 (i_ii (fun x y => x + y) (i_iald 0 (i_iload 2 (i_iload 5 (i_iload 3 (i_ii (fun x y => x * y) (i_ii (fun x y => x + y) (i_call k d 264 2 2 (i_ifne (i_iinc 5 1 (k d 329)) (i_int (-6) i_iret))))))))))))))))))))
/-- SlabImageModel.putSlab from 119 -/
def b_330 : am_B := fun k d => (i_iload 5 (i_iload 4 (i_cmpge (i_iload 4 i_iret) (i_aload 0 (i_getf 6 16 (i_aload 0 (i_iload 1 (i_aload 0 (i_iload 1 (i_int 0 (i_iload 5 (i_aload 0 (i_iload 1 (i_int 1 (i_recv 6 2 (i_call k d 334 3 3 (i_idz (fun x y => x / y) (i_recv 6 3 (i_call k d 336 4 4 (i_aload 0 (i_iload 1 (i_int 1 (i_iload 5 (i_aload 0 (i_iload 1 (i_int 1 (i_recv 6 2 (i_call k d 334 3 3 (i_idz (fun x y => x - x / y * y) (i_recv 6 3 (i_call k d 336 4 4 (i_recv 6 3 (i_call k d 322 4 6 (i_iload 2 (i_iload 5 (i_iload 3 (i_ii (fun x y => x * y) (i_ii (fun x y => x + y) (i_iast 0 (fun x => x) (i_iinc 5 1 (k d 330)))))))))))))))))))))))))))))))))))))))))
/-- SlabImageModel.slabThere from 0 -/
def b_331 : am_B := fun k d => (i_int 0 (i_istore 3 (k d 332)))
/-- SlabImageModel.slabThere from 2 -/
def b_332 : am_B := fun k d => (i_iload 3 (i_aload 0 (i_iload 1 (i_int 0 (i_recv 6 2 (i_call k d 334 3 3 (i_cmpge (i_int 1 i_zret) (i_int 0 (i_istore 4 (k d 333))))))))))
/-- SlabImageModel.slabThere from 15 -/
def b_333 : am_B := fun k d => (i_iload 4 (i_aload 0 (i_iload 1 (i_int 1 (i_recv 6 2 (i_call k d 334 3 3 (i_cmpge (i_iinc 3 1 (k d 332)) (i_aload 0 (i_iload 1 (i_aload 0 (i_iload 1 (i_int 0 (i_iload 3 (i_recv 6 3 (i_call k d 336 4 4 (i_aload 0 (i_iload 1 (i_int 1 (i_iload 4 (i_recv 6 3 (i_call k d 336 4 4 (i_iload 2 (i_recv 6 4 (i_call k d 316 5 7 (i_ifne (i_iinc 4 1 (k d 333)) (i_int 0 i_zret))))))))))))))))))))))))))
/-- SlabImageModel.many from 0 -/
def b_334 : am_B := fun k d => (i_iload 2 (i_aload 0 (i_getf 6 8 (i_int 5 (i_aload 0 (i_getf 6 0 (i_ii (fun x y => x * y) (i_iload 1 (i_ii (fun x y => x + y) (i_iald 0 (i_cmpge (i_int 1 (k d 335)) (i_aload 0 (i_getf 6 18 (i_iload 2 (i_iald 0 (k d 335))))))))))))))))
/-- SlabImageModel.many from 27 -/
def b_335 : am_B := fun k d => i_iret
/-- SlabImageModel.chosen from 0 -/
def b_336 : am_B := fun k d => (i_iload 2 (i_aload 0 (i_getf 6 8 (i_int 5 (i_aload 0 (i_getf 6 0 (i_ii (fun x y => x * y) (i_iload 1 (i_ii (fun x y => x + y) (i_iald 0 (i_cmpge (i_long 0 (k d 337)) (i_aload 0 (i_getf 6 17 (i_iload 2 (i_iald 0 (i_i2l (i_iload 3 (i_i2l (i_aload 0 (i_getf 6 19 (i_iload 2 (i_iald 0 (i_i2l (i_ll (fun x y => x * y) (i_ll (fun x y => x + y) (k d 337))))))))))))))))))))))))))
/-- SlabImageModel.chosen from 39 -/
def b_337 : am_B := fun k d => i_lret
/-- SlabImageModel.getSlab from 0 -/
def b_338 : am_B := fun k d => (i_aload 0 (i_getf 6 1 (i_ifeq (k d 339) (i_aload 0 (i_iload 1 (i_recv 6 1 (i_call k d 261 2 2 (i_ifeq (k d 339) (i_aload 0 (i_iload 1 (i_int 0 (i_recv 6 2 (i_call k d 331 3 5 (i_ifeq (k d 339) (i_iload 2 (i_iflt (k d 339) (i_iload 2 (i_aload 0 (i_iload 1 (i_int 0 (i_recv 6 2 (i_call k d 334 3 3 (i_aload 0 (i_iload 1 (i_int 1 (i_recv 6 2 (i_call k d 334 3 3 (i_ii (fun x y => x * y) (i_cmplt (i_aload 0 (i_getf 6 16 (i_aload 0 (i_iload 1 (i_aload 0 (i_iload 1 (i_int 0 (i_iload 2 (i_aload 0 (i_iload 1 (i_int 1 (i_recv 6 2 (i_call k d 334 3 3 (i_idz (fun x y => x / y) (i_recv 6 3 (i_call k d 336 4 4 (i_aload 0 (i_iload 1 (i_int 1 (i_iload 2 (i_aload 0 (i_iload 1 (i_int 1 (i_recv 6 2 (i_call k d 334 3 3 (i_idz (fun x y => x - x / y * y) (i_recv 6 3 (i_call k d 336 4 4 (i_recv 6 3 (i_call k d 322 4 6 (i_iald 0 (i_i2l i_lret)))))))))))))))))))))))))))))))) (k d 339))))))))))))))))))))))))))))))
/-- SlabImageModel.getSlab from 45 -/
def b_339 : am_B := fun k d => (i_long 1099511627776 i_lret)
/-- SlabImageModel.records from 0 -/
def b_340 : am_B := fun k d => (i_aload 0 (i_getf 6 15 (i_aload 0 (i_getf 6 0 (i_iald 0 i_iret)))))
/-- SlabImageModel.size from 0 -/
def b_341 : am_B := fun k d => (i_aload 0 (i_getf 6 1 (i_ifeq (i_int (-1) (k d 342)) (i_aload 0 (i_aload 0 (i_getf 6 0 (i_aload 0 (i_getf 6 15 (i_aload 0 (i_getf 6 0 (i_iald 0 (i_i2l (i_recv 6 2 (i_call k d 283 3 4 (i_l2i (k d 342))))))))))))))))
/-- SlabImageModel.size from 30 -/
def b_342 : am_B := fun k d => i_iret
/-- SlabImageModel.begin from 0 -/
def b_343 : am_B := fun k d => (i_aload 0 (i_getf 6 1 (i_ifne (i_aload 0 (i_iload 1 (i_recv 6 1 (i_call k d 261 2 2 (i_ifeq (i_int (-3) (k d 344)) (i_aload 0 (i_aload 0 (i_getf 6 0 (i_iload 1 (i_recv 6 2 (i_call k d 284 3 7 (k d 344)))))))))))) (i_int (-1) (k d 344)))))
/-- SlabImageModel.begin from 33 -/
def b_344 : am_B := fun k d => i_iret
/-- SlabImageModel.eight from 0 -/
def b_345 : am_B := fun k d => (i_aload 0 (i_getf 6 1 (i_ifeq (k d 346) (i_iload 1 (i_ifge (i_aload 0 (i_aload 0 (i_getf 6 0 (i_recv 6 1 (i_call k d 349 2 5 (i_long 0 (i_lstore 2 (i_int 0 (i_istore 4 (k d 347)))))))))) (k d 346))))))
/-- SlabImageModel.eight from 11 -/
def b_346 : am_B := fun k d => (i_long 0 i_lret)
/-- SlabImageModel.eight from 26 -/
def b_347 : am_B := fun k d => (i_iload 4 (i_int 8 (i_cmpge (i_lload 2 i_lret) (i_long 8 (i_iload 1 (i_i2l (i_ll (fun x y => x * y) (i_iload 4 (i_i2l (i_ll (fun x y => x + y) (i_lstore 5 (i_lload 2 (i_long 256 (i_ll (fun x y => x * y) (i_lload 5 (i_aload 0 (i_getf 6 21 (i_i2l (i_lcmp (i_ifge (i_int 0 (k d 348)) (i_aload 0 (i_getf 6 20 (i_lload 5 (i_l2i (i_iald 0 (k d 348))))))))))))))))))))))))))
/-- SlabImageModel.eight from 73 -/
def b_348 : am_B := fun k d => (i_i2l (i_ll (fun x y => x + y) (i_lstore 2 (i_iinc 4 1 (k d 347)))))
/-- SlabImageModel.writeImage from 0 -/
def b_349 : am_B := fun k d => (i_aload 0 (i_int 0 (i_putI 6 21 (i_aload 0 (i_int 1196573697 (i_int 4 (i_recv 6 2 (i_call k d 358 3 4 (i_aload 0 (i_aload 0 (i_getf 6 15 (i_iload 1 (i_iald 0 (i_int 4 (i_recv 6 2 (i_call k d 358 3 4 (i_aload 0 (i_int 10 (i_aload 0 (i_getf 6 2 (i_iload 1 (i_iald 0 (i_recv 6 2 (i_call k d 361 3 3 (i_int 4 (i_iload 1 (i_ii (fun x y => x * y) (i_istore 2 (k d 350)))))))))))))))))))))))))))))
/-- SlabImageModel.writeImage from 39 -/
def b_350 : am_B := fun k d => (i_iload 2 (i_int 4 (i_iload 1 (i_ii (fun x y => x * y) (i_aload 0 (i_getf 6 2 (i_iload 1 (i_iald 0 (i_ii (fun x y => x + y) (i_cmpge (i_aload 0 (i_iload 1 (i_int 0 (i_recv 6 2 (i_call k d 364 3 5 (i_aload 0 (i_int 11 (i_aload 0 (i_getf 6 5 (i_iload 1 (i_iald 0 (i_recv 6 2 (i_call k d 361 3 3 (i_int 0 (i_istore 2 (k d 351)))))))))))))))) (i_aload 0 (i_aload 0 (i_getf 6 3 (i_iload 2 (i_iald 0 (i_recv 6 1 (i_call k d 363 2 2 (i_aload 0 (i_aload 0 (i_getf 6 4 (i_iload 2 (i_iald 0 (i_int 4 (i_recv 6 2 (i_call k d 358 3 4 (i_iinc 2 1 (k d 350)))))))))))))))))))))))))))
/-- SlabImageModel.writeImage from 100 -/
def b_351 : am_B := fun k d => (i_iload 2 (i_aload 0 (i_getf 6 5 (i_iload 1 (i_iald 0 (i_cmpge (i_int 0 (i_istore 2 (k d 352))) (i_aload 0 (i_iload 1 (i_iload 2 (i_recv 6 2 (i_call k d 367 3 6 (i_iinc 2 1 (k d 351)))))))))))))
/-- SlabImageModel.writeImage from 124 -/
def b_352 : am_B := fun k d => (i_iload 2 (i_aload 0 (i_getf 6 5 (i_iload 1 (i_iald 0 (i_cmpge (i_aload 0 (i_iload 1 (i_recv 6 1 (i_call k d 311 2 4 (i_int 1 (i_cmple (i_int 0 (k d 354)) (i_int 1 (k d 354)))))))) (i_aload 0 (i_iload 1 (i_iload 2 (i_recv 6 2 (i_call k d 292 3 3 (i_ifne (k d 353) (i_aload 0 (i_iload 1 (i_iload 2 (i_int 0 (i_int 1 (i_recv 6 4 (i_call k d 369 5 9 (k d 353))))))))))))))))))))
/-- SlabImageModel.writeImage from 151 -/
def b_353 : am_B := fun k d => (i_iinc 2 1 (k d 352))
/-- SlabImageModel.writeImage from 171 -/
def b_354 : am_B := fun k d => (i_istore 2 (i_int 0 (i_istore 3 (k d 355))))
/-- SlabImageModel.writeImage from 174 -/
def b_355 : am_B := fun k d => (i_iload 3 (i_aload 0 (i_getf 6 15 (i_iload 1 (i_iald 0 (i_cmpge i_vret (i_int 0 (i_istore 4 (k d 356)))))))))
/-- SlabImageModel.writeImage from 187 -/
def b_356 : am_B := fun k d => (i_iload 4 (i_aload 0 (i_getf 6 5 (i_iload 1 (i_iald 0 (i_cmpge (i_iinc 3 1 (k d 355)) (i_aload 0 (i_iload 1 (i_iload 4 (i_recv 6 2 (i_call k d 292 3 3 (i_ifeq (k d 357) (i_aload 0 (i_iload 1 (i_iload 4 (i_iload 3 (i_iload 2 (i_recv 6 4 (i_call k d 369 5 9 (k d 357))))))))))))))))))))
/-- SlabImageModel.writeImage from 217 -/
def b_357 : am_B := fun k d => (i_iinc 4 1 (k d 356))
/-- SlabImageModel.writeValue from 0 -/
def b_358 : am_B := fun k d => (i_iload 2 (i_int 1 (i_ii (fun x y => x - y) (i_istore 3 (k d 359)))))
/-- SlabImageModel.writeValue from 4 -/
def b_359 : am_B := fun k d => (i_iload 3 (i_iflt i_vret (i_aload 0 (i_iload 1 (i_int 8 (i_iload 3 (i_ii (fun x y => x * y) (i_ii (fun x y => x >>> (y &&& 31)) (i_int 255 (i_ii (fun x y => x &&& y) (i_recv 6 1 (i_call k d 360 2 2 (i_iinc 3 (-1) (k d 359))))))))))))))
/-- SlabImageModel.write from 0 -/
def b_360 : am_B := fun k d => (i_aload 0 (i_getf 6 20 (i_aload 0 (i_getf 6 21 (i_iload 1 (i_iast 0 (fun x => x) (i_aload 0 (i_dup (i_getf 6 21 (i_int 1 (i_ii (fun x y => x + y) (i_putI 6 21 i_vret))))))))))))
/-- SlabImageModel.writeCount from 0 -/
def b_361 : am_B := fun k d => (i_aload 0 (i_iload 2 (i_ifne (i_iload 1 (k d 362)) (i_int 0 (k d 362)))))
/-- SlabImageModel.writeCount from 10 -/
def b_362 : am_B := fun k d => (i_int 4 (i_recv 6 2 (i_call k d 358 3 4 (i_aload 0 (i_iload 2 (i_int 4 (i_recv 6 2 (i_call k d 358 3 4 i_vret))))))))
/-- SlabImageModel.writeName from 0 -/
def b_363 : am_B := fun k d => (i_aload 0 (i_int 1 (i_int 4 (i_recv 6 2 (i_call k d 358 3 4 (i_aload 0 (i_iload 1 (i_recv 6 1 (i_call k d 360 2 2 (i_aload 0 (i_int 0 (i_int 3 (i_recv 6 2 (i_call k d 358 3 4 i_vret))))))))))))))
/-- SlabImageModel.writeList from 0 -/
def b_364 : am_B := fun k d => (i_aload 0 (i_int 12 (i_aload 0 (i_getf 6 10 (i_int 6 (i_iload 1 (i_ii (fun x y => x * y) (i_iload 2 (i_ii (fun x y => x + y) (i_iald 0 (i_recv 6 2 (i_call k d 361 3 3 (i_int 18 (i_iload 1 (i_ii (fun x y => x * y) (i_int 3 (i_iload 2 (i_ii (fun x y => x * y) (i_ii (fun x y => x + y) (i_istore 3 (k d 365)))))))))))))))))))))
/-- SlabImageModel.writeList from 26 -/
def b_365 : am_B := fun k d => (i_iload 3 (i_int 18 (i_iload 1 (i_ii (fun x y => x * y) (i_int 3 (i_iload 2 (i_ii (fun x y => x * y) (i_ii (fun x y => x + y) (i_aload 0 (i_getf 6 10 (i_int 6 (i_iload 1 (i_ii (fun x y => x * y) (i_iload 2 (i_ii (fun x y => x + y) (i_iald 0 (i_ii (fun x y => x + y) (i_cmpge i_vret (i_aload 0 (i_aload 0 (i_getf 6 11 (i_iload 3 (i_iald 0 (i_recv 6 1 (i_call k d 363 2 2 (i_aload 0 (i_aload 0 (i_getf 6 12 (i_iload 3 (i_iald 0 (i_int 4 (i_recv 6 2 (i_call k d 358 3 4 (i_aload 0 (i_int 2 (i_int 4 (i_recv 6 2 (i_call k d 358 3 4 (i_aload 0 (i_getf 6 21 (i_istore 4 (i_aload 0 (i_aload 0 (i_getf 6 13 (i_iload 3 (i_iald 0 (i_aload 0 (i_getf 6 12 (i_iload 3 (i_iald 0 (i_call k d 304 1 1 (i_recv 6 2 (i_call k d 358 3 4 (i_aload 0 (i_aload 0 (i_getf 6 14 (i_iload 3 (i_iald 0 (i_aload 0 (i_getf 6 12 (i_iload 3 (i_iald 0 (i_call k d 304 1 1 (i_recv 6 2 (i_call k d 358 3 4 (i_aload 0 (i_iload 4 (i_recv 6 1 (i_call k d 366 2 2 (i_iinc 3 1 (k d 365)))))))))))))))))))))))))))))))))))))))))))))))))))))))))))))))))))))))
/-- SlabImageModel.pad from 0 -/
def b_366 : am_B := fun k d => (i_aload 0 (i_getf 6 21 (i_iload 1 (i_ii (fun x y => x - y) (i_int 4 (i_idz (fun x y => x - x / y * y) (i_ifeq i_vret (i_aload 0 (i_int 0 (i_recv 6 1 (i_call k d 360 2 2 (k d 366))))))))))))
/-- SlabImageModel.writeVariable from 0 -/
def b_367 : am_B := fun k d => (i_int 5 (i_iload 1 (i_ii (fun x y => x * y) (i_iload 2 (i_ii (fun x y => x + y) (i_istore 3 (i_aload 0 (i_aload 0 (i_getf 6 6 (i_iload 3 (i_iald 0 (i_recv 6 1 (i_call k d 363 2 2 (i_aload 0 (i_aload 0 (i_getf 6 8 (i_iload 3 (i_iald 0 (i_int 4 (i_recv 6 2 (i_call k d 358 3 4 (i_int 0 (i_istore 4 (k d 368))))))))))))))))))))))))
/-- SlabImageModel.writeVariable from 30 -/
def b_368 : am_B := fun k d => (i_iload 4 (i_aload 0 (i_getf 6 8 (i_iload 3 (i_iald 0 (i_cmpge (i_aload 0 (i_iload 1 (i_iload 2 (i_int 1 (i_ii (fun x y => x + y) (i_recv 6 2 (i_call k d 364 3 5 (i_aload 0 (i_aload 0 (i_getf 6 7 (i_iload 3 (i_iald 0 (i_int 4 (i_recv 6 2 (i_call k d 358 3 4 (i_aload 0 (i_iload 1 (i_iload 2 (i_recv 6 2 (i_call k d 301 3 3 (i_istore 4 (i_aload 0 (i_iload 1 (i_iload 2 (i_recv 6 2 (i_call k d 284 3 7 (i_istore 5 (i_aload 0 (i_iload 4 (i_int 4 (i_recv 6 2 (i_call k d 358 3 4 (i_aload 0 (i_iload 5 (i_int 4 (i_recv 6 2 (i_call k d 358 3 4 i_vret))))))))))))))))))))))))))))))))))))) (i_aload 0 (i_aload 0 (i_getf 6 9 (i_int 2 (i_iload 3 (i_ii (fun x y => x * y) (i_iload 4 (i_ii (fun x y => x + y) (i_iald 0 (i_int 4 (i_recv 6 2 (i_call k d 358 3 4 (i_iinc 4 1 (k d 368))))))))))))))))))))
/-- SlabImageModel.writeCells from 0 -/
def b_369 : am_B := fun k d => (i_int 5 (i_iload 1 (i_ii (fun x y => x * y) (i_iload 2 (i_ii (fun x y => x + y) (i_istore 5 (i_aload 0 (i_iload 1 (i_iload 2 (i_recv 6 2 (i_call k d 302 3 4 (i_istore 6 (i_aload 0 (i_getf 6 21 (i_istore 7 (i_int 0 (i_istore 8 (k d 370))))))))))))))))))
/-- SlabImageModel.writeCells from 24 -/
def b_370 : am_B := fun k d => (i_iload 8 (i_iload 6 (i_cmpge (i_iload 4 (i_ifeq (k d 371) (i_aload 0 (i_iload 7 (i_recv 6 1 (i_call k d 366 2 2 (k d 371))))))) (i_aload 0 (i_aload 0 (i_getf 6 16 (i_int 800 (i_iload 5 (i_ii (fun x y => x * y) (i_iload 3 (i_iload 6 (i_ii (fun x y => x * y) (i_ii (fun x y => x + y) (i_iload 8 (i_ii (fun x y => x + y) (i_iald 0 (i_aload 0 (i_getf 6 7 (i_iload 5 (i_iald 0 (i_call k d 304 1 1 (i_recv 6 2 (i_call k d 358 3 4 (i_iinc 8 1 (k d 370)))))))))))))))))))))))))
/-- SlabImageModel.writeCells from 81 -/
def b_371 : am_B := fun k d => i_vret
/-- SlabImageModel.add from 0 -/
def b_372 : am_B := fun k d => (i_iload 3 (i_int 1 (i_cmplt (k d 373) (i_iload 3 (i_int 8 (i_cmpgt (k d 373) (i_aload 0 (i_getf 6 23 (i_iload 3 (i_ii (fun x y => x + y) (i_int 800 (i_cmple (i_int 0 (i_istore 4 (k d 374))) (k d 373)))))))))))))
/-- SlabImageModel.add from 23 -/
def b_373 : am_B := fun k d => (i_int 0 i_zret)
/-- SlabImageModel.add from 28 -/
def b_374 : am_B := fun k d => (i_iload 4 (i_iload 3 (i_cmpge (i_int 1 i_zret) (i_aload 0 (i_getf 6 22 (i_aload 0 (i_getf 6 23 (i_lload 1 (i_int 56 (i_int 8 (i_iload 4 (i_ii (fun x y => x * y) (i_ii (fun x y => x - y) (i_lsh (fun x y => x >>> (y.toInt64 &&& 63)) (i_long 255 (i_ll (fun x y => x &&& y) (i_l2i (i_iast 0 (fun x => x) (i_aload 0 (i_dup (i_getf 6 23 (i_int 1 (i_ii (fun x y => x + y) (i_putI 6 23 (i_iinc 4 1 (k d 374))))))))))))))))))))))))))
/-- SlabImageModel.erase from 0 -/
def b_375 : am_B := fun k d => (i_aload 0 (i_int 0 (i_putI 6 23 i_vret)))
/-- SlabImageModel.open from 0 -/
def b_376 : am_B := fun k d => (i_int 1 (i_aload 0 (i_getf 6 0 (i_ii (fun x y => x - y) (i_istore 1 (i_aload 0 (i_iload 1 (i_recv 6 1 (i_call k d 379 2 4 (i_ifeq (k d 377) (i_aload 0 (i_iload 1 (i_aload 0 (i_getf 6 15 (i_iload 1 (i_iald 0 (i_i2l (i_recv 6 2 (i_call k d 283 3 4 (i_aload 0 (i_getf 6 23 (i_i2l (i_lcmp (i_ifeq (i_aload 0 (i_iload 1 (i_recv 6 1 (i_call k d 414 2 5 (i_aload 0 (i_iload 1 (i_recv 6 1 (i_call k d 349 2 5 (i_int 0 (i_istore 2 (k d 378))))))))))) (k d 377)))))))))))))))))))))))))
/-- SlabImageModel.open from 36 -/
def b_377 : am_B := fun k d => (i_int (-9) i_iret)
/-- SlabImageModel.open from 51 -/
def b_378 : am_B := fun k d => (i_iload 2 (i_aload 0 (i_getf 6 23 (i_cmpge (i_aload 0 (i_iload 1 (i_putI 6 0 (i_aload 0 (i_int 1 (i_putZ 6 1 (i_aload 0 (i_getf 6 23 i_iret)))))))) (i_aload 0 (i_getf 6 20 (i_iload 2 (i_iald 0 (i_aload 0 (i_getf 6 22 (i_iload 2 (i_iald 0 (i_cmpeq (i_iinc 2 1 (k d 378)) (i_int (-9) i_iret))))))))))))))
/-- SlabImageModel.readHeader from 0 -/
def b_379 : am_B := fun k d => (i_aload 0 (i_int 4 (i_putI 6 24 (i_aload 0 (i_int 0 (i_putZ 6 25 (i_aload 0 (i_getf 6 15 (i_iload 1 (i_aload 0 (i_int 4 (i_recv 6 1 (i_call k d 385 2 4 (i_iast 0 (fun x => x) (i_aload 0 (i_getf 6 5 (i_iload 1 (i_int 0 (i_iast 0 (fun x => x) (i_aload 0 (i_iload 1 (i_recv 6 1 (i_call k d 390 2 6 (i_ifeq (k d 380) (i_aload 0 (i_iload 1 (i_int 0 (i_recv 6 2 (i_call k d 399 3 7 (i_ifne (i_aload 0 (i_int 5 (i_recv 6 1 (i_call k d 395 2 3 (i_istore 2 (i_int 0 (i_istore 3 (k d 381)))))))) (k d 380)))))))))))))))))))))))))))))))
/-- SlabImageModel.readHeader from 45 -/
def b_380 : am_B := fun k d => (i_int 0 i_zret)
/-- SlabImageModel.readHeader from 55 -/
def b_381 : am_B := fun k d => (i_iload 3 (i_iload 2 (i_cmpge (i_iload 2 (i_iflt (k d 383) (i_aload 0 (i_getf 6 25 (i_ifne (k d 383) (i_aload 0 (i_getf 6 15 (i_iload 1 (i_iald 0 (i_iflt (k d 383) (i_aload 0 (i_getf 6 15 (i_iload 1 (i_iald 0 (i_ifeq (k d 382) (i_aload 0 (i_iload 1 (i_recv 6 1 (i_call k d 311 2 4 (i_ifle (k d 383) (k d 382))))))))))))))))))))) (i_aload 0 (i_iload 1 (i_iload 3 (i_recv 6 2 (i_call k d 407 3 6 (i_ifne (i_aload 0 (i_getf 6 5 (i_iload 1 (i_iload 3 (i_int 1 (i_ii (fun x y => x + y) (i_iast 0 (fun x => x) (i_iinc 3 1 (k d 381))))))))) (i_int 0 i_zret))))))))))
/-- SlabImageModel.readHeader from 123 -/
def b_382 : am_B := fun k d => (i_int 1 (k d 384))
/-- SlabImageModel.readHeader from 127 -/
def b_383 : am_B := fun k d => (i_int 0 (k d 384))
/-- SlabImageModel.readHeader from 128 -/
def b_384 : am_B := fun k d => i_zret
/-- SlabImageModel.read from 0 -/
def b_385 : am_B := fun k d => (i_int 0 (i_istore 2 (i_aload 0 (i_aload 0 (i_getf 6 25 (i_ifne (k d 386) (i_aload 0 (i_getf 6 24 (i_iload 1 (i_ii (fun x y => x + y) (i_aload 0 (i_getf 6 23 (i_cmple (i_int 0 (k d 387)) (k d 386))))))))))))))
/-- SlabImageModel.read from 23 -/
def b_386 : am_B := fun k d => (i_int 1 (k d 387))
/-- SlabImageModel.read from 28 -/
def b_387 : am_B := fun k d => (i_putZ 6 25 (i_int 0 (i_istore 3 (k d 388))))
/-- SlabImageModel.read from 33 -/
def b_388 : am_B := fun k d => (i_iload 3 (i_iload 1 (i_cmpge (i_aload 0 (i_aload 0 (i_getf 6 24 (i_iload 1 (i_ii (fun x y => x + y) (i_putI 6 24 (i_iload 2 i_iret))))))) (i_iload 2 (i_int 8 (i_ii (fun x y => x <<< (y &&& 31)) (i_aload 0 (i_getf 6 25 (i_ifeq (i_aload 0 (i_getf 6 22 (i_aload 0 (i_getf 6 24 (i_iload 3 (i_ii (fun x y => x + y) (i_iald 0 (k d 389)))))))) (i_int 0 (k d 389)))))))))))
/-- SlabImageModel.read from 64 -/
def b_389 : am_B := fun k d => (i_ii (fun x y => x ||| y) (i_istore 2 (i_iinc 3 1 (k d 388))))
/-- SlabImageModel.readDimensions from 0 -/
def b_390 : am_B := fun k d => (i_aload 0 (i_int 4 (i_recv 6 1 (i_call k d 395 2 3 (i_istore 2 (i_aload 0 (i_getf 6 2 (i_iload 1 (i_int 0 (i_iast 0 (fun x => x) (i_int 0 (i_istore 3 (k d 391)))))))))))))
/-- SlabImageModel.readDimensions from 15 -/
def b_391 : am_B := fun k d => (i_iload 3 (i_iload 2 (i_cmpge (i_iload 2 (i_iflt (k d 393) (i_aload 0 (i_iload 1 (i_recv 6 1 (i_call k d 233 2 4 (i_int 1 (i_cmpgt (k d 393) (i_int 1 (k d 394)))))))))) (i_aload 0 (i_recv 6 0 (i_call k d 398 1 1 (i_istore 4 (i_aload 0 (i_int 4 (i_recv 6 1 (i_call k d 385 2 4 (i_istore 5 (i_iload 4 (i_call k d 225 1 1 (i_ifeq (k d 392) (i_iload 5 (i_iflt (k d 392) (i_iload 5 (i_int 8 (i_cmpgt (k d 392) (i_aload 0 (i_iload 1 (i_iload 4 (i_int (-1) (i_recv 6 3 (i_call k d 228 4 6 (i_ifeq (i_aload 0 (i_getf 6 3 (i_int 4 (i_iload 1 (i_ii (fun x y => x * y) (i_iload 3 (i_ii (fun x y => x + y) (i_iload 4 (i_iast 0 (fun x => x) (i_aload 0 (i_getf 6 4 (i_int 4 (i_iload 1 (i_ii (fun x y => x * y) (i_iload 3 (i_ii (fun x y => x + y) (i_iload 5 (i_iast 0 (fun x => x) (i_aload 0 (i_getf 6 2 (i_iload 1 (i_iload 3 (i_int 1 (i_ii (fun x y => x + y) (i_iast 0 (fun x => x) (i_iinc 3 1 (k d 391))))))))))))))))))))))))))) (k d 392))))))))))))))))))))))))))))
/-- SlabImageModel.readDimensions from 64 -/
def b_392 : am_B := fun k d => (i_int 0 i_zret)
/-- SlabImageModel.readDimensions from 122 -/
def b_393 : am_B := fun k d => (i_int 0 (k d 394))
/-- SlabImageModel.readDimensions from 123 -/
def b_394 : am_B := fun k d => i_zret
/-- SlabImageModel.readCount from 0 -/
def b_395 : am_B := fun k d => (i_aload 0 (i_int 4 (i_recv 6 1 (i_call k d 385 2 4 (i_pop (i_aload 0 (i_int 4 (i_recv 6 1 (i_call k d 385 2 4 (i_istore 2 (i_aload 0 (i_getf 6 25 (i_ifne (k d 396) (i_iload 2 (i_iflt (k d 396) (i_iload 2 (i_iload 1 (i_cmple (i_iload 2 (k d 397)) (k d 396)))))))))))))))))))
/-- SlabImageModel.readCount from 28 -/
def b_396 : am_B := fun k d => (i_int (-1) (k d 397))
/-- SlabImageModel.readCount from 33 -/
def b_397 : am_B := fun k d => i_iret
/-- SlabImageModel.readName from 0 -/
def b_398 : am_B := fun k d => (i_aload 0 (i_int 4 (i_recv 6 1 (i_call k d 385 2 4 (i_pop (i_aload 0 (i_int 4 (i_recv 6 1 (i_call k d 385 2 4 (i_int 24 (i_ii (fun x y => x >>> (y &&& 31)) (i_int 255 (i_ii (fun x y => x &&& y) i_iret)))))))))))))
/-- SlabImageModel.readList from 0 -/
def b_399 : am_B := fun k d => (i_aload 0 (i_int 3 (i_recv 6 1 (i_call k d 395 2 3 (i_istore 3 (i_aload 0 (i_getf 6 10 (i_int 6 (i_iload 1 (i_ii (fun x y => x * y) (i_iload 2 (i_ii (fun x y => x + y) (i_iload 3 (i_ifge (i_iload 3 (k d 400)) (i_int 0 (k d 400))))))))))))))))
/-- SlabImageModel.readList from 25 -/
def b_400 : am_B := fun k d => (i_iast 0 (fun x => x) (i_int 0 (i_istore 4 (k d 401))))
/-- SlabImageModel.readList from 29 -/
def b_401 : am_B := fun k d => (i_iload 4 (i_iload 3 (i_cmpge (i_iload 3 (i_iflt (i_int 0 (k d 404)) (i_int 1 (k d 404)))) (i_int 18 (i_iload 1 (i_ii (fun x y => x * y) (i_int 3 (i_iload 2 (i_ii (fun x y => x * y) (i_ii (fun x y => x + y) (i_iload 4 (i_ii (fun x y => x + y) (i_istore 5 (i_aload 0 (i_getf 6 11 (i_iload 5 (i_aload 0 (i_recv 6 0 (i_call k d 398 1 1 (i_iast 0 (fun x => x) (i_aload 0 (i_getf 6 12 (i_iload 5 (i_aload 0 (i_int 4 (i_recv 6 1 (i_call k d 385 2 4 (i_iast 0 (fun x => x) (i_aload 0 (i_int 4 (i_recv 6 1 (i_call k d 385 2 4 (i_pop (i_aload 0 (i_getf 6 11 (i_iload 5 (i_iald 0 (i_call k d 225 1 1 (i_ifeq (k d 402) (i_aload 0 (i_getf 6 12 (i_iload 5 (i_iald 0 (i_int 1 (i_cmplt (k d 402) (i_aload 0 (i_getf 6 12 (i_iload 5 (i_iald 0 (i_int 4 (i_cmple (i_int 0 (i_istore 6 (k d 403))) (k d 402))))))))))))))))))))))))))))))))))))))))))))))))))))
/-- SlabImageModel.readList from 112 -/
def b_402 : am_B := fun k d => (i_int 0 i_zret)
/-- SlabImageModel.readList from 117 -/
def b_403 : am_B := fun k d => (i_iload 6 (i_iload 4 (i_cmpge (i_aload 0 (i_getf 6 13 (i_iload 5 (i_aload 0 (i_aload 0 (i_getf 6 12 (i_iload 5 (i_iald 0 (i_recv 6 1 (i_call k d 405 2 3 (i_iast 0 (fun x => x) (i_aload 0 (i_getf 6 14 (i_iload 5 (i_aload 0 (i_aload 0 (i_getf 6 12 (i_iload 5 (i_iald 0 (i_recv 6 1 (i_call k d 405 2 3 (i_iast 0 (fun x => x) (i_aload 0 (i_aload 0 (i_getf 6 24 (i_int 3 (i_ii (fun x y => x + y) (i_int 4 (i_idz (fun x y => x / y) (i_int 4 (i_ii (fun x y => x * y) (i_putI 6 24 (i_iinc 4 1 (k d 401)))))))))))))))))))))))))))))))))) (i_aload 0 (i_getf 6 11 (i_iload 5 (i_int 1 (i_ii (fun x y => x - y) (i_iload 6 (i_ii (fun x y => x - y) (i_iald 0 (i_aload 0 (i_getf 6 11 (i_iload 5 (i_iald 0 (i_cmpne (i_iinc 6 1 (k d 403)) (i_int 0 i_zret)))))))))))))))))
/-- SlabImageModel.readList from 219 -/
def b_404 : am_B := fun k d => i_zret
/-- SlabImageModel.readOf from 0 -/
def b_405 : am_B := fun k d => (i_aload 0 (i_iload 1 (i_call k d 304 1 1 (i_recv 6 1 (i_call k d 385 2 4 (i_istore 2 (i_iload 1 (i_int 1 (i_cmpne (i_iload 1 (i_int 3 (i_cmpne (i_iload 2 (k d 406)) (i_iload 2 (i_i (fun x => x.toInt16.toInt32) (k d 406)))))) (i_iload 2 (i_i (fun x => x.toInt8.toInt32) (k d 406))))))))))))
/-- SlabImageModel.readOf from 30 -/
def b_406 : am_B := fun k d => i_iret
/-- SlabImageModel.readVariable from 0 -/
def b_407 : am_B := fun k d => (i_int 5 (i_iload 1 (i_ii (fun x y => x * y) (i_iload 2 (i_ii (fun x y => x + y) (i_istore 3 (i_aload 0 (i_getf 6 6 (i_iload 3 (i_aload 0 (i_recv 6 0 (i_call k d 398 1 1 (i_iast 0 (fun x => x) (i_aload 0 (i_getf 6 8 (i_iload 3 (i_aload 0 (i_int 4 (i_recv 6 1 (i_call k d 385 2 4 (i_iast 0 (fun x => x) (i_aload 0 (i_getf 6 6 (i_iload 3 (i_iald 0 (i_call k d 225 1 1 (i_ifeq (k d 408) (i_aload 0 (i_iload 1 (i_aload 0 (i_getf 6 6 (i_iload 3 (i_iald 0 (i_int (-1) (i_recv 6 3 (i_call k d 247 4 6 (i_ifne (k d 408) (i_aload 0 (i_getf 6 8 (i_iload 3 (i_iald 0 (i_iflt (k d 408) (i_aload 0 (i_getf 6 8 (i_iload 3 (i_iald 0 (i_int 2 (i_cmple (i_int 0 (i_istore 4 (k d 409))) (k d 408)))))))))))))))))))))))))))))))))))))))))))))))))
/-- SlabImageModel.readVariable from 73 -/
def b_408 : am_B := fun k d => (i_int 0 i_zret)
/-- SlabImageModel.readVariable from 78 -/
def b_409 : am_B := fun k d => (i_iload 4 (i_aload 0 (i_getf 6 8 (i_iload 3 (i_iald 0 (i_cmpge (i_aload 0 (i_iload 1 (i_iload 2 (i_int 1 (i_ii (fun x y => x + y) (i_recv 6 2 (i_call k d 399 3 7 (i_ifne (i_aload 0 (i_getf 6 7 (i_iload 3 (i_aload 0 (i_int 4 (i_recv 6 1 (i_call k d 385 2 4 (i_iast 0 (fun x => x) (i_aload 0 (i_int 4 (i_recv 6 1 (i_call k d 385 2 4 (i_pop (i_aload 0 (i_int 4 (i_recv 6 1 (i_call k d 385 2 4 (i_pop (i_aload 0 (i_getf 6 7 (i_iload 3 (i_iald 0 (i_int 1 (i_cmplt (k d 412) (i_aload 0 (i_getf 6 7 (i_iload 3 (i_iald 0 (i_int 4 (i_cmpgt (k d 412) (i_int 1 (k d 413)))))))))))))))))))))))))))))))) (i_int 0 i_zret))))))))) (i_aload 0 (i_int 4 (i_recv 6 1 (i_call k d 385 2 4 (i_istore 5 (i_iload 5 (i_iflt (k d 410) (i_iload 5 (i_aload 0 (i_getf 6 2 (i_iload 1 (i_iald 0 (i_cmpge (k d 410) (i_iload 4 (i_int 1 (i_cmpne (k d 411) (i_aload 0 (i_getf 6 4 (i_int 4 (i_iload 1 (i_ii (fun x y => x * y) (i_iload 5 (i_ii (fun x y => x + y) (i_iald 0 (i_ifne (k d 411) (k d 410))))))))))))))))))))))))))))))))
/-- SlabImageModel.readVariable from 132 -/
def b_410 : am_B := fun k d => (i_int 0 i_zret)
/-- SlabImageModel.readVariable from 134 -/
def b_411 : am_B := fun k d => (i_aload 0 (i_getf 6 9 (i_int 2 (i_iload 3 (i_ii (fun x y => x * y) (i_iload 4 (i_ii (fun x y => x + y) (i_iload 5 (i_iast 0 (fun x => x) (i_iinc 4 1 (k d 409)))))))))))
/-- SlabImageModel.readVariable from 213 -/
def b_412 : am_B := fun k d => (i_int 0 (k d 413))
/-- SlabImageModel.readVariable from 214 -/
def b_413 : am_B := fun k d => i_zret
/-- SlabImageModel.readAllCells from 0 -/
def b_414 : am_B := fun k d => (i_int 0 (i_istore 2 (k d 415)))
/-- SlabImageModel.readAllCells from 2 -/
def b_415 : am_B := fun k d => (i_iload 2 (i_aload 0 (i_getf 6 5 (i_iload 1 (i_iald 0 (i_cmpge (i_aload 0 (i_iload 1 (i_recv 6 1 (i_call k d 311 2 4 (i_int 1 (i_cmple (i_int 0 (k d 417)) (i_int 1 (k d 417)))))))) (i_aload 0 (i_iload 1 (i_iload 2 (i_recv 6 2 (i_call k d 252 3 4 (i_aload 0 (i_iload 1 (i_iload 2 (i_recv 6 2 (i_call k d 292 3 3 (i_ifne (k d 416) (i_aload 0 (i_iload 1 (i_iload 2 (i_int 0 (i_int 1 (i_recv 6 4 (i_call k d 421 5 8 (k d 416)))))))))))))))))))))))))
/-- SlabImageModel.readAllCells from 35 -/
def b_416 : am_B := fun k d => (i_iinc 2 1 (k d 415))
/-- SlabImageModel.readAllCells from 55 -/
def b_417 : am_B := fun k d => (i_istore 2 (i_int 0 (i_istore 3 (k d 418))))
/-- SlabImageModel.readAllCells from 58 -/
def b_418 : am_B := fun k d => (i_iload 3 (i_aload 0 (i_getf 6 15 (i_iload 1 (i_iald 0 (i_cmpge i_vret (i_int 0 (i_istore 4 (k d 419)))))))))
/-- SlabImageModel.readAllCells from 71 -/
def b_419 : am_B := fun k d => (i_iload 4 (i_aload 0 (i_getf 6 5 (i_iload 1 (i_iald 0 (i_cmpge (i_iinc 3 1 (k d 418)) (i_aload 0 (i_iload 1 (i_iload 4 (i_recv 6 2 (i_call k d 292 3 3 (i_ifeq (k d 420) (i_aload 0 (i_iload 1 (i_iload 4 (i_iload 3 (i_iload 2 (i_recv 6 4 (i_call k d 421 5 8 (k d 420))))))))))))))))))))
/-- SlabImageModel.readAllCells from 101 -/
def b_420 : am_B := fun k d => (i_iinc 4 1 (k d 419))
/-- SlabImageModel.readCells from 0 -/
def b_421 : am_B := fun k d => (i_int 5 (i_iload 1 (i_ii (fun x y => x * y) (i_iload 2 (i_ii (fun x y => x + y) (i_istore 5 (i_aload 0 (i_iload 1 (i_iload 2 (i_recv 6 2 (i_call k d 302 3 4 (i_istore 6 (i_int 0 (i_istore 7 (k d 422)))))))))))))))
/-- SlabImageModel.readCells from 18 -/
def b_422 : am_B := fun k d => (i_iload 7 (i_iload 6 (i_cmpge (i_aload 0 (i_iload 4 (i_ifeq (i_aload 0 (i_getf 6 24 (k d 423))) (i_aload 0 (i_getf 6 24 (i_int 3 (i_ii (fun x y => x + y) (i_int 4 (i_idz (fun x y => x / y) (i_int 4 (i_ii (fun x y => x * y) (k d 423)))))))))))) (i_aload 0 (i_getf 6 16 (i_int 800 (i_iload 5 (i_ii (fun x y => x * y) (i_iload 3 (i_iload 6 (i_ii (fun x y => x * y) (i_ii (fun x y => x + y) (i_iload 7 (i_ii (fun x y => x + y) (i_aload 0 (i_aload 0 (i_getf 6 7 (i_iload 5 (i_iald 0 (i_recv 6 1 (i_call k d 405 2 3 (i_iast 0 (fun x => x) (i_iinc 7 1 (k d 422))))))))))))))))))))))))
/-- SlabImageModel.readCells from 84 -/
def b_423 : am_B := fun k d => (i_putI 6 24 i_vret)
/-- SlabImageLaw.law from 0 -/
def b_424 : am_B := fun k d => (i_new 5 dvX5 (i_dup (i_recv 5 0 (i_call k d 0 1 1 (i_astore 1 (i_new 6 dvX6 (i_dup (i_recv 6 0 (i_call k d 220 1 1 (i_astore 2 (i_int 0 (i_istore 3 (k d 425)))))))))))))
/-- SlabImageLaw.law from 18 -/
def b_425 : am_B := fun k d => (i_iload 3 (i_aload 0 (i_alen (i_int 6 (i_ii (fun x y => x - y) (i_cmpgt (i_int 1 i_zret) (i_aload 0 (i_iload 3 (i_iald 0 (i_int 31 (i_ii (fun x y => x &&& y) (i_switch [(i_aload 1 (i_aload 0 (i_iload 3 (i_int 1 (i_ii (fun x y => x + y) (i_iald 0 (i_aload 0 (i_iload 3 (i_int 2 (i_ii (fun x y => x + y) (i_iald 0 (i_recv 5 2 (i_call k d 7 3 3 (i_aload 2 (i_aload 0 (i_iload 3 (i_int 1 (i_ii (fun x y => x + y) (i_iald 0 (i_aload 0 (i_iload 3 (i_int 2 (i_ii (fun x y => x + y) (i_iald 0 (i_recv 6 2 (i_call k d 221 3 4 (i_cmpeq (k d 428) (i_int 0 i_zret)))))))))))))))))))))))))))), (i_aload 1 (i_aload 0 (i_iload 3 (i_int 1 (i_ii (fun x y => x + y) (i_iald 0 (i_aload 0 (i_iload 3 (i_int 2 (i_ii (fun x y => x + y) (i_iald 0 (i_aload 0 (i_iload 3 (i_int 3 (i_ii (fun x y => x + y) (i_iald 0 (i_aload 0 (i_iload 3 (i_int 4 (i_ii (fun x y => x + y) (i_iald 0 (i_recv 5 4 (i_call k d 21 5 5 (i_aload 2 (i_aload 0 (i_iload 3 (i_int 1 (i_ii (fun x y => x + y) (i_iald 0 (i_aload 0 (i_iload 3 (i_int 2 (i_ii (fun x y => x + y) (i_iald 0 (i_aload 0 (i_iload 3 (i_int 3 (i_ii (fun x y => x + y) (i_iald 0 (i_aload 0 (i_iload 3 (i_int 4 (i_ii (fun x y => x + y) (i_iald 0 (i_recv 6 4 (i_call k d 236 5 7 (i_cmpeq (k d 428) (i_int 0 i_zret)))))))))))))))))))))))))))))))))))))))))))))))), (i_aload 1 (i_aload 0 (i_iload 3 (i_int 1 (i_ii (fun x y => x + y) (i_iald 0 (i_aload 0 (i_iload 3 (i_int 2 (i_ii (fun x y => x + y) (i_iald 0 (i_aload 0 (i_iload 3 (i_int 3 (i_ii (fun x y => x + y) (i_iald 0 (i_aload 0 (i_iload 3 (i_int 4 (i_ii (fun x y => x + y) (i_iald 0 (i_aload 0 (i_iload 3 (i_int 5 (i_ii (fun x y => x + y) (i_iald 0 (i_recv 5 5 (i_call k d 43 6 7 (i_aload 2 (i_aload 0 (i_iload 3 (i_int 1 (i_ii (fun x y => x + y) (i_iald 0 (i_aload 0 (i_iload 3 (i_int 2 (i_ii (fun x y => x + y) (i_iald 0 (i_aload 0 (i_iload 3 (i_int 3 (i_ii (fun x y => x + y) (i_iald 0 (i_aload 0 (i_iload 3 (i_int 4 (i_ii (fun x y => x + y) (i_iald 0 (i_aload 0 (i_iload 3 (i_int 5 (i_ii (fun x y => x + y) (i_iald 0 (i_recv 6 5 (i_call k d 256 6 8 (i_cmpeq (k d 428) (i_int 0 i_zret)))))))))))))))))))))))))))))))))))))))))))))))))))))))))), (i_aload 1 (i_aload 0 (i_iload 3 (i_int 1 (i_ii (fun x y => x + y) (i_iald 0 (i_aload 0 (i_iload 3 (i_int 2 (i_ii (fun x y => x + y) (i_iald 0 (i_recv 5 2 (i_call k d 57 3 4 (i_aload 2 (i_aload 0 (i_iload 3 (i_int 1 (i_ii (fun x y => x + y) (i_iald 0 (i_aload 0 (i_iload 3 (i_int 2 (i_ii (fun x y => x + y) (i_iald 0 (i_recv 6 2 (i_call k d 273 3 7 (i_cmpeq (k d 428) (i_int 0 i_zret)))))))))))))))))))))))))))), (i_aload 1 (i_aload 0 (i_iload 3 (i_int 1 (i_ii (fun x y => x + y) (i_iald 0 (i_ifeq (i_int 0 (k d 426)) (i_int 1 (k d 426))))))))), (i_aload 1 (i_recv 5 0 (i_call k d 68 1 3 (i_aload 2 (i_recv 6 0 (i_call k d 282 1 3 (i_cmpeq (k d 428) (i_int 0 i_zret)))))))), (i_aload 1 (i_recv 5 0 (i_call k d 91 1 1 (i_aload 2 (i_recv 6 0 (i_call k d 314 1 1 (i_cmpeq (k d 428) (i_int 0 i_zret)))))))), (i_aload 1 (i_aload 0 (i_iload 3 (i_int 1 (i_ii (fun x y => x + y) (i_iald 0 (i_aload 0 (i_iload 3 (i_int 2 (i_ii (fun x y => x + y) (i_iald 0 (i_aload 0 (i_iload 3 (i_int 3 (i_ii (fun x y => x + y) (i_iald 0 (i_aload 0 (i_iload 3 (i_int 4 (i_ii (fun x y => x + y) (i_iald 0 (i_recv 5 4 (i_call k d 92 5 6 (i_aload 2 (i_aload 0 (i_iload 3 (i_int 1 (i_ii (fun x y => x + y) (i_iald 0 (i_aload 0 (i_iload 3 (i_int 2 (i_ii (fun x y => x + y) (i_iald 0 (i_aload 0 (i_iload 3 (i_int 3 (i_ii (fun x y => x + y) (i_iald 0 (i_aload 0 (i_iload 3 (i_int 4 (i_ii (fun x y => x + y) (i_iald 0 (i_recv 6 4 (i_call k d 315 5 5 (i_cmpeq (k d 428) (i_int 0 i_zret)))))))))))))))))))))))))))))))))))))))))))))))), (i_aload 1 (i_aload 0 (i_iload 3 (i_int 1 (i_ii (fun x y => x + y) (i_iald 0 (i_aload 0 (i_iload 3 (i_int 2 (i_ii (fun x y => x + y) (i_iald 0 (i_aload 0 (i_iload 3 (i_int 3 (i_ii (fun x y => x + y) (i_iald 0 (i_recv 5 3 (i_call k d 101 4 5 (i_aload 2 (i_aload 0 (i_iload 3 (i_int 1 (i_ii (fun x y => x + y) (i_iald 0 (i_aload 0 (i_iload 3 (i_int 2 (i_ii (fun x y => x + y) (i_iald 0 (i_aload 0 (i_iload 3 (i_int 3 (i_ii (fun x y => x + y) (i_iald 0 (i_recv 6 3 (i_call k d 323 4 4 (i_lcmp (i_ifeq (k d 428) (i_int 0 i_zret))))))))))))))))))))))))))))))))))))))), (i_aload 1 (i_aload 0 (i_iload 3 (i_int 1 (i_ii (fun x y => x + y) (i_iald 0 (i_aload 0 (i_iload 3 (i_int 2 (i_ii (fun x y => x + y) (i_iald 0 (i_aload 0 (i_iload 3 (i_int 3 (i_ii (fun x y => x + y) (i_iald 0 (i_aload 0 (i_iload 3 (i_int 4 (i_ii (fun x y => x + y) (i_iald 0 (i_recv 5 4 (i_call k d 110 5 6 (i_aload 2 (i_aload 0 (i_iload 3 (i_int 1 (i_ii (fun x y => x + y) (i_iald 0 (i_aload 0 (i_iload 3 (i_int 2 (i_ii (fun x y => x + y) (i_iald 0 (i_aload 0 (i_iload 3 (i_int 3 (i_ii (fun x y => x + y) (i_iald 0 (i_aload 0 (i_iload 3 (i_int 4 (i_ii (fun x y => x + y) (i_iald 0 (i_recv 6 4 (i_call k d 325 5 5 (i_cmpeq (k d 428) (i_int 0 i_zret)))))))))))))))))))))))))))))))))))))))))))))))), (i_aload 1 (i_aload 0 (i_iload 3 (i_int 1 (i_ii (fun x y => x + y) (i_iald 0 (i_aload 0 (i_iload 3 (i_int 2 (i_ii (fun x y => x + y) (i_iald 0 (i_aload 0 (i_iload 3 (i_int 3 (i_ii (fun x y => x + y) (i_iald 0 (i_recv 5 3 (i_call k d 115 4 8 (i_aload 2 (i_aload 0 (i_iload 3 (i_int 1 (i_ii (fun x y => x + y) (i_iald 0 (i_aload 0 (i_iload 3 (i_int 2 (i_ii (fun x y => x + y) (i_iald 0 (i_aload 0 (i_iload 3 (i_int 3 (i_ii (fun x y => x + y) (i_iald 0 (i_recv 6 3 (i_call k d 328 4 6 (i_cmpeq (k d 428) (i_int 0 i_zret)))))))))))))))))))))))))))))))))))))), (i_aload 1 (i_aload 0 (i_iload 3 (i_int 1 (i_ii (fun x y => x + y) (i_iald 0 (i_aload 0 (i_iload 3 (i_int 2 (i_ii (fun x y => x + y) (i_iald 0 (i_recv 5 2 (i_call k d 127 3 6 (i_aload 2 (i_aload 0 (i_iload 3 (i_int 1 (i_ii (fun x y => x + y) (i_iald 0 (i_aload 0 (i_iload 3 (i_int 2 (i_ii (fun x y => x + y) (i_iald 0 (i_recv 6 2 (i_call k d 338 3 3 (i_lcmp (i_ifeq (k d 428) (i_int 0 i_zret))))))))))))))))))))))))))))), (i_aload 1 (i_recv 5 0 (i_call k d 129 1 1 (i_aload 2 (i_recv 6 0 (i_call k d 340 1 1 (i_cmpeq (k d 428) (i_int 0 i_zret)))))))), (i_aload 1 (i_recv 5 0 (i_call k d 130 1 1 (i_aload 2 (i_recv 6 0 (i_call k d 341 1 1 (i_cmpeq (k d 428) (i_int 0 i_zret)))))))), (i_aload 1 (i_aload 0 (i_iload 3 (i_int 1 (i_ii (fun x y => x + y) (i_iald 0 (i_recv 5 1 (i_call k d 132 2 2 (i_aload 2 (i_aload 0 (i_iload 3 (i_int 1 (i_ii (fun x y => x + y) (i_iald 0 (i_recv 6 1 (i_call k d 343 2 2 (i_cmpeq (k d 428) (i_int 0 i_zret)))))))))))))))))), (i_aload 1 (i_aload 0 (i_iload 3 (i_int 1 (i_ii (fun x y => x + y) (i_iald 0 (i_recv 5 1 (i_call k d 135 2 5 (i_aload 2 (i_aload 0 (i_iload 3 (i_int 1 (i_ii (fun x y => x + y) (i_iald 0 (i_recv 6 1 (i_call k d 345 2 7 (i_lcmp (i_ifeq (k d 428) (i_int 0 i_zret))))))))))))))))))), (i_aload 1 (i_aload 0 (i_iload 3 (i_int 1 (i_ii (fun x y => x + y) (i_iald 0 (i_i2l (i_int 32 (i_lsh (fun x y => x <<< (y.toInt64 &&& 63)) (i_aload 0 (i_iload 3 (i_int 2 (i_ii (fun x y => x + y) (i_iald 0 (i_i2l (i_long 4294967295 (i_ll (fun x y => x &&& y) (i_ll (fun x y => x ||| y) (i_aload 0 (i_iload 3 (i_int 3 (i_ii (fun x y => x + y) (i_iald 0 (i_recv 5 2 (i_call k d 171 3 5 (i_aload 2 (i_aload 0 (i_iload 3 (i_int 1 (i_ii (fun x y => x + y) (i_iald 0 (i_i2l (i_int 32 (i_lsh (fun x y => x <<< (y.toInt64 &&& 63)) (i_aload 0 (i_iload 3 (i_int 2 (i_ii (fun x y => x + y) (i_iald 0 (i_i2l (i_long 4294967295 (i_ll (fun x y => x &&& y) (i_ll (fun x y => x ||| y) (i_aload 0 (i_iload 3 (i_int 3 (i_ii (fun x y => x + y) (i_iald 0 (i_recv 6 2 (i_call k d 372 3 5 (i_cmpeq (k d 428) (i_int 0 i_zret)))))))))))))))))))))))))))))))))))))))))))))))))))), (i_aload 1 (i_recv 5 0 (i_call k d 174 1 1 (i_aload 2 (i_recv 6 0 (i_call k d 375 1 1 (k d 428))))))), (i_aload 1 (i_recv 5 0 (i_call k d 175 1 2 (i_aload 2 (i_recv 6 0 (i_call k d 376 1 3 (i_cmpeq (k d 428) (i_int 0 i_zret))))))))] (k d 428)))))))))))))
/-- SlabImageLaw.law from 320 -/
def b_426 : am_B := fun k d => (i_aload 0 (i_iload 3 (i_int 2 (i_ii (fun x y => x + y) (i_iald 0 (i_aload 0 (i_iload 3 (i_int 3 (i_ii (fun x y => x + y) (i_iald 0 (i_recv 5 3 (i_call k d 61 4 4 (i_aload 2 (i_aload 0 (i_iload 3 (i_int 1 (i_ii (fun x y => x + y) (i_iald 0 (i_ifeq (i_int 0 (k d 427)) (i_int 1 (k d 427)))))))))))))))))))))
/-- SlabImageLaw.law from 347 -/
def b_427 : am_B := fun k d => (i_aload 0 (i_iload 3 (i_int 2 (i_ii (fun x y => x + y) (i_iald 0 (i_aload 0 (i_iload 3 (i_int 3 (i_ii (fun x y => x + y) (i_iald 0 (i_recv 6 3 (i_call k d 276 4 4 (i_cmpeq (k d 428) (i_int 0 i_zret))))))))))))))
/-- SlabImageLaw.law from 778 -/
def b_428 : am_B := fun k d => (i_iinc 3 6 (k d 425))
def am_t0 : List ((am_I × Nat) × am_B) := [((I_0, 0), b_0), ((I_1, 0), b_1), ((I_1, 50), b_2), ((I_2, 0), b_3), ((I_3, 0), b_4), ((I_4, 0), b_5), ((I_5, 0), b_6), ((I_6, 0), b_7), ((I_6, 20), b_8), ((I_7, 0), b_9), ((I_7, 17), b_10), ((I_7, 57), b_11), ((I_7, 60), b_12), ((I_8, 0), b_13), ((I_8, 16), b_14), ((I_8, 17), b_15), ((I_9, 0), b_16), ((I_9, 2), b_17), ((I_9, 28), b_18), ((I_10, 0), b_19), ((I_10, 2), b_20), ((I_11, 0), b_21), ((I_11, 23), b_22), ((I_12, 0), b_23), ((I_12, 14), b_24), ((I_12, 45), b_25), ((I_12, 48), b_26), ((I_13, 0), b_27), ((I_13, 14), b_28), ((I_13, 15), b_29), ((I_14, 0), b_30), ((I_14, 13), b_31), ((I_14, 18), b_32), ((I_15, 0), b_33), ((I_15, 16), b_34), ((I_15, 17), b_35), ((I_16, 0), b_36), ((I_16, 18), b_37), ((I_17, 0), b_38), ((I_17, 20), b_39), ((I_18, 0), b_40), ((I_19, 0), b_41), ((I_19, 5), b_42), ((I_20, 0), b_43), ((I_20, 40), b_44), ((I_21, 0), b_45), ((I_21, 28), b_46), ((I_22, 0), b_47), ((I_22, 21), b_48), ((I_22, 22), b_49)]
def am_t1 : List ((am_I × Nat) × am_B) := [((I_23, 0), b_50), ((I_23, 14), b_51), ((I_23, 34), b_52), ((I_23, 83), b_53), ((I_24, 0), b_54), ((I_24, 22), b_55), ((I_24, 23), b_56), ((I_25, 0), b_57), ((I_25, 32), b_58), ((I_26, 0), b_59), ((I_26, 24), b_60), ((I_27, 0), b_61), ((I_27, 34), b_62), ((I_28, 0), b_63), ((I_29, 0), b_64), ((I_29, 9), b_65), ((I_29, 44), b_66), ((I_30, 0), b_67), ((I_31, 0), b_68), ((I_32, 0), b_69), ((I_33, 0), b_70), ((I_33, 23), b_71), ((I_34, 0), b_72), ((I_34, 5), b_73), ((I_35, 0), b_74), ((I_36, 0), b_75), ((I_37, 0), b_76), ((I_37, 23), b_77), ((I_38, 0), b_78), ((I_38, 5), b_79), ((I_38, 47), b_80), ((I_38, 53), b_81), ((I_39, 0), b_82), ((I_39, 23), b_83), ((I_40, 0), b_84), ((I_41, 0), b_85), ((I_41, 22), b_86), ((I_41, 52), b_87), ((I_42, 0), b_88), ((I_42, 4), b_89), ((I_42, 27), b_90), ((I_43, 0), b_91), ((I_44, 0), b_92), ((I_45, 0), b_93), ((I_45, 23), b_94), ((I_45, 43), b_95), ((I_45, 44), b_96), ((I_46, 0), b_97), ((I_46, 17), b_98), ((I_47, 0), b_99)]
def am_t2 : List ((am_I × Nat) × am_B) := [((I_47, 33), b_100), ((I_48, 0), b_101), ((I_48, 42), b_102), ((I_49, 0), b_103), ((I_49, 27), b_104), ((I_49, 31), b_105), ((I_49, 32), b_106), ((I_50, 0), b_107), ((I_50, 31), b_108), ((I_50, 39), b_109), ((I_51, 0), b_110), ((I_51, 12), b_111), ((I_51, 40), b_112), ((I_51, 58), b_113), ((I_52, 0), b_114), ((I_53, 0), b_115), ((I_54, 0), b_116), ((I_54, 18), b_117), ((I_55, 0), b_118), ((I_55, 19), b_119), ((I_56, 0), b_120), ((I_57, 0), b_121), ((I_57, 3), b_122), ((I_58, 0), b_123), ((I_58, 6), b_124), ((I_58, 18), b_125), ((I_59, 0), b_126), ((I_60, 0), b_127), ((I_60, 86), b_128), ((I_61, 0), b_129), ((I_62, 0), b_130), ((I_62, 27), b_131), ((I_63, 0), b_132), ((I_63, 33), b_133), ((I_64, 0), b_134), ((I_65, 0), b_135), ((I_65, 17), b_136), ((I_65, 35), b_137), ((I_66, 0), b_138), ((I_66, 30), b_139), ((I_66, 84), b_140), ((I_67, 0), b_141), ((I_68, 0), b_142), ((I_69, 0), b_143), ((I_69, 4), b_144), ((I_70, 0), b_145), ((I_70, 33), b_146), ((I_71, 0), b_147), ((I_71, 10), b_148), ((I_72, 0), b_149)]
def am_t3 : List ((am_I × Nat) × am_B) := [((I_73, 0), b_150), ((I_73, 12), b_151), ((I_74, 0), b_152), ((I_74, 15), b_153), ((I_75, 0), b_154), ((I_75, 44), b_155), ((I_75, 62), b_156), ((I_76, 0), b_157), ((I_76, 2), b_158), ((I_76, 24), b_159), ((I_76, 58), b_160), ((I_76, 77), b_161), ((I_76, 80), b_162), ((I_77, 0), b_163), ((I_77, 2), b_164), ((I_78, 0), b_165), ((I_78, 3), b_166), ((I_78, 45), b_167), ((I_79, 0), b_168), ((I_79, 25), b_169), ((I_79, 26), b_170), ((I_80, 0), b_171), ((I_80, 26), b_172), ((I_80, 31), b_173), ((I_81, 0), b_174), ((I_82, 0), b_175), ((I_83, 0), b_176), ((I_83, 24), b_177), ((I_84, 0), b_178), ((I_85, 0), b_179), ((I_85, 41), b_180), ((I_85, 58), b_181), ((I_85, 60), b_182), ((I_86, 0), b_183), ((I_87, 0), b_184), ((I_88, 0), b_185), ((I_88, 4), b_186), ((I_88, 41), b_187), ((I_89, 0), b_188), ((I_89, 14), b_189), ((I_89, 18), b_190), ((I_90, 0), b_191), ((I_91, 0), b_192), ((I_92, 0), b_193), ((I_92, 14), b_194), ((I_92, 18), b_195), ((I_93, 0), b_196), ((I_93, 29), b_197), ((I_94, 0), b_198), ((I_95, 0), b_199)]
def am_t4 : List ((am_I × Nat) × am_B) := [((I_95, 14), b_200), ((I_95, 18), b_201), ((I_96, 0), b_202), ((I_96, 22), b_203), ((I_96, 37), b_204), ((I_96, 53), b_205), ((I_96, 100), b_206), ((I_97, 0), b_207), ((I_97, 2), b_208), ((I_97, 24), b_209), ((I_97, 58), b_210), ((I_97, 77), b_211), ((I_97, 80), b_212), ((I_98, 0), b_213), ((I_98, 2), b_214), ((I_99, 0), b_215), ((I_99, 3), b_216), ((I_99, 45), b_217), ((I_100, 0), b_218), ((I_100, 15), b_219), ((I_101, 0), b_220), ((I_102, 0), b_221), ((I_102, 26), b_222), ((I_102, 73), b_223), ((I_102, 76), b_224), ((I_103, 0), b_225), ((I_103, 16), b_226), ((I_103, 17), b_227), ((I_104, 0), b_228), ((I_104, 6), b_229), ((I_104, 43), b_230), ((I_104, 47), b_231), ((I_104, 48), b_232), ((I_105, 0), b_233), ((I_105, 4), b_234), ((I_105, 34), b_235), ((I_106, 0), b_236), ((I_106, 26), b_237), ((I_106, 42), b_238), ((I_106, 57), b_239), ((I_106, 68), b_240), ((I_106, 71), b_241), ((I_106, 97), b_242), ((I_106, 193), b_243), ((I_107, 0), b_244), ((I_107, 21), b_245), ((I_107, 22), b_246), ((I_108, 0), b_247), ((I_108, 6), b_248), ((I_108, 43), b_249)]
def am_t5 : List ((am_I × Nat) × am_B) := [((I_108, 47), b_250), ((I_108, 48), b_251), ((I_109, 0), b_252), ((I_109, 2), b_253), ((I_110, 0), b_254), ((I_110, 32), b_255), ((I_111, 0), b_256), ((I_111, 25), b_257), ((I_111, 42), b_258), ((I_111, 63), b_259), ((I_111, 131), b_260), ((I_112, 0), b_261), ((I_112, 21), b_262), ((I_112, 22), b_263), ((I_113, 0), b_264), ((I_113, 24), b_265), ((I_113, 40), b_266), ((I_113, 57), b_267), ((I_113, 61), b_268), ((I_113, 62), b_269), ((I_114, 0), b_270), ((I_114, 30), b_271), ((I_114, 52), b_272), ((I_115, 0), b_273), ((I_115, 25), b_274), ((I_115, 75), b_275), ((I_116, 0), b_276), ((I_116, 32), b_277), ((I_116, 35), b_278), ((I_116, 78), b_279), ((I_116, 81), b_280), ((I_116, 116), b_281), ((I_117, 0), b_282), ((I_118, 0), b_283), ((I_119, 0), b_284), ((I_119, 19), b_285), ((I_119, 24), b_286), ((I_119, 35), b_287), ((I_119, 80), b_288), ((I_119, 94), b_289), ((I_119, 99), b_290), ((I_119, 121), b_291), ((I_120, 0), b_292), ((I_120, 15), b_293), ((I_121, 0), b_294), ((I_121, 42), b_295), ((I_122, 0), b_296), ((I_122, 25), b_297), ((I_123, 0), b_298), ((I_123, 6), b_299)]
def am_t6 : List ((am_I × Nat) × am_B) := [((I_123, 52), b_300), ((I_124, 0), b_301), ((I_125, 0), b_302), ((I_125, 17), b_303), ((I_126, 0), b_304), ((I_126, 19), b_305), ((I_127, 0), b_306), ((I_127, 16), b_307), ((I_127, 20), b_308), ((I_127, 67), b_309), ((I_127, 87), b_310), ((I_128, 0), b_311), ((I_128, 4), b_312), ((I_128, 30), b_313), ((I_129, 0), b_314), ((I_130, 0), b_315), ((I_131, 0), b_316), ((I_131, 30), b_317), ((I_131, 64), b_318), ((I_131, 93), b_319), ((I_132, 0), b_320), ((I_132, 27), b_321), ((I_133, 0), b_322), ((I_134, 0), b_323), ((I_134, 28), b_324), ((I_135, 0), b_325), ((I_135, 12), b_326), ((I_135, 40), b_327), ((I_136, 0), b_328), ((I_136, 50), b_329), ((I_136, 119), b_330), ((I_137, 0), b_331), ((I_137, 2), b_332), ((I_137, 15), b_333), ((I_138, 0), b_334), ((I_138, 27), b_335), ((I_139, 0), b_336), ((I_139, 39), b_337), ((I_140, 0), b_338), ((I_140, 45), b_339), ((I_141, 0), b_340), ((I_142, 0), b_341), ((I_142, 30), b_342), ((I_143, 0), b_343), ((I_143, 33), b_344), ((I_144, 0), b_345), ((I_144, 11), b_346), ((I_144, 26), b_347), ((I_144, 73), b_348), ((I_145, 0), b_349)]
def am_t7 : List ((am_I × Nat) × am_B) := [((I_145, 39), b_350), ((I_145, 100), b_351), ((I_145, 124), b_352), ((I_145, 151), b_353), ((I_145, 171), b_354), ((I_145, 174), b_355), ((I_145, 187), b_356), ((I_145, 217), b_357), ((I_146, 0), b_358), ((I_146, 4), b_359), ((I_147, 0), b_360), ((I_148, 0), b_361), ((I_148, 10), b_362), ((I_149, 0), b_363), ((I_150, 0), b_364), ((I_150, 26), b_365), ((I_151, 0), b_366), ((I_152, 0), b_367), ((I_152, 30), b_368), ((I_153, 0), b_369), ((I_153, 24), b_370), ((I_153, 81), b_371), ((I_154, 0), b_372), ((I_154, 23), b_373), ((I_154, 28), b_374), ((I_155, 0), b_375), ((I_156, 0), b_376), ((I_156, 36), b_377), ((I_156, 51), b_378), ((I_157, 0), b_379), ((I_157, 45), b_380), ((I_157, 55), b_381), ((I_157, 123), b_382), ((I_157, 127), b_383), ((I_157, 128), b_384), ((I_158, 0), b_385), ((I_158, 23), b_386), ((I_158, 28), b_387), ((I_158, 33), b_388), ((I_158, 64), b_389), ((I_159, 0), b_390), ((I_159, 15), b_391), ((I_159, 64), b_392), ((I_159, 122), b_393), ((I_159, 123), b_394), ((I_160, 0), b_395), ((I_160, 28), b_396), ((I_160, 33), b_397), ((I_161, 0), b_398), ((I_162, 0), b_399)]
def am_t8 : List ((am_I × Nat) × am_B) := [((I_162, 25), b_400), ((I_162, 29), b_401), ((I_162, 112), b_402), ((I_162, 117), b_403), ((I_162, 219), b_404), ((I_163, 0), b_405), ((I_163, 30), b_406), ((I_164, 0), b_407), ((I_164, 73), b_408), ((I_164, 78), b_409), ((I_164, 132), b_410), ((I_164, 134), b_411), ((I_164, 213), b_412), ((I_164, 214), b_413), ((I_165, 0), b_414), ((I_165, 2), b_415), ((I_165, 35), b_416), ((I_165, 55), b_417), ((I_165, 58), b_418), ((I_165, 71), b_419), ((I_165, 101), b_420), ((I_166, 0), b_421), ((I_166, 18), b_422), ((I_166, 84), b_423), ((I_167, 0), b_424), ((I_167, 18), b_425), ((I_167, 320), b_426), ((I_167, 347), b_427), ((I_167, 778), b_428)]
def am_tab : List ((am_I × Nat) × am_B) := am_t0 ++ (am_t1 ++ (am_t2 ++ (am_t3 ++ (am_t4 ++ (am_t5 ++ (am_t6 ++ (am_t7 ++ (am_t8))))))))
def am_N (lab : Nat) : Option (am_I × Nat) := (am_tab[lab]?).map fun e => e.1
def am_T (lab : Nat) : am_B := match am_tab[lab]? with
  | some e => e.2
  | none => fun _ _ _ _ _ => none
theorem n_0 : am_N 0 = some (I_0, 0) := rfl
theorem n_1 : am_N 1 = some (I_1, 0) := rfl
theorem n_2 : am_N 2 = some (I_1, 50) := rfl
theorem n_3 : am_N 3 = some (I_2, 0) := rfl
theorem n_4 : am_N 4 = some (I_3, 0) := rfl
theorem n_5 : am_N 5 = some (I_4, 0) := rfl
theorem n_6 : am_N 6 = some (I_5, 0) := rfl
theorem n_7 : am_N 7 = some (I_6, 0) := rfl
theorem n_8 : am_N 8 = some (I_6, 20) := rfl
theorem n_9 : am_N 9 = some (I_7, 0) := rfl
theorem n_10 : am_N 10 = some (I_7, 17) := rfl
theorem n_11 : am_N 11 = some (I_7, 57) := rfl
theorem n_12 : am_N 12 = some (I_7, 60) := rfl
theorem n_13 : am_N 13 = some (I_8, 0) := rfl
theorem n_14 : am_N 14 = some (I_8, 16) := rfl
theorem n_15 : am_N 15 = some (I_8, 17) := rfl
theorem n_16 : am_N 16 = some (I_9, 0) := rfl
theorem n_17 : am_N 17 = some (I_9, 2) := rfl
theorem n_18 : am_N 18 = some (I_9, 28) := rfl
theorem n_19 : am_N 19 = some (I_10, 0) := rfl
theorem n_20 : am_N 20 = some (I_10, 2) := rfl
theorem n_21 : am_N 21 = some (I_11, 0) := rfl
theorem n_22 : am_N 22 = some (I_11, 23) := rfl
theorem n_23 : am_N 23 = some (I_12, 0) := rfl
theorem n_24 : am_N 24 = some (I_12, 14) := rfl
theorem n_25 : am_N 25 = some (I_12, 45) := rfl
theorem n_26 : am_N 26 = some (I_12, 48) := rfl
theorem n_27 : am_N 27 = some (I_13, 0) := rfl
theorem n_28 : am_N 28 = some (I_13, 14) := rfl
theorem n_29 : am_N 29 = some (I_13, 15) := rfl
theorem n_30 : am_N 30 = some (I_14, 0) := rfl
theorem n_31 : am_N 31 = some (I_14, 13) := rfl
theorem n_32 : am_N 32 = some (I_14, 18) := rfl
theorem n_33 : am_N 33 = some (I_15, 0) := rfl
theorem n_34 : am_N 34 = some (I_15, 16) := rfl
theorem n_35 : am_N 35 = some (I_15, 17) := rfl
theorem n_36 : am_N 36 = some (I_16, 0) := rfl
theorem n_37 : am_N 37 = some (I_16, 18) := rfl
theorem n_38 : am_N 38 = some (I_17, 0) := rfl
theorem n_39 : am_N 39 = some (I_17, 20) := rfl
theorem n_40 : am_N 40 = some (I_18, 0) := rfl
theorem n_41 : am_N 41 = some (I_19, 0) := rfl
theorem n_42 : am_N 42 = some (I_19, 5) := rfl
theorem n_43 : am_N 43 = some (I_20, 0) := rfl
theorem n_44 : am_N 44 = some (I_20, 40) := rfl
theorem n_45 : am_N 45 = some (I_21, 0) := rfl
theorem n_46 : am_N 46 = some (I_21, 28) := rfl
theorem n_47 : am_N 47 = some (I_22, 0) := rfl
theorem n_48 : am_N 48 = some (I_22, 21) := rfl
theorem n_49 : am_N 49 = some (I_22, 22) := rfl
theorem n_50 : am_N 50 = some (I_23, 0) := rfl
theorem n_51 : am_N 51 = some (I_23, 14) := rfl
theorem n_52 : am_N 52 = some (I_23, 34) := rfl
theorem n_53 : am_N 53 = some (I_23, 83) := rfl
theorem n_54 : am_N 54 = some (I_24, 0) := rfl
theorem n_55 : am_N 55 = some (I_24, 22) := rfl
theorem n_56 : am_N 56 = some (I_24, 23) := rfl
theorem n_57 : am_N 57 = some (I_25, 0) := rfl
theorem n_58 : am_N 58 = some (I_25, 32) := rfl
theorem n_59 : am_N 59 = some (I_26, 0) := rfl
theorem n_60 : am_N 60 = some (I_26, 24) := rfl
theorem n_61 : am_N 61 = some (I_27, 0) := rfl
theorem n_62 : am_N 62 = some (I_27, 34) := rfl
theorem n_63 : am_N 63 = some (I_28, 0) := rfl
theorem n_64 : am_N 64 = some (I_29, 0) := rfl
theorem n_65 : am_N 65 = some (I_29, 9) := rfl
theorem n_66 : am_N 66 = some (I_29, 44) := rfl
theorem n_67 : am_N 67 = some (I_30, 0) := rfl
theorem n_68 : am_N 68 = some (I_31, 0) := rfl
theorem n_69 : am_N 69 = some (I_32, 0) := rfl
theorem n_70 : am_N 70 = some (I_33, 0) := rfl
theorem n_71 : am_N 71 = some (I_33, 23) := rfl
theorem n_72 : am_N 72 = some (I_34, 0) := rfl
theorem n_73 : am_N 73 = some (I_34, 5) := rfl
theorem n_74 : am_N 74 = some (I_35, 0) := rfl
theorem n_75 : am_N 75 = some (I_36, 0) := rfl
theorem n_76 : am_N 76 = some (I_37, 0) := rfl
theorem n_77 : am_N 77 = some (I_37, 23) := rfl
theorem n_78 : am_N 78 = some (I_38, 0) := rfl
theorem n_79 : am_N 79 = some (I_38, 5) := rfl
theorem n_80 : am_N 80 = some (I_38, 47) := rfl
theorem n_81 : am_N 81 = some (I_38, 53) := rfl
theorem n_82 : am_N 82 = some (I_39, 0) := rfl
theorem n_83 : am_N 83 = some (I_39, 23) := rfl
theorem n_84 : am_N 84 = some (I_40, 0) := rfl
theorem n_85 : am_N 85 = some (I_41, 0) := rfl
theorem n_86 : am_N 86 = some (I_41, 22) := rfl
theorem n_87 : am_N 87 = some (I_41, 52) := rfl
theorem n_88 : am_N 88 = some (I_42, 0) := rfl
theorem n_89 : am_N 89 = some (I_42, 4) := rfl
theorem n_90 : am_N 90 = some (I_42, 27) := rfl
theorem n_91 : am_N 91 = some (I_43, 0) := rfl
theorem n_92 : am_N 92 = some (I_44, 0) := rfl
theorem n_93 : am_N 93 = some (I_45, 0) := rfl
theorem n_94 : am_N 94 = some (I_45, 23) := rfl
theorem n_95 : am_N 95 = some (I_45, 43) := rfl
theorem n_96 : am_N 96 = some (I_45, 44) := rfl
theorem n_97 : am_N 97 = some (I_46, 0) := rfl
theorem n_98 : am_N 98 = some (I_46, 17) := rfl
theorem n_99 : am_N 99 = some (I_47, 0) := rfl
theorem n_100 : am_N 100 = some (I_47, 33) := rfl
theorem n_101 : am_N 101 = some (I_48, 0) := rfl
theorem n_102 : am_N 102 = some (I_48, 42) := rfl
theorem n_103 : am_N 103 = some (I_49, 0) := rfl
theorem n_104 : am_N 104 = some (I_49, 27) := rfl
theorem n_105 : am_N 105 = some (I_49, 31) := rfl
theorem n_106 : am_N 106 = some (I_49, 32) := rfl
theorem n_107 : am_N 107 = some (I_50, 0) := rfl
theorem n_108 : am_N 108 = some (I_50, 31) := rfl
theorem n_109 : am_N 109 = some (I_50, 39) := rfl
theorem n_110 : am_N 110 = some (I_51, 0) := rfl
theorem n_111 : am_N 111 = some (I_51, 12) := rfl
theorem n_112 : am_N 112 = some (I_51, 40) := rfl
theorem n_113 : am_N 113 = some (I_51, 58) := rfl
theorem n_114 : am_N 114 = some (I_52, 0) := rfl
theorem n_115 : am_N 115 = some (I_53, 0) := rfl
theorem n_116 : am_N 116 = some (I_54, 0) := rfl
theorem n_117 : am_N 117 = some (I_54, 18) := rfl
theorem n_118 : am_N 118 = some (I_55, 0) := rfl
theorem n_119 : am_N 119 = some (I_55, 19) := rfl
theorem n_120 : am_N 120 = some (I_56, 0) := rfl
theorem n_121 : am_N 121 = some (I_57, 0) := rfl
theorem n_122 : am_N 122 = some (I_57, 3) := rfl
theorem n_123 : am_N 123 = some (I_58, 0) := rfl
theorem n_124 : am_N 124 = some (I_58, 6) := rfl
theorem n_125 : am_N 125 = some (I_58, 18) := rfl
theorem n_126 : am_N 126 = some (I_59, 0) := rfl
theorem n_127 : am_N 127 = some (I_60, 0) := rfl
theorem n_128 : am_N 128 = some (I_60, 86) := rfl
theorem n_129 : am_N 129 = some (I_61, 0) := rfl
theorem n_130 : am_N 130 = some (I_62, 0) := rfl
theorem n_131 : am_N 131 = some (I_62, 27) := rfl
theorem n_132 : am_N 132 = some (I_63, 0) := rfl
theorem n_133 : am_N 133 = some (I_63, 33) := rfl
theorem n_134 : am_N 134 = some (I_64, 0) := rfl
theorem n_135 : am_N 135 = some (I_65, 0) := rfl
theorem n_136 : am_N 136 = some (I_65, 17) := rfl
theorem n_137 : am_N 137 = some (I_65, 35) := rfl
theorem n_138 : am_N 138 = some (I_66, 0) := rfl
theorem n_139 : am_N 139 = some (I_66, 30) := rfl
theorem n_140 : am_N 140 = some (I_66, 84) := rfl
theorem n_141 : am_N 141 = some (I_67, 0) := rfl
theorem n_142 : am_N 142 = some (I_68, 0) := rfl
theorem n_143 : am_N 143 = some (I_69, 0) := rfl
theorem n_144 : am_N 144 = some (I_69, 4) := rfl
theorem n_145 : am_N 145 = some (I_70, 0) := rfl
theorem n_146 : am_N 146 = some (I_70, 33) := rfl
theorem n_147 : am_N 147 = some (I_71, 0) := rfl
theorem n_148 : am_N 148 = some (I_71, 10) := rfl
theorem n_149 : am_N 149 = some (I_72, 0) := rfl
theorem n_150 : am_N 150 = some (I_73, 0) := rfl
theorem n_151 : am_N 151 = some (I_73, 12) := rfl
theorem n_152 : am_N 152 = some (I_74, 0) := rfl
theorem n_153 : am_N 153 = some (I_74, 15) := rfl
theorem n_154 : am_N 154 = some (I_75, 0) := rfl
theorem n_155 : am_N 155 = some (I_75, 44) := rfl
theorem n_156 : am_N 156 = some (I_75, 62) := rfl
theorem n_157 : am_N 157 = some (I_76, 0) := rfl
theorem n_158 : am_N 158 = some (I_76, 2) := rfl
theorem n_159 : am_N 159 = some (I_76, 24) := rfl
theorem n_160 : am_N 160 = some (I_76, 58) := rfl
theorem n_161 : am_N 161 = some (I_76, 77) := rfl
theorem n_162 : am_N 162 = some (I_76, 80) := rfl
theorem n_163 : am_N 163 = some (I_77, 0) := rfl
theorem n_164 : am_N 164 = some (I_77, 2) := rfl
theorem n_165 : am_N 165 = some (I_78, 0) := rfl
theorem n_166 : am_N 166 = some (I_78, 3) := rfl
theorem n_167 : am_N 167 = some (I_78, 45) := rfl
theorem n_168 : am_N 168 = some (I_79, 0) := rfl
theorem n_169 : am_N 169 = some (I_79, 25) := rfl
theorem n_170 : am_N 170 = some (I_79, 26) := rfl
theorem n_171 : am_N 171 = some (I_80, 0) := rfl
theorem n_172 : am_N 172 = some (I_80, 26) := rfl
theorem n_173 : am_N 173 = some (I_80, 31) := rfl
theorem n_174 : am_N 174 = some (I_81, 0) := rfl
theorem n_175 : am_N 175 = some (I_82, 0) := rfl
theorem n_176 : am_N 176 = some (I_83, 0) := rfl
theorem n_177 : am_N 177 = some (I_83, 24) := rfl
theorem n_178 : am_N 178 = some (I_84, 0) := rfl
theorem n_179 : am_N 179 = some (I_85, 0) := rfl
theorem n_180 : am_N 180 = some (I_85, 41) := rfl
theorem n_181 : am_N 181 = some (I_85, 58) := rfl
theorem n_182 : am_N 182 = some (I_85, 60) := rfl
theorem n_183 : am_N 183 = some (I_86, 0) := rfl
theorem n_184 : am_N 184 = some (I_87, 0) := rfl
theorem n_185 : am_N 185 = some (I_88, 0) := rfl
theorem n_186 : am_N 186 = some (I_88, 4) := rfl
theorem n_187 : am_N 187 = some (I_88, 41) := rfl
theorem n_188 : am_N 188 = some (I_89, 0) := rfl
theorem n_189 : am_N 189 = some (I_89, 14) := rfl
theorem n_190 : am_N 190 = some (I_89, 18) := rfl
theorem n_191 : am_N 191 = some (I_90, 0) := rfl
theorem n_192 : am_N 192 = some (I_91, 0) := rfl
theorem n_193 : am_N 193 = some (I_92, 0) := rfl
theorem n_194 : am_N 194 = some (I_92, 14) := rfl
theorem n_195 : am_N 195 = some (I_92, 18) := rfl
theorem n_196 : am_N 196 = some (I_93, 0) := rfl
theorem n_197 : am_N 197 = some (I_93, 29) := rfl
theorem n_198 : am_N 198 = some (I_94, 0) := rfl
theorem n_199 : am_N 199 = some (I_95, 0) := rfl
theorem n_200 : am_N 200 = some (I_95, 14) := rfl
theorem n_201 : am_N 201 = some (I_95, 18) := rfl
theorem n_202 : am_N 202 = some (I_96, 0) := rfl
theorem n_203 : am_N 203 = some (I_96, 22) := rfl
theorem n_204 : am_N 204 = some (I_96, 37) := rfl
theorem n_205 : am_N 205 = some (I_96, 53) := rfl
theorem n_206 : am_N 206 = some (I_96, 100) := rfl
theorem n_207 : am_N 207 = some (I_97, 0) := rfl
theorem n_208 : am_N 208 = some (I_97, 2) := rfl
theorem n_209 : am_N 209 = some (I_97, 24) := rfl
theorem n_210 : am_N 210 = some (I_97, 58) := rfl
theorem n_211 : am_N 211 = some (I_97, 77) := rfl
theorem n_212 : am_N 212 = some (I_97, 80) := rfl
theorem n_213 : am_N 213 = some (I_98, 0) := rfl
theorem n_214 : am_N 214 = some (I_98, 2) := rfl
theorem n_215 : am_N 215 = some (I_99, 0) := rfl
theorem n_216 : am_N 216 = some (I_99, 3) := rfl
theorem n_217 : am_N 217 = some (I_99, 45) := rfl
theorem n_218 : am_N 218 = some (I_100, 0) := rfl
theorem n_219 : am_N 219 = some (I_100, 15) := rfl
theorem n_220 : am_N 220 = some (I_101, 0) := rfl
theorem n_221 : am_N 221 = some (I_102, 0) := rfl
theorem n_222 : am_N 222 = some (I_102, 26) := rfl
theorem n_223 : am_N 223 = some (I_102, 73) := rfl
theorem n_224 : am_N 224 = some (I_102, 76) := rfl
theorem n_225 : am_N 225 = some (I_103, 0) := rfl
theorem n_226 : am_N 226 = some (I_103, 16) := rfl
theorem n_227 : am_N 227 = some (I_103, 17) := rfl
theorem n_228 : am_N 228 = some (I_104, 0) := rfl
theorem n_229 : am_N 229 = some (I_104, 6) := rfl
theorem n_230 : am_N 230 = some (I_104, 43) := rfl
theorem n_231 : am_N 231 = some (I_104, 47) := rfl
theorem n_232 : am_N 232 = some (I_104, 48) := rfl
theorem n_233 : am_N 233 = some (I_105, 0) := rfl
theorem n_234 : am_N 234 = some (I_105, 4) := rfl
theorem n_235 : am_N 235 = some (I_105, 34) := rfl
theorem n_236 : am_N 236 = some (I_106, 0) := rfl
theorem n_237 : am_N 237 = some (I_106, 26) := rfl
theorem n_238 : am_N 238 = some (I_106, 42) := rfl
theorem n_239 : am_N 239 = some (I_106, 57) := rfl
theorem n_240 : am_N 240 = some (I_106, 68) := rfl
theorem n_241 : am_N 241 = some (I_106, 71) := rfl
theorem n_242 : am_N 242 = some (I_106, 97) := rfl
theorem n_243 : am_N 243 = some (I_106, 193) := rfl
theorem n_244 : am_N 244 = some (I_107, 0) := rfl
theorem n_245 : am_N 245 = some (I_107, 21) := rfl
theorem n_246 : am_N 246 = some (I_107, 22) := rfl
theorem n_247 : am_N 247 = some (I_108, 0) := rfl
theorem n_248 : am_N 248 = some (I_108, 6) := rfl
theorem n_249 : am_N 249 = some (I_108, 43) := rfl
theorem n_250 : am_N 250 = some (I_108, 47) := rfl
theorem n_251 : am_N 251 = some (I_108, 48) := rfl
theorem n_252 : am_N 252 = some (I_109, 0) := rfl
theorem n_253 : am_N 253 = some (I_109, 2) := rfl
theorem n_254 : am_N 254 = some (I_110, 0) := rfl
theorem n_255 : am_N 255 = some (I_110, 32) := rfl
theorem n_256 : am_N 256 = some (I_111, 0) := rfl
theorem n_257 : am_N 257 = some (I_111, 25) := rfl
theorem n_258 : am_N 258 = some (I_111, 42) := rfl
theorem n_259 : am_N 259 = some (I_111, 63) := rfl
theorem n_260 : am_N 260 = some (I_111, 131) := rfl
theorem n_261 : am_N 261 = some (I_112, 0) := rfl
theorem n_262 : am_N 262 = some (I_112, 21) := rfl
theorem n_263 : am_N 263 = some (I_112, 22) := rfl
theorem n_264 : am_N 264 = some (I_113, 0) := rfl
theorem n_265 : am_N 265 = some (I_113, 24) := rfl
theorem n_266 : am_N 266 = some (I_113, 40) := rfl
theorem n_267 : am_N 267 = some (I_113, 57) := rfl
theorem n_268 : am_N 268 = some (I_113, 61) := rfl
theorem n_269 : am_N 269 = some (I_113, 62) := rfl
theorem n_270 : am_N 270 = some (I_114, 0) := rfl
theorem n_271 : am_N 271 = some (I_114, 30) := rfl
theorem n_272 : am_N 272 = some (I_114, 52) := rfl
theorem n_273 : am_N 273 = some (I_115, 0) := rfl
theorem n_274 : am_N 274 = some (I_115, 25) := rfl
theorem n_275 : am_N 275 = some (I_115, 75) := rfl
theorem n_276 : am_N 276 = some (I_116, 0) := rfl
theorem n_277 : am_N 277 = some (I_116, 32) := rfl
theorem n_278 : am_N 278 = some (I_116, 35) := rfl
theorem n_279 : am_N 279 = some (I_116, 78) := rfl
theorem n_280 : am_N 280 = some (I_116, 81) := rfl
theorem n_281 : am_N 281 = some (I_116, 116) := rfl
theorem n_282 : am_N 282 = some (I_117, 0) := rfl
theorem n_283 : am_N 283 = some (I_118, 0) := rfl
theorem n_284 : am_N 284 = some (I_119, 0) := rfl
theorem n_285 : am_N 285 = some (I_119, 19) := rfl
theorem n_286 : am_N 286 = some (I_119, 24) := rfl
theorem n_287 : am_N 287 = some (I_119, 35) := rfl
theorem n_288 : am_N 288 = some (I_119, 80) := rfl
theorem n_289 : am_N 289 = some (I_119, 94) := rfl
theorem n_290 : am_N 290 = some (I_119, 99) := rfl
theorem n_291 : am_N 291 = some (I_119, 121) := rfl
theorem n_292 : am_N 292 = some (I_120, 0) := rfl
theorem n_293 : am_N 293 = some (I_120, 15) := rfl
theorem n_294 : am_N 294 = some (I_121, 0) := rfl
theorem n_295 : am_N 295 = some (I_121, 42) := rfl
theorem n_296 : am_N 296 = some (I_122, 0) := rfl
theorem n_297 : am_N 297 = some (I_122, 25) := rfl
theorem n_298 : am_N 298 = some (I_123, 0) := rfl
theorem n_299 : am_N 299 = some (I_123, 6) := rfl
theorem n_300 : am_N 300 = some (I_123, 52) := rfl
theorem n_301 : am_N 301 = some (I_124, 0) := rfl
theorem n_302 : am_N 302 = some (I_125, 0) := rfl
theorem n_303 : am_N 303 = some (I_125, 17) := rfl
theorem n_304 : am_N 304 = some (I_126, 0) := rfl
theorem n_305 : am_N 305 = some (I_126, 19) := rfl
theorem n_306 : am_N 306 = some (I_127, 0) := rfl
theorem n_307 : am_N 307 = some (I_127, 16) := rfl
theorem n_308 : am_N 308 = some (I_127, 20) := rfl
theorem n_309 : am_N 309 = some (I_127, 67) := rfl
theorem n_310 : am_N 310 = some (I_127, 87) := rfl
theorem n_311 : am_N 311 = some (I_128, 0) := rfl
theorem n_312 : am_N 312 = some (I_128, 4) := rfl
theorem n_313 : am_N 313 = some (I_128, 30) := rfl
theorem n_314 : am_N 314 = some (I_129, 0) := rfl
theorem n_315 : am_N 315 = some (I_130, 0) := rfl
theorem n_316 : am_N 316 = some (I_131, 0) := rfl
theorem n_317 : am_N 317 = some (I_131, 30) := rfl
theorem n_318 : am_N 318 = some (I_131, 64) := rfl
theorem n_319 : am_N 319 = some (I_131, 93) := rfl
theorem n_320 : am_N 320 = some (I_132, 0) := rfl
theorem n_321 : am_N 321 = some (I_132, 27) := rfl
theorem n_322 : am_N 322 = some (I_133, 0) := rfl
theorem n_323 : am_N 323 = some (I_134, 0) := rfl
theorem n_324 : am_N 324 = some (I_134, 28) := rfl
theorem n_325 : am_N 325 = some (I_135, 0) := rfl
theorem n_326 : am_N 326 = some (I_135, 12) := rfl
theorem n_327 : am_N 327 = some (I_135, 40) := rfl
theorem n_328 : am_N 328 = some (I_136, 0) := rfl
theorem n_329 : am_N 329 = some (I_136, 50) := rfl
theorem n_330 : am_N 330 = some (I_136, 119) := rfl
theorem n_331 : am_N 331 = some (I_137, 0) := rfl
theorem n_332 : am_N 332 = some (I_137, 2) := rfl
theorem n_333 : am_N 333 = some (I_137, 15) := rfl
theorem n_334 : am_N 334 = some (I_138, 0) := rfl
theorem n_335 : am_N 335 = some (I_138, 27) := rfl
theorem n_336 : am_N 336 = some (I_139, 0) := rfl
theorem n_337 : am_N 337 = some (I_139, 39) := rfl
theorem n_338 : am_N 338 = some (I_140, 0) := rfl
theorem n_339 : am_N 339 = some (I_140, 45) := rfl
theorem n_340 : am_N 340 = some (I_141, 0) := rfl
theorem n_341 : am_N 341 = some (I_142, 0) := rfl
theorem n_342 : am_N 342 = some (I_142, 30) := rfl
theorem n_343 : am_N 343 = some (I_143, 0) := rfl
theorem n_344 : am_N 344 = some (I_143, 33) := rfl
theorem n_345 : am_N 345 = some (I_144, 0) := rfl
theorem n_346 : am_N 346 = some (I_144, 11) := rfl
theorem n_347 : am_N 347 = some (I_144, 26) := rfl
theorem n_348 : am_N 348 = some (I_144, 73) := rfl
theorem n_349 : am_N 349 = some (I_145, 0) := rfl
theorem n_350 : am_N 350 = some (I_145, 39) := rfl
theorem n_351 : am_N 351 = some (I_145, 100) := rfl
theorem n_352 : am_N 352 = some (I_145, 124) := rfl
theorem n_353 : am_N 353 = some (I_145, 151) := rfl
theorem n_354 : am_N 354 = some (I_145, 171) := rfl
theorem n_355 : am_N 355 = some (I_145, 174) := rfl
theorem n_356 : am_N 356 = some (I_145, 187) := rfl
theorem n_357 : am_N 357 = some (I_145, 217) := rfl
theorem n_358 : am_N 358 = some (I_146, 0) := rfl
theorem n_359 : am_N 359 = some (I_146, 4) := rfl
theorem n_360 : am_N 360 = some (I_147, 0) := rfl
theorem n_361 : am_N 361 = some (I_148, 0) := rfl
theorem n_362 : am_N 362 = some (I_148, 10) := rfl
theorem n_363 : am_N 363 = some (I_149, 0) := rfl
theorem n_364 : am_N 364 = some (I_150, 0) := rfl
theorem n_365 : am_N 365 = some (I_150, 26) := rfl
theorem n_366 : am_N 366 = some (I_151, 0) := rfl
theorem n_367 : am_N 367 = some (I_152, 0) := rfl
theorem n_368 : am_N 368 = some (I_152, 30) := rfl
theorem n_369 : am_N 369 = some (I_153, 0) := rfl
theorem n_370 : am_N 370 = some (I_153, 24) := rfl
theorem n_371 : am_N 371 = some (I_153, 81) := rfl
theorem n_372 : am_N 372 = some (I_154, 0) := rfl
theorem n_373 : am_N 373 = some (I_154, 23) := rfl
theorem n_374 : am_N 374 = some (I_154, 28) := rfl
theorem n_375 : am_N 375 = some (I_155, 0) := rfl
theorem n_376 : am_N 376 = some (I_156, 0) := rfl
theorem n_377 : am_N 377 = some (I_156, 36) := rfl
theorem n_378 : am_N 378 = some (I_156, 51) := rfl
theorem n_379 : am_N 379 = some (I_157, 0) := rfl
theorem n_380 : am_N 380 = some (I_157, 45) := rfl
theorem n_381 : am_N 381 = some (I_157, 55) := rfl
theorem n_382 : am_N 382 = some (I_157, 123) := rfl
theorem n_383 : am_N 383 = some (I_157, 127) := rfl
theorem n_384 : am_N 384 = some (I_157, 128) := rfl
theorem n_385 : am_N 385 = some (I_158, 0) := rfl
theorem n_386 : am_N 386 = some (I_158, 23) := rfl
theorem n_387 : am_N 387 = some (I_158, 28) := rfl
theorem n_388 : am_N 388 = some (I_158, 33) := rfl
theorem n_389 : am_N 389 = some (I_158, 64) := rfl
theorem n_390 : am_N 390 = some (I_159, 0) := rfl
theorem n_391 : am_N 391 = some (I_159, 15) := rfl
theorem n_392 : am_N 392 = some (I_159, 64) := rfl
theorem n_393 : am_N 393 = some (I_159, 122) := rfl
theorem n_394 : am_N 394 = some (I_159, 123) := rfl
theorem n_395 : am_N 395 = some (I_160, 0) := rfl
theorem n_396 : am_N 396 = some (I_160, 28) := rfl
theorem n_397 : am_N 397 = some (I_160, 33) := rfl
theorem n_398 : am_N 398 = some (I_161, 0) := rfl
theorem n_399 : am_N 399 = some (I_162, 0) := rfl
theorem n_400 : am_N 400 = some (I_162, 25) := rfl
theorem n_401 : am_N 401 = some (I_162, 29) := rfl
theorem n_402 : am_N 402 = some (I_162, 112) := rfl
theorem n_403 : am_N 403 = some (I_162, 117) := rfl
theorem n_404 : am_N 404 = some (I_162, 219) := rfl
theorem n_405 : am_N 405 = some (I_163, 0) := rfl
theorem n_406 : am_N 406 = some (I_163, 30) := rfl
theorem n_407 : am_N 407 = some (I_164, 0) := rfl
theorem n_408 : am_N 408 = some (I_164, 73) := rfl
theorem n_409 : am_N 409 = some (I_164, 78) := rfl
theorem n_410 : am_N 410 = some (I_164, 132) := rfl
theorem n_411 : am_N 411 = some (I_164, 134) := rfl
theorem n_412 : am_N 412 = some (I_164, 213) := rfl
theorem n_413 : am_N 413 = some (I_164, 214) := rfl
theorem n_414 : am_N 414 = some (I_165, 0) := rfl
theorem n_415 : am_N 415 = some (I_165, 2) := rfl
theorem n_416 : am_N 416 = some (I_165, 35) := rfl
theorem n_417 : am_N 417 = some (I_165, 55) := rfl
theorem n_418 : am_N 418 = some (I_165, 58) := rfl
theorem n_419 : am_N 419 = some (I_165, 71) := rfl
theorem n_420 : am_N 420 = some (I_165, 101) := rfl
theorem n_421 : am_N 421 = some (I_166, 0) := rfl
theorem n_422 : am_N 422 = some (I_166, 18) := rfl
theorem n_423 : am_N 423 = some (I_166, 84) := rfl
theorem n_424 : am_N 424 = some (I_167, 0) := rfl
theorem n_425 : am_N 425 = some (I_167, 18) := rfl
theorem n_426 : am_N 426 = some (I_167, 320) := rfl
theorem n_427 : am_N 427 = some (I_167, 347) := rfl
theorem n_428 : am_N 428 = some (I_167, 778) := rfl
theorem t_0 : am_T 0 = b_0 := rfl
theorem t_1 : am_T 1 = b_1 := rfl
theorem t_2 : am_T 2 = b_2 := rfl
theorem t_3 : am_T 3 = b_3 := rfl
theorem t_4 : am_T 4 = b_4 := rfl
theorem t_5 : am_T 5 = b_5 := rfl
theorem t_6 : am_T 6 = b_6 := rfl
theorem t_7 : am_T 7 = b_7 := rfl
theorem t_8 : am_T 8 = b_8 := rfl
theorem t_9 : am_T 9 = b_9 := rfl
theorem t_10 : am_T 10 = b_10 := rfl
theorem t_11 : am_T 11 = b_11 := rfl
theorem t_12 : am_T 12 = b_12 := rfl
theorem t_13 : am_T 13 = b_13 := rfl
theorem t_14 : am_T 14 = b_14 := rfl
theorem t_15 : am_T 15 = b_15 := rfl
theorem t_16 : am_T 16 = b_16 := rfl
theorem t_17 : am_T 17 = b_17 := rfl
theorem t_18 : am_T 18 = b_18 := rfl
theorem t_19 : am_T 19 = b_19 := rfl
theorem t_20 : am_T 20 = b_20 := rfl
theorem t_21 : am_T 21 = b_21 := rfl
theorem t_22 : am_T 22 = b_22 := rfl
theorem t_23 : am_T 23 = b_23 := rfl
theorem t_24 : am_T 24 = b_24 := rfl
theorem t_25 : am_T 25 = b_25 := rfl
theorem t_26 : am_T 26 = b_26 := rfl
theorem t_27 : am_T 27 = b_27 := rfl
theorem t_28 : am_T 28 = b_28 := rfl
theorem t_29 : am_T 29 = b_29 := rfl
theorem t_30 : am_T 30 = b_30 := rfl
theorem t_31 : am_T 31 = b_31 := rfl
theorem t_32 : am_T 32 = b_32 := rfl
theorem t_33 : am_T 33 = b_33 := rfl
theorem t_34 : am_T 34 = b_34 := rfl
theorem t_35 : am_T 35 = b_35 := rfl
theorem t_36 : am_T 36 = b_36 := rfl
theorem t_37 : am_T 37 = b_37 := rfl
theorem t_38 : am_T 38 = b_38 := rfl
theorem t_39 : am_T 39 = b_39 := rfl
theorem t_40 : am_T 40 = b_40 := rfl
theorem t_41 : am_T 41 = b_41 := rfl
theorem t_42 : am_T 42 = b_42 := rfl
theorem t_43 : am_T 43 = b_43 := rfl
theorem t_44 : am_T 44 = b_44 := rfl
theorem t_45 : am_T 45 = b_45 := rfl
theorem t_46 : am_T 46 = b_46 := rfl
theorem t_47 : am_T 47 = b_47 := rfl
theorem t_48 : am_T 48 = b_48 := rfl
theorem t_49 : am_T 49 = b_49 := rfl
theorem t_50 : am_T 50 = b_50 := rfl
theorem t_51 : am_T 51 = b_51 := rfl
theorem t_52 : am_T 52 = b_52 := rfl
theorem t_53 : am_T 53 = b_53 := rfl
theorem t_54 : am_T 54 = b_54 := rfl
theorem t_55 : am_T 55 = b_55 := rfl
theorem t_56 : am_T 56 = b_56 := rfl
theorem t_57 : am_T 57 = b_57 := rfl
theorem t_58 : am_T 58 = b_58 := rfl
theorem t_59 : am_T 59 = b_59 := rfl
theorem t_60 : am_T 60 = b_60 := rfl
theorem t_61 : am_T 61 = b_61 := rfl
theorem t_62 : am_T 62 = b_62 := rfl
theorem t_63 : am_T 63 = b_63 := rfl
theorem t_64 : am_T 64 = b_64 := rfl
theorem t_65 : am_T 65 = b_65 := rfl
theorem t_66 : am_T 66 = b_66 := rfl
theorem t_67 : am_T 67 = b_67 := rfl
theorem t_68 : am_T 68 = b_68 := rfl
theorem t_69 : am_T 69 = b_69 := rfl
theorem t_70 : am_T 70 = b_70 := rfl
theorem t_71 : am_T 71 = b_71 := rfl
theorem t_72 : am_T 72 = b_72 := rfl
theorem t_73 : am_T 73 = b_73 := rfl
theorem t_74 : am_T 74 = b_74 := rfl
theorem t_75 : am_T 75 = b_75 := rfl
theorem t_76 : am_T 76 = b_76 := rfl
theorem t_77 : am_T 77 = b_77 := rfl
theorem t_78 : am_T 78 = b_78 := rfl
theorem t_79 : am_T 79 = b_79 := rfl
theorem t_80 : am_T 80 = b_80 := rfl
theorem t_81 : am_T 81 = b_81 := rfl
theorem t_82 : am_T 82 = b_82 := rfl
theorem t_83 : am_T 83 = b_83 := rfl
theorem t_84 : am_T 84 = b_84 := rfl
theorem t_85 : am_T 85 = b_85 := rfl
theorem t_86 : am_T 86 = b_86 := rfl
theorem t_87 : am_T 87 = b_87 := rfl
theorem t_88 : am_T 88 = b_88 := rfl
theorem t_89 : am_T 89 = b_89 := rfl
theorem t_90 : am_T 90 = b_90 := rfl
theorem t_91 : am_T 91 = b_91 := rfl
theorem t_92 : am_T 92 = b_92 := rfl
theorem t_93 : am_T 93 = b_93 := rfl
theorem t_94 : am_T 94 = b_94 := rfl
theorem t_95 : am_T 95 = b_95 := rfl
theorem t_96 : am_T 96 = b_96 := rfl
theorem t_97 : am_T 97 = b_97 := rfl
theorem t_98 : am_T 98 = b_98 := rfl
theorem t_99 : am_T 99 = b_99 := rfl
theorem t_100 : am_T 100 = b_100 := rfl
theorem t_101 : am_T 101 = b_101 := rfl
theorem t_102 : am_T 102 = b_102 := rfl
theorem t_103 : am_T 103 = b_103 := rfl
theorem t_104 : am_T 104 = b_104 := rfl
theorem t_105 : am_T 105 = b_105 := rfl
theorem t_106 : am_T 106 = b_106 := rfl
theorem t_107 : am_T 107 = b_107 := rfl
theorem t_108 : am_T 108 = b_108 := rfl
theorem t_109 : am_T 109 = b_109 := rfl
theorem t_110 : am_T 110 = b_110 := rfl
theorem t_111 : am_T 111 = b_111 := rfl
theorem t_112 : am_T 112 = b_112 := rfl
theorem t_113 : am_T 113 = b_113 := rfl
theorem t_114 : am_T 114 = b_114 := rfl
theorem t_115 : am_T 115 = b_115 := rfl
theorem t_116 : am_T 116 = b_116 := rfl
theorem t_117 : am_T 117 = b_117 := rfl
theorem t_118 : am_T 118 = b_118 := rfl
theorem t_119 : am_T 119 = b_119 := rfl
theorem t_120 : am_T 120 = b_120 := rfl
theorem t_121 : am_T 121 = b_121 := rfl
theorem t_122 : am_T 122 = b_122 := rfl
theorem t_123 : am_T 123 = b_123 := rfl
theorem t_124 : am_T 124 = b_124 := rfl
theorem t_125 : am_T 125 = b_125 := rfl
theorem t_126 : am_T 126 = b_126 := rfl
theorem t_127 : am_T 127 = b_127 := rfl
theorem t_128 : am_T 128 = b_128 := rfl
theorem t_129 : am_T 129 = b_129 := rfl
theorem t_130 : am_T 130 = b_130 := rfl
theorem t_131 : am_T 131 = b_131 := rfl
theorem t_132 : am_T 132 = b_132 := rfl
theorem t_133 : am_T 133 = b_133 := rfl
theorem t_134 : am_T 134 = b_134 := rfl
theorem t_135 : am_T 135 = b_135 := rfl
theorem t_136 : am_T 136 = b_136 := rfl
theorem t_137 : am_T 137 = b_137 := rfl
theorem t_138 : am_T 138 = b_138 := rfl
theorem t_139 : am_T 139 = b_139 := rfl
theorem t_140 : am_T 140 = b_140 := rfl
theorem t_141 : am_T 141 = b_141 := rfl
theorem t_142 : am_T 142 = b_142 := rfl
theorem t_143 : am_T 143 = b_143 := rfl
theorem t_144 : am_T 144 = b_144 := rfl
theorem t_145 : am_T 145 = b_145 := rfl
theorem t_146 : am_T 146 = b_146 := rfl
theorem t_147 : am_T 147 = b_147 := rfl
theorem t_148 : am_T 148 = b_148 := rfl
theorem t_149 : am_T 149 = b_149 := rfl
theorem t_150 : am_T 150 = b_150 := rfl
theorem t_151 : am_T 151 = b_151 := rfl
theorem t_152 : am_T 152 = b_152 := rfl
theorem t_153 : am_T 153 = b_153 := rfl
theorem t_154 : am_T 154 = b_154 := rfl
theorem t_155 : am_T 155 = b_155 := rfl
theorem t_156 : am_T 156 = b_156 := rfl
theorem t_157 : am_T 157 = b_157 := rfl
theorem t_158 : am_T 158 = b_158 := rfl
theorem t_159 : am_T 159 = b_159 := rfl
theorem t_160 : am_T 160 = b_160 := rfl
theorem t_161 : am_T 161 = b_161 := rfl
theorem t_162 : am_T 162 = b_162 := rfl
theorem t_163 : am_T 163 = b_163 := rfl
theorem t_164 : am_T 164 = b_164 := rfl
theorem t_165 : am_T 165 = b_165 := rfl
theorem t_166 : am_T 166 = b_166 := rfl
theorem t_167 : am_T 167 = b_167 := rfl
theorem t_168 : am_T 168 = b_168 := rfl
theorem t_169 : am_T 169 = b_169 := rfl
theorem t_170 : am_T 170 = b_170 := rfl
theorem t_171 : am_T 171 = b_171 := rfl
theorem t_172 : am_T 172 = b_172 := rfl
theorem t_173 : am_T 173 = b_173 := rfl
theorem t_174 : am_T 174 = b_174 := rfl
theorem t_175 : am_T 175 = b_175 := rfl
theorem t_176 : am_T 176 = b_176 := rfl
theorem t_177 : am_T 177 = b_177 := rfl
theorem t_178 : am_T 178 = b_178 := rfl
theorem t_179 : am_T 179 = b_179 := rfl
theorem t_180 : am_T 180 = b_180 := rfl
theorem t_181 : am_T 181 = b_181 := rfl
theorem t_182 : am_T 182 = b_182 := rfl
theorem t_183 : am_T 183 = b_183 := rfl
theorem t_184 : am_T 184 = b_184 := rfl
theorem t_185 : am_T 185 = b_185 := rfl
theorem t_186 : am_T 186 = b_186 := rfl
theorem t_187 : am_T 187 = b_187 := rfl
theorem t_188 : am_T 188 = b_188 := rfl
theorem t_189 : am_T 189 = b_189 := rfl
theorem t_190 : am_T 190 = b_190 := rfl
theorem t_191 : am_T 191 = b_191 := rfl
theorem t_192 : am_T 192 = b_192 := rfl
theorem t_193 : am_T 193 = b_193 := rfl
theorem t_194 : am_T 194 = b_194 := rfl
theorem t_195 : am_T 195 = b_195 := rfl
theorem t_196 : am_T 196 = b_196 := rfl
theorem t_197 : am_T 197 = b_197 := rfl
theorem t_198 : am_T 198 = b_198 := rfl
theorem t_199 : am_T 199 = b_199 := rfl
theorem t_200 : am_T 200 = b_200 := rfl
theorem t_201 : am_T 201 = b_201 := rfl
theorem t_202 : am_T 202 = b_202 := rfl
theorem t_203 : am_T 203 = b_203 := rfl
theorem t_204 : am_T 204 = b_204 := rfl
theorem t_205 : am_T 205 = b_205 := rfl
theorem t_206 : am_T 206 = b_206 := rfl
theorem t_207 : am_T 207 = b_207 := rfl
theorem t_208 : am_T 208 = b_208 := rfl
theorem t_209 : am_T 209 = b_209 := rfl
theorem t_210 : am_T 210 = b_210 := rfl
theorem t_211 : am_T 211 = b_211 := rfl
theorem t_212 : am_T 212 = b_212 := rfl
theorem t_213 : am_T 213 = b_213 := rfl
theorem t_214 : am_T 214 = b_214 := rfl
theorem t_215 : am_T 215 = b_215 := rfl
theorem t_216 : am_T 216 = b_216 := rfl
theorem t_217 : am_T 217 = b_217 := rfl
theorem t_218 : am_T 218 = b_218 := rfl
theorem t_219 : am_T 219 = b_219 := rfl
theorem t_220 : am_T 220 = b_220 := rfl
theorem t_221 : am_T 221 = b_221 := rfl
theorem t_222 : am_T 222 = b_222 := rfl
theorem t_223 : am_T 223 = b_223 := rfl
theorem t_224 : am_T 224 = b_224 := rfl
theorem t_225 : am_T 225 = b_225 := rfl
theorem t_226 : am_T 226 = b_226 := rfl
theorem t_227 : am_T 227 = b_227 := rfl
theorem t_228 : am_T 228 = b_228 := rfl
theorem t_229 : am_T 229 = b_229 := rfl
theorem t_230 : am_T 230 = b_230 := rfl
theorem t_231 : am_T 231 = b_231 := rfl
theorem t_232 : am_T 232 = b_232 := rfl
theorem t_233 : am_T 233 = b_233 := rfl
theorem t_234 : am_T 234 = b_234 := rfl
theorem t_235 : am_T 235 = b_235 := rfl
theorem t_236 : am_T 236 = b_236 := rfl
theorem t_237 : am_T 237 = b_237 := rfl
theorem t_238 : am_T 238 = b_238 := rfl
theorem t_239 : am_T 239 = b_239 := rfl
theorem t_240 : am_T 240 = b_240 := rfl
theorem t_241 : am_T 241 = b_241 := rfl
theorem t_242 : am_T 242 = b_242 := rfl
theorem t_243 : am_T 243 = b_243 := rfl
theorem t_244 : am_T 244 = b_244 := rfl
theorem t_245 : am_T 245 = b_245 := rfl
theorem t_246 : am_T 246 = b_246 := rfl
theorem t_247 : am_T 247 = b_247 := rfl
theorem t_248 : am_T 248 = b_248 := rfl
theorem t_249 : am_T 249 = b_249 := rfl
theorem t_250 : am_T 250 = b_250 := rfl
theorem t_251 : am_T 251 = b_251 := rfl
theorem t_252 : am_T 252 = b_252 := rfl
theorem t_253 : am_T 253 = b_253 := rfl
theorem t_254 : am_T 254 = b_254 := rfl
theorem t_255 : am_T 255 = b_255 := rfl
theorem t_256 : am_T 256 = b_256 := rfl
theorem t_257 : am_T 257 = b_257 := rfl
theorem t_258 : am_T 258 = b_258 := rfl
theorem t_259 : am_T 259 = b_259 := rfl
theorem t_260 : am_T 260 = b_260 := rfl
theorem t_261 : am_T 261 = b_261 := rfl
theorem t_262 : am_T 262 = b_262 := rfl
theorem t_263 : am_T 263 = b_263 := rfl
theorem t_264 : am_T 264 = b_264 := rfl
theorem t_265 : am_T 265 = b_265 := rfl
theorem t_266 : am_T 266 = b_266 := rfl
theorem t_267 : am_T 267 = b_267 := rfl
theorem t_268 : am_T 268 = b_268 := rfl
theorem t_269 : am_T 269 = b_269 := rfl
theorem t_270 : am_T 270 = b_270 := rfl
theorem t_271 : am_T 271 = b_271 := rfl
theorem t_272 : am_T 272 = b_272 := rfl
theorem t_273 : am_T 273 = b_273 := rfl
theorem t_274 : am_T 274 = b_274 := rfl
theorem t_275 : am_T 275 = b_275 := rfl
theorem t_276 : am_T 276 = b_276 := rfl
theorem t_277 : am_T 277 = b_277 := rfl
theorem t_278 : am_T 278 = b_278 := rfl
theorem t_279 : am_T 279 = b_279 := rfl
theorem t_280 : am_T 280 = b_280 := rfl
theorem t_281 : am_T 281 = b_281 := rfl
theorem t_282 : am_T 282 = b_282 := rfl
theorem t_283 : am_T 283 = b_283 := rfl
theorem t_284 : am_T 284 = b_284 := rfl
theorem t_285 : am_T 285 = b_285 := rfl
theorem t_286 : am_T 286 = b_286 := rfl
theorem t_287 : am_T 287 = b_287 := rfl
theorem t_288 : am_T 288 = b_288 := rfl
theorem t_289 : am_T 289 = b_289 := rfl
theorem t_290 : am_T 290 = b_290 := rfl
theorem t_291 : am_T 291 = b_291 := rfl
theorem t_292 : am_T 292 = b_292 := rfl
theorem t_293 : am_T 293 = b_293 := rfl
theorem t_294 : am_T 294 = b_294 := rfl
theorem t_295 : am_T 295 = b_295 := rfl
theorem t_296 : am_T 296 = b_296 := rfl
theorem t_297 : am_T 297 = b_297 := rfl
theorem t_298 : am_T 298 = b_298 := rfl
theorem t_299 : am_T 299 = b_299 := rfl
theorem t_300 : am_T 300 = b_300 := rfl
theorem t_301 : am_T 301 = b_301 := rfl
theorem t_302 : am_T 302 = b_302 := rfl
theorem t_303 : am_T 303 = b_303 := rfl
theorem t_304 : am_T 304 = b_304 := rfl
theorem t_305 : am_T 305 = b_305 := rfl
theorem t_306 : am_T 306 = b_306 := rfl
theorem t_307 : am_T 307 = b_307 := rfl
theorem t_308 : am_T 308 = b_308 := rfl
theorem t_309 : am_T 309 = b_309 := rfl
theorem t_310 : am_T 310 = b_310 := rfl
theorem t_311 : am_T 311 = b_311 := rfl
theorem t_312 : am_T 312 = b_312 := rfl
theorem t_313 : am_T 313 = b_313 := rfl
theorem t_314 : am_T 314 = b_314 := rfl
theorem t_315 : am_T 315 = b_315 := rfl
theorem t_316 : am_T 316 = b_316 := rfl
theorem t_317 : am_T 317 = b_317 := rfl
theorem t_318 : am_T 318 = b_318 := rfl
theorem t_319 : am_T 319 = b_319 := rfl
theorem t_320 : am_T 320 = b_320 := rfl
theorem t_321 : am_T 321 = b_321 := rfl
theorem t_322 : am_T 322 = b_322 := rfl
theorem t_323 : am_T 323 = b_323 := rfl
theorem t_324 : am_T 324 = b_324 := rfl
theorem t_325 : am_T 325 = b_325 := rfl
theorem t_326 : am_T 326 = b_326 := rfl
theorem t_327 : am_T 327 = b_327 := rfl
theorem t_328 : am_T 328 = b_328 := rfl
theorem t_329 : am_T 329 = b_329 := rfl
theorem t_330 : am_T 330 = b_330 := rfl
theorem t_331 : am_T 331 = b_331 := rfl
theorem t_332 : am_T 332 = b_332 := rfl
theorem t_333 : am_T 333 = b_333 := rfl
theorem t_334 : am_T 334 = b_334 := rfl
theorem t_335 : am_T 335 = b_335 := rfl
theorem t_336 : am_T 336 = b_336 := rfl
theorem t_337 : am_T 337 = b_337 := rfl
theorem t_338 : am_T 338 = b_338 := rfl
theorem t_339 : am_T 339 = b_339 := rfl
theorem t_340 : am_T 340 = b_340 := rfl
theorem t_341 : am_T 341 = b_341 := rfl
theorem t_342 : am_T 342 = b_342 := rfl
theorem t_343 : am_T 343 = b_343 := rfl
theorem t_344 : am_T 344 = b_344 := rfl
theorem t_345 : am_T 345 = b_345 := rfl
theorem t_346 : am_T 346 = b_346 := rfl
theorem t_347 : am_T 347 = b_347 := rfl
theorem t_348 : am_T 348 = b_348 := rfl
theorem t_349 : am_T 349 = b_349 := rfl
theorem t_350 : am_T 350 = b_350 := rfl
theorem t_351 : am_T 351 = b_351 := rfl
theorem t_352 : am_T 352 = b_352 := rfl
theorem t_353 : am_T 353 = b_353 := rfl
theorem t_354 : am_T 354 = b_354 := rfl
theorem t_355 : am_T 355 = b_355 := rfl
theorem t_356 : am_T 356 = b_356 := rfl
theorem t_357 : am_T 357 = b_357 := rfl
theorem t_358 : am_T 358 = b_358 := rfl
theorem t_359 : am_T 359 = b_359 := rfl
theorem t_360 : am_T 360 = b_360 := rfl
theorem t_361 : am_T 361 = b_361 := rfl
theorem t_362 : am_T 362 = b_362 := rfl
theorem t_363 : am_T 363 = b_363 := rfl
theorem t_364 : am_T 364 = b_364 := rfl
theorem t_365 : am_T 365 = b_365 := rfl
theorem t_366 : am_T 366 = b_366 := rfl
theorem t_367 : am_T 367 = b_367 := rfl
theorem t_368 : am_T 368 = b_368 := rfl
theorem t_369 : am_T 369 = b_369 := rfl
theorem t_370 : am_T 370 = b_370 := rfl
theorem t_371 : am_T 371 = b_371 := rfl
theorem t_372 : am_T 372 = b_372 := rfl
theorem t_373 : am_T 373 = b_373 := rfl
theorem t_374 : am_T 374 = b_374 := rfl
theorem t_375 : am_T 375 = b_375 := rfl
theorem t_376 : am_T 376 = b_376 := rfl
theorem t_377 : am_T 377 = b_377 := rfl
theorem t_378 : am_T 378 = b_378 := rfl
theorem t_379 : am_T 379 = b_379 := rfl
theorem t_380 : am_T 380 = b_380 := rfl
theorem t_381 : am_T 381 = b_381 := rfl
theorem t_382 : am_T 382 = b_382 := rfl
theorem t_383 : am_T 383 = b_383 := rfl
theorem t_384 : am_T 384 = b_384 := rfl
theorem t_385 : am_T 385 = b_385 := rfl
theorem t_386 : am_T 386 = b_386 := rfl
theorem t_387 : am_T 387 = b_387 := rfl
theorem t_388 : am_T 388 = b_388 := rfl
theorem t_389 : am_T 389 = b_389 := rfl
theorem t_390 : am_T 390 = b_390 := rfl
theorem t_391 : am_T 391 = b_391 := rfl
theorem t_392 : am_T 392 = b_392 := rfl
theorem t_393 : am_T 393 = b_393 := rfl
theorem t_394 : am_T 394 = b_394 := rfl
theorem t_395 : am_T 395 = b_395 := rfl
theorem t_396 : am_T 396 = b_396 := rfl
theorem t_397 : am_T 397 = b_397 := rfl
theorem t_398 : am_T 398 = b_398 := rfl
theorem t_399 : am_T 399 = b_399 := rfl
theorem t_400 : am_T 400 = b_400 := rfl
theorem t_401 : am_T 401 = b_401 := rfl
theorem t_402 : am_T 402 = b_402 := rfl
theorem t_403 : am_T 403 = b_403 := rfl
theorem t_404 : am_T 404 = b_404 := rfl
theorem t_405 : am_T 405 = b_405 := rfl
theorem t_406 : am_T 406 = b_406 := rfl
theorem t_407 : am_T 407 = b_407 := rfl
theorem t_408 : am_T 408 = b_408 := rfl
theorem t_409 : am_T 409 = b_409 := rfl
theorem t_410 : am_T 410 = b_410 := rfl
theorem t_411 : am_T 411 = b_411 := rfl
theorem t_412 : am_T 412 = b_412 := rfl
theorem t_413 : am_T 413 = b_413 := rfl
theorem t_414 : am_T 414 = b_414 := rfl
theorem t_415 : am_T 415 = b_415 := rfl
theorem t_416 : am_T 416 = b_416 := rfl
theorem t_417 : am_T 417 = b_417 := rfl
theorem t_418 : am_T 418 = b_418 := rfl
theorem t_419 : am_T 419 = b_419 := rfl
theorem t_420 : am_T 420 = b_420 := rfl
theorem t_421 : am_T 421 = b_421 := rfl
theorem t_422 : am_T 422 = b_422 := rfl
theorem t_423 : am_T 423 = b_423 := rfl
theorem t_424 : am_T 424 = b_424 := rfl
theorem t_425 : am_T 425 = b_425 := rfl
theorem t_426 : am_T 426 = b_426 := rfl
theorem t_427 : am_T 427 = b_427 := rfl
theorem t_428 : am_T 428 = b_428 := rfl
end
